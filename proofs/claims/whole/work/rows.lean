section
-- ===== PART A: goes FIRST, ahead of the names: the tables' words, and 'selects' of the private methods out of them =====
/-- a private method of a class that the tables say can be made, by its rows of tables_1 -/
def lw_okq (q : MethodName × Nat) : Prop := (q.1.cls ≠ "java/lang/invoke/MethodHandle" ∧ q.1.cls ≠ "java/lang/invoke/VarHandle") ∧ Cond.instantiable q.1.cls q.2 ∈ tables_1 ∧ Cond.privateMethod q.1 ∈ tables_1 ∧ Cond.instanceMethod q.1 ∈ tables_1
theorem lw_p0 : lw_okq (⟨"GluedWall$Footing", "reach", "(I)V"⟩, 3) := ⟨⟨by decide +kernel, by decide +kernel⟩, List.mem_of_getElem? (i := 102) (by decide +kernel), List.mem_of_getElem? (i := 246) (by decide +kernel), List.mem_of_getElem? (i := 247) (by decide +kernel)⟩
theorem lw_p1 : lw_okq (⟨"GluedWall$Growth", "lookAround", "(LGluedWall$Wall;I)Z"⟩, 3) := ⟨⟨by decide +kernel, by decide +kernel⟩, List.mem_of_getElem? (i := 119) (by decide +kernel), List.mem_of_getElem? (i := 300) (by decide +kernel), List.mem_of_getElem? (i := 301) (by decide +kernel)⟩
theorem lw_p2 : lw_okq (⟨"GluedWall$Growth", "bestFor", "(LGluedWall$Wall;I)I"⟩, 3) := ⟨⟨by decide +kernel, by decide +kernel⟩, List.mem_of_getElem? (i := 119) (by decide +kernel), List.mem_of_getElem? (i := 308) (by decide +kernel), List.mem_of_getElem? (i := 309) (by decide +kernel)⟩
theorem lw_p3 : lw_okq (⟨"GluedWall$Growth", "holdIfFit", "(LGluedWall$Wall;I)I"⟩, 3) := ⟨⟨by decide +kernel, by decide +kernel⟩, List.mem_of_getElem? (i := 119) (by decide +kernel), List.mem_of_getElem? (i := 312) (by decide +kernel), List.mem_of_getElem? (i := 313) (by decide +kernel)⟩
theorem lw_p4 : lw_okq (⟨"GluedWall$Mason", "refuse", "(II)I"⟩, 4) := ⟨⟨by decide +kernel, by decide +kernel⟩, List.mem_of_getElem? (i := 137) (by decide +kernel), List.mem_of_getElem? (i := 365) (by decide +kernel), List.mem_of_getElem? (i := 366) (by decide +kernel)⟩
theorem lw_p5 : lw_okq (⟨"GluedWall", "settled", "(I)I"⟩, 13) := ⟨⟨by decide +kernel, by decide +kernel⟩, List.mem_of_getElem? (i := 23) (by decide +kernel), List.mem_of_getElem? (i := 369) (by decide +kernel), List.mem_of_getElem? (i := 370) (by decide +kernel)⟩
theorem lw_p6 : lw_okq (⟨"java/lang/Throwable", "fillInStackTrace", "(I)Ljava/lang/Throwable;"⟩, 6) := ⟨⟨by decide +kernel, by decide +kernel⟩, List.mem_of_getElem? (i := 423) (by decide +kernel), List.mem_of_getElem? (i := 421) (by decide +kernel), List.mem_of_getElem? (i := 422) (by decide +kernel)⟩
theorem lw_p7 : lw_okq (⟨"GluedWall", "placeByHold", "(I)I"⟩, 13) := ⟨⟨by decide +kernel, by decide +kernel⟩, List.mem_of_getElem? (i := 23) (by decide +kernel), List.mem_of_getElem? (i := 761) (by decide +kernel), List.mem_of_getElem? (i := 762) (by decide +kernel)⟩
theorem lw_p8 : lw_okq (⟨"GluedWall$Text", "readCommand", "()Z"⟩, 6) := ⟨⟨by decide +kernel, by decide +kernel⟩, List.mem_of_getElem? (i := 158) (by decide +kernel), List.mem_of_getElem? (i := 810) (by decide +kernel), List.mem_of_getElem? (i := 811) (by decide +kernel)⟩
theorem lw_p9 : lw_okq (⟨"GluedWall$Text", "here", "()C"⟩, 6) := ⟨⟨by decide +kernel, by decide +kernel⟩, List.mem_of_getElem? (i := 158) (by decide +kernel), List.mem_of_getElem? (i := 814) (by decide +kernel), List.mem_of_getElem? (i := 815) (by decide +kernel)⟩
theorem lw_p10 : lw_okq (⟨"GluedWall$Text", "readDigits", "(I)Z"⟩, 6) := ⟨⟨by decide +kernel, by decide +kernel⟩, List.mem_of_getElem? (i := 158) (by decide +kernel), List.mem_of_getElem? (i := 818) (by decide +kernel), List.mem_of_getElem? (i := 819) (by decide +kernel)⟩
theorem lw_p11 : lw_okq (⟨"GluedWall$Text", "readDigit", "(I)Z"⟩, 6) := ⟨⟨by decide +kernel, by decide +kernel⟩, List.mem_of_getElem? (i := 158) (by decide +kernel), List.mem_of_getElem? (i := 822) (by decide +kernel), List.mem_of_getElem? (i := 823) (by decide +kernel)⟩
theorem lw_p12 : lw_okq (⟨"GluedWall$Text", "note", "(II)V"⟩, 6) := ⟨⟨by decide +kernel, by decide +kernel⟩, List.mem_of_getElem? (i := 158) (by decide +kernel), List.mem_of_getElem? (i := 826) (by decide +kernel), List.mem_of_getElem? (i := 827) (by decide +kernel)⟩
theorem lw_p13 : lw_okq (⟨"GluedWall$Text", "readPlaceAndBrick", "()Z"⟩, 6) := ⟨⟨by decide +kernel, by decide +kernel⟩, List.mem_of_getElem? (i := 158) (by decide +kernel), List.mem_of_getElem? (i := 830) (by decide +kernel), List.mem_of_getElem? (i := 831) (by decide +kernel)⟩
theorem lw_p14 : lw_okq (⟨"GluedWall$Text", "readNumber", "(I)Z"⟩, 6) := ⟨⟨by decide +kernel, by decide +kernel⟩, List.mem_of_getElem? (i := 158) (by decide +kernel), List.mem_of_getElem? (i := 834) (by decide +kernel), List.mem_of_getElem? (i := 835) (by decide +kernel)⟩
theorem lw_p15 : lw_okq (⟨"GluedWall$Text", "skip", "(C)Z"⟩, 6) := ⟨⟨by decide +kernel, by decide +kernel⟩, List.mem_of_getElem? (i := 158) (by decide +kernel), List.mem_of_getElem? (i := 842) (by decide +kernel), List.mem_of_getElem? (i := 843) (by decide +kernel)⟩
def lw_privs_1 : List (MethodName × Nat) := [(⟨"GluedWall$Footing", "reach", "(I)V"⟩, 3), (⟨"GluedWall$Growth", "lookAround", "(LGluedWall$Wall;I)Z"⟩, 3), (⟨"GluedWall$Growth", "bestFor", "(LGluedWall$Wall;I)I"⟩, 3), (⟨"GluedWall$Growth", "holdIfFit", "(LGluedWall$Wall;I)I"⟩, 3), (⟨"GluedWall$Mason", "refuse", "(II)I"⟩, 4), (⟨"GluedWall", "settled", "(I)I"⟩, 13), (⟨"java/lang/Throwable", "fillInStackTrace", "(I)Ljava/lang/Throwable;"⟩, 6), (⟨"GluedWall", "placeByHold", "(I)I"⟩, 13), (⟨"GluedWall$Text", "readCommand", "()Z"⟩, 6), (⟨"GluedWall$Text", "here", "()C"⟩, 6), (⟨"GluedWall$Text", "readDigits", "(I)Z"⟩, 6), (⟨"GluedWall$Text", "readDigit", "(I)Z"⟩, 6), (⟨"GluedWall$Text", "note", "(II)V"⟩, 6), (⟨"GluedWall$Text", "readPlaceAndBrick", "()Z"⟩, 6), (⟨"GluedWall$Text", "readNumber", "(I)Z"⟩, 6), (⟨"GluedWall$Text", "skip", "(C)Z"⟩, 6)]
theorem lw_r1 : ∀ q ∈ lw_privs_1, lw_okq q := List.forall_mem_cons.mpr ⟨lw_p0, List.forall_mem_cons.mpr ⟨lw_p1, List.forall_mem_cons.mpr ⟨lw_p2, List.forall_mem_cons.mpr ⟨lw_p3, List.forall_mem_cons.mpr ⟨lw_p4, List.forall_mem_cons.mpr ⟨lw_p5, List.forall_mem_cons.mpr ⟨lw_p6, List.forall_mem_cons.mpr ⟨lw_p7, List.forall_mem_cons.mpr ⟨lw_p8, List.forall_mem_cons.mpr ⟨lw_p9, List.forall_mem_cons.mpr ⟨lw_p10, List.forall_mem_cons.mpr ⟨lw_p11, List.forall_mem_cons.mpr ⟨lw_p12, List.forall_mem_cons.mpr ⟨lw_p13, List.forall_mem_cons.mpr ⟨lw_p14, List.forall_mem_cons.mpr ⟨lw_p15, fun _ h => absurd h List.not_mem_nil⟩⟩⟩⟩⟩⟩⟩⟩⟩⟩⟩⟩⟩⟩⟩⟩
theorem lw_p16 : lw_okq (⟨"GluedWall", "carryOut", "(I)I"⟩, 13) := ⟨⟨by decide +kernel, by decide +kernel⟩, List.mem_of_getElem? (i := 23) (by decide +kernel), List.mem_of_getElem? (i := 851) (by decide +kernel), List.mem_of_getElem? (i := 852) (by decide +kernel)⟩
theorem lw_p17 : lw_okq (⟨"GluedWall", "writePlace", "(I)V"⟩, 13) := ⟨⟨by decide +kernel, by decide +kernel⟩, List.mem_of_getElem? (i := 23) (by decide +kernel), List.mem_of_getElem? (i := 878) (by decide +kernel), List.mem_of_getElem? (i := 879) (by decide +kernel)⟩
theorem lw_p18 : lw_okq (⟨"GluedWall", "writeSign", "(C)V"⟩, 13) := ⟨⟨by decide +kernel, by decide +kernel⟩, List.mem_of_getElem? (i := 23) (by decide +kernel), List.mem_of_getElem? (i := 882) (by decide +kernel), List.mem_of_getElem? (i := 883) (by decide +kernel)⟩
theorem lw_p19 : lw_okq (⟨"GluedWallModel", "refuses", "(II)I"⟩, 22) := ⟨⟨by decide +kernel, by decide +kernel⟩, List.mem_of_getElem? (i := 965) (by decide +kernel), List.mem_of_getElem? (i := 1049) (by decide +kernel), List.mem_of_getElem? (i := 1050) (by decide +kernel)⟩
theorem lw_p20 : lw_okq (⟨"GluedWallModel", "keeps", "([I)V"⟩, 22) := ⟨⟨by decide +kernel, by decide +kernel⟩, List.mem_of_getElem? (i := 965) (by decide +kernel), List.mem_of_getElem? (i := 1053) (by decide +kernel), List.mem_of_getElem? (i := 1054) (by decide +kernel)⟩
theorem lw_p21 : lw_okq (⟨"GluedWallModel", "isKind", "(I)Z"⟩, 22) := ⟨⟨by decide +kernel, by decide +kernel⟩, List.mem_of_getElem? (i := 965) (by decide +kernel), List.mem_of_getElem? (i := 1067) (by decide +kernel), List.mem_of_getElem? (i := 1068) (by decide +kernel)⟩
theorem lw_p22 : lw_okq (⟨"GluedWallModel", "isFree", "(I)Z"⟩, 22) := ⟨⟨by decide +kernel, by decide +kernel⟩, List.mem_of_getElem? (i := 965) (by decide +kernel), List.mem_of_getElem? (i := 1071) (by decide +kernel), List.mem_of_getElem? (i := 1072) (by decide +kernel)⟩
theorem lw_p23 : lw_okq (⟨"GluedWallModel", "held", "(II)I"⟩, 22) := ⟨⟨by decide +kernel, by decide +kernel⟩, List.mem_of_getElem? (i := 965) (by decide +kernel), List.mem_of_getElem? (i := 1075) (by decide +kernel), List.mem_of_getElem? (i := 1076) (by decide +kernel)⟩
theorem lw_p24 : lw_okq (⟨"GluedWallModel", "heldAt", "(III)I"⟩, 22) := ⟨⟨by decide +kernel, by decide +kernel⟩, List.mem_of_getElem? (i := 965) (by decide +kernel), List.mem_of_getElem? (i := 1079) (by decide +kernel), List.mem_of_getElem? (i := 1080) (by decide +kernel)⟩
theorem lw_p25 : lw_okq (⟨"GluedWallModel", "glue", "(II)I"⟩, 22) := ⟨⟨by decide +kernel, by decide +kernel⟩, List.mem_of_getElem? (i := 965) (by decide +kernel), List.mem_of_getElem? (i := 1086) (by decide +kernel), List.mem_of_getElem? (i := 1087) (by decide +kernel)⟩
theorem lw_p26 : lw_okq (⟨"GluedWallModel", "fallsBy", "(I)I"⟩, 22) := ⟨⟨by decide +kernel, by decide +kernel⟩, List.mem_of_getElem? (i := 965) (by decide +kernel), List.mem_of_getElem? (i := 1094) (by decide +kernel), List.mem_of_getElem? (i := 1095) (by decide +kernel)⟩
theorem lw_p27 : lw_okq (⟨"GluedWallModel", "standing0", "()I"⟩, 22) := ⟨⟨by decide +kernel, by decide +kernel⟩, List.mem_of_getElem? (i := 965) (by decide +kernel), List.mem_of_getElem? (i := 1098) (by decide +kernel), List.mem_of_getElem? (i := 1099) (by decide +kernel)⟩
theorem lw_p28 : lw_okq (⟨"GluedWallModel", "growsAt", "()I"⟩, 22) := ⟨⟨by decide +kernel, by decide +kernel⟩, List.mem_of_getElem? (i := 965) (by decide +kernel), List.mem_of_getElem? (i := 1106) (by decide +kernel), List.mem_of_getElem? (i := 1107) (by decide +kernel)⟩
theorem lw_p29 : lw_okq (⟨"GluedWallModel", "choicesAt", "(I)I"⟩, 22) := ⟨⟨by decide +kernel, by decide +kernel⟩, List.mem_of_getElem? (i := 965) (by decide +kernel), List.mem_of_getElem? (i := 1110) (by decide +kernel), List.mem_of_getElem? (i := 1111) (by decide +kernel)⟩
theorem lw_p30 : lw_okq (⟨"GluedWallModel", "fits", "(II)Z"⟩, 22) := ⟨⟨by decide +kernel, by decide +kernel⟩, List.mem_of_getElem? (i := 965) (by decide +kernel), List.mem_of_getElem? (i := 1114) (by decide +kernel), List.mem_of_getElem? (i := 1115) (by decide +kernel)⟩
theorem lw_p31 : lw_okq (⟨"GluedWallModel", "errorsOf", "(II)I"⟩, 22) := ⟨⟨by decide +kernel, by decide +kernel⟩, List.mem_of_getElem? (i := 965) (by decide +kernel), List.mem_of_getElem? (i := 1118) (by decide +kernel), List.mem_of_getElem? (i := 1119) (by decide +kernel)⟩
def lw_privs_2 : List (MethodName × Nat) := [(⟨"GluedWall", "carryOut", "(I)I"⟩, 13), (⟨"GluedWall", "writePlace", "(I)V"⟩, 13), (⟨"GluedWall", "writeSign", "(C)V"⟩, 13), (⟨"GluedWallModel", "refuses", "(II)I"⟩, 22), (⟨"GluedWallModel", "keeps", "([I)V"⟩, 22), (⟨"GluedWallModel", "isKind", "(I)Z"⟩, 22), (⟨"GluedWallModel", "isFree", "(I)Z"⟩, 22), (⟨"GluedWallModel", "held", "(II)I"⟩, 22), (⟨"GluedWallModel", "heldAt", "(III)I"⟩, 22), (⟨"GluedWallModel", "glue", "(II)I"⟩, 22), (⟨"GluedWallModel", "fallsBy", "(I)I"⟩, 22), (⟨"GluedWallModel", "standing0", "()I"⟩, 22), (⟨"GluedWallModel", "growsAt", "()I"⟩, 22), (⟨"GluedWallModel", "choicesAt", "(I)I"⟩, 22), (⟨"GluedWallModel", "fits", "(II)Z"⟩, 22), (⟨"GluedWallModel", "errorsOf", "(II)I"⟩, 22)]
theorem lw_r2 : ∀ q ∈ lw_privs_2, lw_okq q := List.forall_mem_cons.mpr ⟨lw_p16, List.forall_mem_cons.mpr ⟨lw_p17, List.forall_mem_cons.mpr ⟨lw_p18, List.forall_mem_cons.mpr ⟨lw_p19, List.forall_mem_cons.mpr ⟨lw_p20, List.forall_mem_cons.mpr ⟨lw_p21, List.forall_mem_cons.mpr ⟨lw_p22, List.forall_mem_cons.mpr ⟨lw_p23, List.forall_mem_cons.mpr ⟨lw_p24, List.forall_mem_cons.mpr ⟨lw_p25, List.forall_mem_cons.mpr ⟨lw_p26, List.forall_mem_cons.mpr ⟨lw_p27, List.forall_mem_cons.mpr ⟨lw_p28, List.forall_mem_cons.mpr ⟨lw_p29, List.forall_mem_cons.mpr ⟨lw_p30, List.forall_mem_cons.mpr ⟨lw_p31, fun _ h => absurd h List.not_mem_nil⟩⟩⟩⟩⟩⟩⟩⟩⟩⟩⟩⟩⟩⟩⟩⟩
theorem lw_p32 : lw_okq (⟨"GluedWallModel", "stuckNow", "()I"⟩, 22) := ⟨⟨by decide +kernel, by decide +kernel⟩, List.mem_of_getElem? (i := 965) (by decide +kernel), List.mem_of_getElem? (i := 1122) (by decide +kernel), List.mem_of_getElem? (i := 1123) (by decide +kernel)⟩
theorem lw_p33 : lw_okq (⟨"GluedWallModel", "growsBy", "(I)I"⟩, 22) := ⟨⟨by decide +kernel, by decide +kernel⟩, List.mem_of_getElem? (i := 965) (by decide +kernel), List.mem_of_getElem? (i := 1126) (by decide +kernel), List.mem_of_getElem? (i := 1127) (by decide +kernel)⟩
theorem lw_p34 : lw_okq (⟨"GluedWallModel", "growsWith", "(I)I"⟩, 22) := ⟨⟨by decide +kernel, by decide +kernel⟩, List.mem_of_getElem? (i := 965) (by decide +kernel), List.mem_of_getElem? (i := 1130) (by decide +kernel), List.mem_of_getElem? (i := 1131) (by decide +kernel)⟩
theorem lw_p35 : lw_okq (⟨"GluedWallModel", "fails", "(I)Z"⟩, 22) := ⟨⟨by decide +kernel, by decide +kernel⟩, List.mem_of_getElem? (i := 965) (by decide +kernel), List.mem_of_getElem? (i := 1146) (by decide +kernel), List.mem_of_getElem? (i := 1147) (by decide +kernel)⟩
theorem lw_p36 : lw_okq (⟨"GluedWallModel", "isNoBrick", "(I)Z"⟩, 22) := ⟨⟨by decide +kernel, by decide +kernel⟩, List.mem_of_getElem? (i := 965) (by decide +kernel), List.mem_of_getElem? (i := 1158) (by decide +kernel), List.mem_of_getElem? (i := 1159) (by decide +kernel)⟩
theorem lw_p37 : lw_okq (⟨"GluedWallModel", "allHolds", "()I"⟩, 22) := ⟨⟨by decide +kernel, by decide +kernel⟩, List.mem_of_getElem? (i := 965) (by decide +kernel), List.mem_of_getElem? (i := 1174) (by decide +kernel), List.mem_of_getElem? (i := 1175) (by decide +kernel)⟩
theorem lw_p38 : lw_okq (⟨"GluedWallModel", "bricks", "()I"⟩, 22) := ⟨⟨by decide +kernel, by decide +kernel⟩, List.mem_of_getElem? (i := 965) (by decide +kernel), List.mem_of_getElem? (i := 1190) (by decide +kernel), List.mem_of_getElem? (i := 1191) (by decide +kernel)⟩
theorem lw_p39 : lw_okq (⟨"GluedWallModel", "isText", "()Z"⟩, 22) := ⟨⟨by decide +kernel, by decide +kernel⟩, List.mem_of_getElem? (i := 965) (by decide +kernel), List.mem_of_getElem? (i := 1242) (by decide +kernel), List.mem_of_getElem? (i := 1243) (by decide +kernel)⟩
theorem lw_p40 : lw_okq (⟨"GluedWallModel", "commandHere", "()Z"⟩, 22) := ⟨⟨by decide +kernel, by decide +kernel⟩, List.mem_of_getElem? (i := 965) (by decide +kernel), List.mem_of_getElem? (i := 1246) (by decide +kernel), List.mem_of_getElem? (i := 1247) (by decide +kernel)⟩
theorem lw_p41 : lw_okq (⟨"GluedWallModel", "here", "()I"⟩, 22) := ⟨⟨by decide +kernel, by decide +kernel⟩, List.mem_of_getElem? (i := 965) (by decide +kernel), List.mem_of_getElem? (i := 1250) (by decide +kernel), List.mem_of_getElem? (i := 1251) (by decide +kernel)⟩
theorem lw_p42 : lw_okq (⟨"GluedWallModel", "skips", "(I)Z"⟩, 22) := ⟨⟨by decide +kernel, by decide +kernel⟩, List.mem_of_getElem? (i := 965) (by decide +kernel), List.mem_of_getElem? (i := 1254) (by decide +kernel), List.mem_of_getElem? (i := 1255) (by decide +kernel)⟩
theorem lw_p43 : lw_okq (⟨"GluedWallModel", "figures", "(II)Z"⟩, 22) := ⟨⟨by decide +kernel, by decide +kernel⟩, List.mem_of_getElem? (i := 965) (by decide +kernel), List.mem_of_getElem? (i := 1258) (by decide +kernel), List.mem_of_getElem? (i := 1259) (by decide +kernel)⟩
theorem lw_p44 : lw_okq (⟨"GluedWallModel", "layHere", "(I)Z"⟩, 22) := ⟨⟨by decide +kernel, by decide +kernel⟩, List.mem_of_getElem? (i := 965) (by decide +kernel), List.mem_of_getElem? (i := 1262) (by decide +kernel), List.mem_of_getElem? (i := 1263) (by decide +kernel)⟩
theorem lw_p45 : lw_okq (⟨"GluedWallModel", "carries", "(I)I"⟩, 22) := ⟨⟨by decide +kernel, by decide +kernel⟩, List.mem_of_getElem? (i := 965) (by decide +kernel), List.mem_of_getElem? (i := 1266) (by decide +kernel), List.mem_of_getElem? (i := 1267) (by decide +kernel)⟩
theorem lw_p46 : lw_okq (⟨"GluedWallModel", "writes", "(I)V"⟩, 22) := ⟨⟨by decide +kernel, by decide +kernel⟩, List.mem_of_getElem? (i := 965) (by decide +kernel), List.mem_of_getElem? (i := 1288) (by decide +kernel), List.mem_of_getElem? (i := 1289) (by decide +kernel)⟩
theorem lw_p47 : lw_okq (⟨"GluedWallModel", "pairs", "()I"⟩, 22) := ⟨⟨by decide +kernel, by decide +kernel⟩, List.mem_of_getElem? (i := 965) (by decide +kernel), List.mem_of_getElem? (i := 1308) (by decide +kernel), List.mem_of_getElem? (i := 1309) (by decide +kernel)⟩
def lw_privs_3 : List (MethodName × Nat) := [(⟨"GluedWallModel", "stuckNow", "()I"⟩, 22), (⟨"GluedWallModel", "growsBy", "(I)I"⟩, 22), (⟨"GluedWallModel", "growsWith", "(I)I"⟩, 22), (⟨"GluedWallModel", "fails", "(I)Z"⟩, 22), (⟨"GluedWallModel", "isNoBrick", "(I)Z"⟩, 22), (⟨"GluedWallModel", "allHolds", "()I"⟩, 22), (⟨"GluedWallModel", "bricks", "()I"⟩, 22), (⟨"GluedWallModel", "isText", "()Z"⟩, 22), (⟨"GluedWallModel", "commandHere", "()Z"⟩, 22), (⟨"GluedWallModel", "here", "()I"⟩, 22), (⟨"GluedWallModel", "skips", "(I)Z"⟩, 22), (⟨"GluedWallModel", "figures", "(II)Z"⟩, 22), (⟨"GluedWallModel", "layHere", "(I)Z"⟩, 22), (⟨"GluedWallModel", "carries", "(I)I"⟩, 22), (⟨"GluedWallModel", "writes", "(I)V"⟩, 22), (⟨"GluedWallModel", "pairs", "()I"⟩, 22)]
theorem lw_r3 : ∀ q ∈ lw_privs_3, lw_okq q := List.forall_mem_cons.mpr ⟨lw_p32, List.forall_mem_cons.mpr ⟨lw_p33, List.forall_mem_cons.mpr ⟨lw_p34, List.forall_mem_cons.mpr ⟨lw_p35, List.forall_mem_cons.mpr ⟨lw_p36, List.forall_mem_cons.mpr ⟨lw_p37, List.forall_mem_cons.mpr ⟨lw_p38, List.forall_mem_cons.mpr ⟨lw_p39, List.forall_mem_cons.mpr ⟨lw_p40, List.forall_mem_cons.mpr ⟨lw_p41, List.forall_mem_cons.mpr ⟨lw_p42, List.forall_mem_cons.mpr ⟨lw_p43, List.forall_mem_cons.mpr ⟨lw_p44, List.forall_mem_cons.mpr ⟨lw_p45, List.forall_mem_cons.mpr ⟨lw_p46, List.forall_mem_cons.mpr ⟨lw_p47, fun _ h => absurd h List.not_mem_nil⟩⟩⟩⟩⟩⟩⟩⟩⟩⟩⟩⟩⟩⟩⟩⟩
def lw_privs : List (MethodName × Nat) := lw_privs_1 ++ (lw_privs_2 ++ (lw_privs_3))
def lw_tbl : List Cond := k2_sels lw_privs ++ tables_1
theorem lw_privs_ok : ∀ q ∈ lw_privs, lw_okq q := by
  show ∀ q ∈ lw_privs_1 ++ (lw_privs_2 ++ (lw_privs_3)), lw_okq q
  exact List.forall_mem_append.mpr ⟨lw_r1, List.forall_mem_append.mpr ⟨lw_r2, lw_r3⟩⟩
/-- the streams that the claim lets the run draw from -/
abbrev lw_cs : List Choice := [Jvm.Choice.named "NaN.bits"]
theorem lw_bits : nanBits ∈ lw_cs := by first | decide | exact List.mem_cons_self | simp [lw_cs, nanBits]
end
section
/-! ===== BEGIN words of one list among another's, by their places ===== -/
theorem goodIn_r {big : List Cond} (ws : List Cond) (ps : List Nat) (hp : ws = ps.filterMap (fun i => big[i]?)) (h : ws.all goodWord = true) : GoodIn big ws := by
  intro w hw
  have h1 := List.all_eq_true.mp h w hw
  rw [hp] at hw
  obtain ⟨i, -, hi⟩ := List.mem_filterMap.mp hw
  have hm : w ∈ big := by first | exact List.mem_of_getElem? hi | exact List.getElem?_mem hi
  exact ⟨hm, good_of_word h1⟩
theorem goodIn_app {big a b : List Cond} (ha : GoodIn big a) (hb : GoodIn big b) : GoodIn big (a ++ b) := fun w h => (List.mem_append.mp h).elim (ha w) (hb w)
theorem goodIn_ca {big a b : List Cond} {c : Cond} (ha : GoodIn big (c :: a)) (hb : GoodIn big b) : GoodIn big (c :: (a ++ b)) := fun w h => (List.mem_cons.mp h).elim (fun e => ha w (List.mem_cons.mpr (Or.inl e))) (fun h => (List.mem_append.mp h).elim (fun h => ha w (List.mem_cons.mpr (Or.inr h))) (hb w))
theorem goodIn_sub {big ws : List Cond} (hm : ∀ w ∈ ws, w ∈ big) (h : ws.all goodWord = true) : GoodIn big ws := fun w hw => ⟨hm w hw, good_of_word (List.all_eq_true.mp h w hw)⟩
/-! ===== END ===== -/
/-! ===== BEGIN exceptions that leave a method, and their catching by the caller (launches without stack traces) ===== -/
section VXA
/-! The laws vx_back, vx_callV, vx_callS, vx_callSW, vx_throw0, vx_throwS follow proofs of the library, with one case more: JvmDerived/Free/Laws.lean (Back.of_free), Shelf42/LK1.lean (callV, callS), Shelf/KitTraced.lean (throwNew0V, throwNewS). -/
/-- where a method has thrown q: the class by its name, the cell, what was written, the world -/
def vx_T (XC : String → State → State → Prop) (st : State) (q : Addr) (t : State) (mc ms : Nat) (free : Addr → Prop) : Prop :=
  ∃ (E : String) (ce : Cell) (L : List Loc), XC E st t ∧ t.heap[q]? = some ce ∧ ce.vm = .none ∧ st.vm.findClass E = some ce.cls ∧ st.WarmedH t.vm ∧ st.sameButNew ({ t with vm := st.vm } : State) L mc ms ∧ ∀ z ∈ L, free z.base
def vx_Q (Qc : Array Value → State → Outcome → State → Prop) (XC : String → State → State → Prop) (mc ms : Nat) (free : Addr → Prop) : Array Value → State → Outcome → State → Prop := fun a st o t =>
  (Qc a st o t ∧ ∃ L, FrameEnd st o t L mc ms ∧ ∀ q ∈ L, free q.base) ∨ ∃ q, o = .threw q ∧ vx_T XC st q t mc ms free
/-- a callee that returns or throws -/
def vx_Met (l : Launch) (y : MethodName) (ws : List Cond) (rm : Room) (Pc : Array Value → State → Prop) (Qc : Array Value → State → Outcome → State → Prop) (XC : String → State → State → Prop) (mc ms : Nat) (free : Addr → Prop) : Prop :=
  MetFree l y (headSpec ws rm) Pc (fun _ _ _ _ _ => True) (vx_Q Qc XC mc ms free)
def vx_Post (XC : String → State → State → Prop) (mc ms : Nat) (free : Addr → Prop) : Pt → Array Value → Addr → Pt → Prop := fun A a q B =>
  ∃ (g : JFrame) (mk : MethodId) (t : State) (L : List Loc) (E : String) (ce : Cell), B.U.heap = t.heap ∧ B.U.vm = t.vm ∧ XC E (A.U.calling g mk a) t ∧ t.heap[q]? = some ce ∧ ce.vm = .none ∧ A.U.vm.findClass E = some ce.cls ∧ B.locs = A.locs ++ L ∧ (∀ z ∈ L, free z.base) ∧ B.cells = A.cells + mc ∧ B.slots = A.slots + ms
def vx_Back (l : Launch) (R : Room) (p : Program) (e : Env) (below : List Frame) (s : State) (sargs : Array Value) (y : MethodName) (len W9 : Nat)
    (Pre : Pt → Array Value → Prop) (Post : Pt → Array Value → Option Value → Pt → Prop) (PostX : Pt → Array Value → Addr → Pt → Prop) : Prop :=
  ∀ (m : MethodId) (meth : Method) (c : Code) (A : Pt) (g : JFrame) (ig : Instr) (mk : MethodId) (a : Array Value),
    Stand p l e R s m sargs below meth c A.U A.locs A.cells A.slots → g.method = m → g.locals.size = c.maxLocals → decode c.code g.pc = .ok (ig, len) →
    2 * g.monitorRoom + (g.stack.map fun v => v.category).sum ≤ W9 → A.U.methodNamed? y = some mk → Pre A a →
    (∃ (v : Option Value) (B : Pt), Stand p l e R s m sargs below meth c B.U B.locs B.cells B.slots ∧ Post A a v B ∧
      Steps p.tables e below (doInvoke e (A.U.setTop g) [] mk a).1 (B.U.setTop { g with pc := g.pc + len, stack := v.toList ++ g.stack })) ∨
    (∃ (q : Addr) (B : Pt), Stand p l e R s m sargs below meth c B.U B.locs B.cells B.slots ∧ PostX A a q B ∧
      Steps p.tables e below (doInvoke e (A.U.setTop g) [] mk a).1 ((B.U.setTop g).pushFrame (.throwing q)))
section Payer
variable {l : Launch} {R : Room} {p : Program} {e : Env} {below : List Frame} {s : State} {sargs : Array Value} {y : MethodName} {len W9 : Nat}
theorem vx_back {ws : List Cond} {rm : Room} {Pc : Array Value → State → Prop} {Qc : Array Value → State → Outcome → State → Prop} {XC : String → State → State → Prop} {mc ms : Nat} {free : Addr → Prop} {bytes : ByteArray} {maxL : Nat} {ret : Option FieldType}
    (hM : vx_Met l y ws rm Pc Qc XC mc ms free) (hblind : FrameBlind Pc) (hrc : rm.cells = mc) (hrs : rm.slots = ms)
    (hframes : rm.frames + 1 ≤ R.frames) (hlocals : W9 + (maxL + 11) + rm.locals ≤ R.locals)
    (hws : ∀ w ∈ ws, ∀ a' U, s.WarmedH U.vm → w.before a' U = true) (hcode : Cond.code y bytes maxL ret ∈ ws) (hinit : ∀ a' U, s.WarmedH U.vm → (Cond.initialized y.cls).before a' U = true) :
    vx_Back l R p e below s sargs y len W9 (PreOf R mc ms Pc) (PostOf Qc mc ms free) (vx_Post XC mc ms free) := by
  intro m meth c A g ig mk a X hg hsize hdg hW hn hp
  have h1 : (headSpec ws rm).pre.before a A.U = true := atoms_intro fun w hw => hws w hw _ _ X.warmed
  have h2 : (Cond.code y bytes maxL ret).before a A.U = true := hws _ hcode _ _ X.warmed
  have h3 : (Cond.initialized y.cls).before a A.U = true := hinit _ _ X.warmed
  have h4 : A.cells + (headSpec ws rm).room.cells ≤ R.cells := by rw [show (headSpec ws rm).room.cells = mc from hrc]; exact hp.1
  have h5 : A.slots + (headSpec ws rm).room.slots ≤ R.slots := by rw [show (headSpec ws rm).room.slots = ms from hrs]; exact hp.2.1
  have hPc : Pc a (A.U.calling g mk a) := hblind _ _ _ _ hp.2.2
  obtain ⟨U, Ls, c0, s0⟩ := A
  dsimp only [Pt.U, Pt.locs, Pt.cells, Pt.slots] at h1 h2 h3 h4 h5 X hn hPc ⊢
  obtain ⟨methY, cY, hmY, hcY, -, hlY, -, -, -, -⟩ := Cond.code_spec hn h2
  obtain ⟨kY, hkY, -⟩ := className_of_methodNamed hn
  have hinitY : kY.init = .initialized := Cond.initialized_spec (findClass_of_methodNamed hn) hkY h3
  have h : At U g.method c below := by rw [hg]; exact X.here
  have hlocals9 : W9 + (maxL + 11) + (headSpec ws rm).room.locals ≤ R.locals := hlocals
  have happ : (headSpec ws rm).appliesLoose y e.platform (U.calling g mk a) = true :=
    Spec.appliesLoose_calling (g := g) h hdg hn hkY hinitY
      (X.room_calling (g := g) (R' := (headSpec ws rm).room) hsize hmY hcY hframes (by rw [hlY]; omega) h4 h5) h1
  obtain ⟨mid, hmid⟩ := h.above
  have hfr : (U.setTop g).frames = (.java g :: mid) ++ below := by rw [State.frames_setTop' g h.top, hmid]; rfl
  obtain ⟨o, s₂, hsteps, -, hend, hq⟩ := Steps.callFree hM p X.admits X.cas X.clock (acts := []) hfr happ hPc trivial
  have hq' : vx_Q Qc XC mc ms free a (U.calling g mk a) o s₂ := hq
  rw [State.frames_setTop' g h.top] at hend
  obtain ⟨g₀, hg0⟩ := Option.isSome_iff_exists.mp h.top
  obtain ⟨r, hr⟩ := State.topJava?_eq_some.mp hg0
  have hr' : (({ U with heap := s₂.heap, slotsUsed := s₂.slotsUsed } : State).setVm s₂.vm).frames = .java g₀ :: r := hr
  rcases hq' with ⟨hqc, L, hfe, hL⟩ | ⟨q, rfl, E, ce, L, hx, hce, hcv, hcl, hW₂, hsm, hL⟩
  · obtain ⟨⟨v, rfl⟩, hW₂, e2, q2, q3, q4, q5, q6⟩ := id hfe
    have e3 : s₂ = ({ (U.calling g mk a).setFrames s₂.frames with heap := s₂.heap, slotsUsed := s₂.slotsUsed } : State).setVm s₂.vm := by
      have : s₂ = ({ s₂ with vm := (U.calling g mk a).vm } : State).setVm s₂.vm := rfl
      rw [e2] at this
      exact this
    obtain ⟨c₂, i₂, len₂, hc₂, hd₂, hf₂⟩ := hend
    have hW' : U.WarmedH s₂.vm := hW₂
    have hcc : c₂ = c := by
      have h1 : s₂.code? g.method = U.code? g.method := by
        rw [State.code?_eq, State.code?_eq, hW'.alike.method?]
      exact Option.some.inj (hc₂.symm.trans (h1.trans h.code))
    subst hcc
    have hlen : len₂ = len := by rw [hdg] at hd₂; cases hd₂; rfl
    subst hlen
    have hs₂ : s₂ = (({ U with heap := s₂.heap, slotsUsed := s₂.slotsUsed } : State).setVm s₂.vm).setTop { g with pc := g.pc + len₂, stack := v.toList ++ g.stack } := by
      refine e3.trans ?_
      rw [hf₂, State.calling_eq h.top, State.setFrames_setFrames, State.setTop_of_frames _ hr', hr]
      rfl
    have hsame : U.sameButNew ({ U with heap := s₂.heap, slotsUsed := s₂.slotsUsed } : State) L mc ms := by
      refine ⟨?_, q2, q3, q4, q5, q6⟩
      obtain ⟨t, ht, -⟩ := State.frames_cons hr
      show ({ U with heap := s₂.heap, slotsUsed := s₂.slotsUsed } : State) = { U.setFrames U.frames with heap := s₂.heap, slotsUsed := s₂.slotsUsed }
      rw [State.setFrames_self ht]
    subst hg
    refine Or.inl ⟨v, ⟨(({ U with heap := s₂.heap, slotsUsed := s₂.slotsUsed } : State).setVm s₂.vm), Ls ++ L, c0 + mc, s0 + ms⟩,
      ⟨X.admits, X.cas, X.clock, X.frames, X.room, X.hears, X.method, X.code, (X.here.setHeapUsed s₂.heap s₂.slotsUsed).setVm hW'.alike, X.tail, State.WarmedH.trans X.warmed hW', X.limits, X.bytes, X.same.trans (hsame.setVm s.vm)⟩,
      ⟨g, mk, s₂, L, rfl, rfl, hqc, rfl, hL, rfl, rfl⟩, ?_⟩
    show Steps p.tables e below _ ((({ U with heap := s₂.heap, slotsUsed := s₂.slotsUsed } : State).setVm s₂.vm).setTop { g with pc := g.pc + len₂, stack := v.toList ++ g.stack })
    rw [← hs₂]
    exact hsteps
  · obtain ⟨e2, q2, q3, q4, q5, q6⟩ := id hsm
    have e3 : s₂ = ({ (U.calling g mk a).setFrames s₂.frames with heap := s₂.heap, slotsUsed := s₂.slotsUsed } : State).setVm s₂.vm := by
      have : s₂ = ({ s₂ with vm := (U.calling g mk a).vm } : State).setVm s₂.vm := rfl
      rw [e2] at this
      exact this
    have hf₂ : s₂.frames = .throwing q :: .java g :: U.frames.tail := hend
    have hW' : U.WarmedH s₂.vm := hW₂
    have hs₂ : s₂ = ((({ U with heap := s₂.heap, slotsUsed := s₂.slotsUsed } : State).setVm s₂.vm).setTop g).pushFrame (.throwing q) := by
      refine e3.trans ?_
      rw [hf₂, State.calling_eq h.top, State.setFrames_setFrames, State.pushFrame, State.frames_setTop _ hr', State.setTop_of_frames _ hr', State.setFrames_setFrames, hr]
      rfl
    have hsame : U.sameButNew ({ U with heap := s₂.heap, slotsUsed := s₂.slotsUsed } : State) L mc ms := by
      refine ⟨?_, q2, q3, q4, q5, q6⟩
      obtain ⟨t, ht, -⟩ := State.frames_cons hr
      show ({ U with heap := s₂.heap, slotsUsed := s₂.slotsUsed } : State) = { U.setFrames U.frames with heap := s₂.heap, slotsUsed := s₂.slotsUsed }
      rw [State.setFrames_self ht]
    subst hg
    refine Or.inr ⟨q, ⟨(({ U with heap := s₂.heap, slotsUsed := s₂.slotsUsed } : State).setVm s₂.vm), Ls ++ L, c0 + mc, s0 + ms⟩,
      ⟨X.admits, X.cas, X.clock, X.frames, X.room, X.hears, X.method, X.code, (X.here.setHeapUsed s₂.heap s₂.slotsUsed).setVm hW'.alike, X.tail, State.WarmedH.trans X.warmed hW', X.limits, X.bytes, X.same.trans (hsame.setVm s.vm)⟩,
      ⟨g, mk, s₂, L, E, ce, rfl, rfl, hx, hce, hcv, hcl, rfl, hL, rfl, rfl⟩, ?_⟩
    show Steps p.tables e below _ (((({ U with heap := s₂.heap, slotsUsed := s₂.slotsUsed } : State).setVm s₂.vm).setTop g).pushFrame (.throwing q))
    rw [← hs₂]
    exact hsteps
end Payer
section Calls
variable {p : Program} {l : Launch} {e : Env} {R : Room} {s : State} {m : MethodId} {args : Array Value} {below : List Frame} {meth : Method} {c : Code} {T : State} {locs : List Loc} {cells slots : Nat}
theorem vx_callV (X : Stand p l e R s m args below meth c T locs cells slots) (hexec : p.tables.exec = Jvm.exec) {own C : String} {index : Nat} {y : MethodName} {bytes : ByteArray} {maxL : Nat} {ret : Option FieldType}
    (hown : s.vm.findClass own = some m.cls) (hlink : (Cond.methodLink own index y).before args s = true) (hinst : (Cond.instanceMethod y).before args s = true) (hsel : (Cond.selects C y y).before args s = true)
    (hcode : (Cond.code y bytes maxL ret).before args s = true) (hy : y.cls ≠ "java/lang/invoke/MethodHandle" ∧ y.cls ≠ "java/lang/invoke/VarHandle")
    {W9 : Nat} {Pre : Pt → Array Value → Prop} {Post : Pt → Array Value → Option Value → Pt → Prop} {PostX : Pt → Array Value → Addr → Pt → Prop} (hK : vx_Back l R p e below s args y 3 W9 Pre Post PostX)
    {b : Addr} {cellB : Cell} (hcell : T.heap[b]? = some cellB) (hobj : cellB.vm.isStatics = false) (hcls : s.vm.findClass C = some cellB.cls)
    {g : JFrame} (hg : g.method = m) (hsize : g.locals.size = c.maxLocals) {argsL rest : List Value} (hlen : ∀ sig, parseMethodDescriptor y.desc = some sig → argsL.length = sig.parameters.length)
    (hstack : g.stack = argsL.reverse ++ .ref b :: rest) (hW : 2 * g.monitorRoom + (rest.map fun v => v.category).sum ≤ W9) (hdg : decode c.code g.pc = .ok (.invokevirtual index, 3))
    (hpre : ∀ vm₁, s.WarmedH vm₁ → Pre ⟨T.setVm vm₁, locs, cells, slots⟩ (Value.ref b :: argsL).toArray) :
    (∃ (v : Option Value) (vm₁ : Vm) (B : Pt), s.WarmedH vm₁ ∧ Stand p l e R s m args below meth c B.U B.locs B.cells B.slots ∧ Post ⟨T.setVm vm₁, locs, cells, slots⟩ (Value.ref b :: argsL).toArray v B ∧
      ∀ target, Steps p.tables e below (B.U.setTop { g with pc := g.pc + 3, stack := v.toList ++ rest }) target → Steps p.tables e below (T.setTop g) target) ∨
    (∃ (q : Addr) (vm₁ : Vm) (B : Pt), s.WarmedH vm₁ ∧ Stand p l e R s m args below meth c B.U B.locs B.cells B.slots ∧ PostX ⟨T.setVm vm₁, locs, cells, slots⟩ (Value.ref b :: argsL).toArray q B ∧
      Steps p.tables e below (T.setTop g) ((B.U.setTop { g with stack := rest }).pushFrame (.throwing q))) := by
  obtain ⟨mk, methM, hnamed, hmethM, hstM, habM⟩ := Cond.instanceMethod_spec hinst
  obtain ⟨methM', cM, hmethM', -, -, -, -, -, -, hsigM⟩ := Cond.code_spec hnamed hcode
  cases hmethM.symm.trans hmethM'
  obtain ⟨c2, r2, m2, q1, q2, q3, q4, kP, hkP, hkPi⟩ := Cond.selects_spec hsel
  cases hcls.symm.trans q1
  cases (State.methodFound?_of_named hnamed hy).symm.trans q2
  cases hnamed.symm.trans q3
  have hselP : selectMethod e.platform s.vm cellB.cls mk = .method mk := by rw [Launch.admits_selectMethod X.admits]; exact q4
  obtain ⟨vm₁, X₁, hstep₁⟩ := X.invokevirtual hexec hown hlink hnamed hmethM hstM hkP hkPi hy (a := b) (cell := cellB) hcell
    (fun z h => by rw [h] at hobj; cases hobj) hselP hmethM habM hkP hkPi (g := g) hg (argsL := argsL) (rest := rest) (hlen _ hsigM) hstack hdg
  rcases hK m meth c ⟨T.setVm vm₁, locs, cells, slots⟩ { g with stack := rest } (.invokevirtual index) mk (Value.ref b :: argsL).toArray X₁ hg hsize hdg hW (X₁.named hnamed) (hpre vm₁ X₁.warmed) with ⟨v, B, X', hpost, hsteps⟩ | ⟨q, B, X', hpost, hsteps⟩
  · exact Or.inl ⟨v, vm₁, B, X₁.warmed, X', hpost, fun target h => hstep₁ _ fun acts => by rw [doInvoke_state]; exact hsteps.trans h⟩
  · exact Or.inr ⟨q, vm₁, B, X₁.warmed, X', hpost, hstep₁ _ fun acts => by rw [doInvoke_state]; exact hsteps⟩
theorem vx_callS (X : Stand p l e R s m args below meth c T locs cells slots) (hexec : p.tables.exec = Jvm.exec) {own : String} {index : Nat} {y : MethodName} {bytes : ByteArray} {maxL : Nat} {ret : Option FieldType}
    (hown : s.vm.findClass own = some m.cls) (hlink : (Cond.methodLink own index y).before args s = true) (hstat : (Cond.static y).before args s = true) (hinit : (Cond.initialized y.cls).before args s = true)
    (hcode : (Cond.code y bytes maxL ret).before args s = true) (hy : y.cls ≠ "java/lang/invoke/MethodHandle" ∧ y.cls ≠ "java/lang/invoke/VarHandle")
    {W9 : Nat} {Pre : Pt → Array Value → Prop} {Post : Pt → Array Value → Option Value → Pt → Prop} {PostX : Pt → Array Value → Addr → Pt → Prop} (hK : vx_Back l R p e below s args y 3 W9 Pre Post PostX)
    {g : JFrame} (hg : g.method = m) (hsize : g.locals.size = c.maxLocals) {argsL rest : List Value} (hlen : ∀ sig, parseMethodDescriptor y.desc = some sig → argsL.length = sig.parameters.length)
    (hstack : g.stack = argsL.reverse ++ rest) (hW : 2 * g.monitorRoom + (rest.map fun v => v.category).sum ≤ W9) (hdg : decode c.code g.pc = .ok (.invokestatic index, 3))
    (hpre : ∀ vm₁, s.WarmedH vm₁ → Pre ⟨T.setVm vm₁, locs, cells, slots⟩ argsL.toArray) :
    (∃ (v : Option Value) (vm₁ : Vm) (B : Pt), s.WarmedH vm₁ ∧ Stand p l e R s m args below meth c B.U B.locs B.cells B.slots ∧ Post ⟨T.setVm vm₁, locs, cells, slots⟩ argsL.toArray v B ∧
      ∀ target, Steps p.tables e below (B.U.setTop { g with pc := g.pc + 3, stack := v.toList ++ rest }) target → Steps p.tables e below (T.setTop g) target) ∨
    (∃ (q : Addr) (vm₁ : Vm) (B : Pt), s.WarmedH vm₁ ∧ Stand p l e R s m args below meth c B.U B.locs B.cells B.slots ∧ PostX ⟨T.setVm vm₁, locs, cells, slots⟩ argsL.toArray q B ∧
      Steps p.tables e below (T.setTop g) ((B.U.setTop { g with stack := rest }).pushFrame (.throwing q))) := by
  obtain ⟨mk, hnamed⟩ := Cond.code_named hcode
  obtain ⟨methM, cM, hmethM, -, -, -, -, -, -, hsigM⟩ := Cond.code_spec hnamed hcode
  have hstatic : methM.isStatic = true := Cond.static_spec hnamed hmethM hstat
  obtain ⟨kP, hkP, -⟩ := className_of_methodNamed hnamed
  have hinitP : kP.init = .initialized := Cond.initialized_spec (findClass_of_methodNamed hnamed) hkP hinit
  obtain ⟨vm₁, X₁, hstep₁⟩ := X.invokestatic hexec hown hlink hnamed hmethM hstatic hkP hinitP hy (g := g) hg (argsL := argsL) (rest := rest) (hlen _ hsigM) hstack hdg
  rcases hK m meth c ⟨T.setVm vm₁, locs, cells, slots⟩ { g with stack := rest } (.invokestatic index) mk argsL.toArray X₁ hg hsize hdg hW (X₁.named hnamed) (hpre vm₁ X₁.warmed) with ⟨v, B, X', hpost, hsteps⟩ | ⟨q, B, X', hpost, hsteps⟩
  · exact Or.inl ⟨v, vm₁, B, X₁.warmed, X', hpost, fun target h => hstep₁ _ fun acts => by rw [doInvoke_state]; exact hsteps.trans h⟩
  · exact Or.inr ⟨q, vm₁, B, X₁.warmed, X', hpost, hstep₁ _ fun acts => by rw [doInvoke_state]; exact hsteps⟩
end Calls
theorem vx_cls {s : State} {T : State} {vm₁ : Vm} {E : String} {k : ClassId} (hW : s.WarmedH vm₁) (h : (T.setVm vm₁).vm.findClass E = some k) : s.vm.findClass E = some k := by
  have h1 : vm₁.findClass E = some k := h
  rw [hW.alike.findClass] at h1
  exact h1
/-- the method's frame g, with q thrown over it -/
def vx_W (p : Program) (l : Launch) (e : Env) (R : Room) (s : State) (m : MethodId) (args : Array Value) (below : List Frame) (meth : Method) (c : Code) (H : Heap) (locs : List Loc) (cells slots : Nat) (Q : State → Prop) (g : JFrame) (q : Addr) : Prop :=
  ∀ T : State, T.heap = H → Stand p l e R s m args below meth c T locs cells slots → ∃ t, Steps p.tables e below ((T.setTop g).pushFrame (.throwing q)) t ∧ Q t
def vx_Run (p : Program) (l : Launch) (e : Env) (R : Room) (s : State) (m : MethodId) (args : Array Value) (below : List Frame) (meth : Method) (c : Code) (H : Heap) (locs : List Loc) (cells slots mc ms : Nat) (g : JFrame) (rest : List Value) (Qa : State → Outcome → State → Prop) (XC : String → State → State → Prop) (free : Addr → Prop) : Prop :=
  ∀ T : State, T.heap = H → Stand p l e R s m args below meth c T locs cells slots →
    (∃ (v : Option Value) (st₀ t T' : State) (L : List Loc), st₀.heap = H ∧ Stand p l e R s m args below meth c T' (locs ++ L) (cells + mc) (slots + ms) ∧ (∀ q ∈ L, free q.base) ∧ T'.heap = t.heap ∧ T'.vm = t.vm ∧ Qa st₀ (.returned v) t ∧
      Goes p e below T g T' { g with pc := g.pc + 3, stack := v.toList ++ rest }) ∨
    (∃ (q : Addr) (st₀ t T' : State) (L : List Loc) (E : String) (ce : Cell), st₀.heap = H ∧ Stand p l e R s m args below meth c T' (locs ++ L) (cells + mc) (slots + ms) ∧ (∀ z ∈ L, free z.base) ∧ T'.heap = t.heap ∧ T'.vm = t.vm ∧ XC E st₀ t ∧ t.heap[q]? = some ce ∧ ce.vm = .none ∧ s.vm.findClass E = some ce.cls ∧
      Steps p.tables e below (T.setTop g) ((T'.setTop { g with stack := rest }).pushFrame (.throwing q)))
def vx_X {S : Type} (px : S → Prop) (B : String → S → State → Prop) (A : Nat → Prop) : String → State → State → Prop := fun E st t => ∃ u : S, px u ∧ B E u t ∧ va_F A st t
section Runs
variable {p : Program} {l : Launch} {e : Env} {R : Room} {s : State} {m : MethodId} {args : Array Value} {below : List Frame} {meth : Method} {c : Code} {H : Heap} {locs : List Loc} {cells slots : Nat}
variable {y : MethodName} {bytes cc : ByteArray} {maxL nL mc ms n index : Nat} {ret : Option FieldType} {ws : List Cond} {rm : Room} {Pc : Array Value → State → Prop} {Qc : Array Value → State → Outcome → State → Prop} {XC : String → State → State → Prop} {free : Addr → Prop} {Ts : List Cond} {own C : String} {b : Addr} {As rest : List Value} {g : JFrame}
theorem vx_callBack (cb : CallB R s args own index y bytes maxL ret ws rm mc ms n) (hM : vx_Met l y ws rm Pc Qc XC mc ms free) (hbl : FrameBlind Pc) : vx_Back l R p e below s args y 3 8 (PreOf R mc ms Pc) (PostOf Qc mc ms free) (vx_Post XC mc ms free) := by
  obtain ⟨hrc, hrs, hfr, hlo, hws, hcw, -, hini, -⟩ := cb
  exact vx_back (bytes := bytes) (maxL := maxL) (ret := ret) hM hbl hrc hrs hfr hlo hws hcw (fun a' U hW => word_at hW (Or.inl (by first | rfl | simp [Cond.onTables, Cond.keeps, Cond.steady])) hini)
theorem vx_runV (S : CallFix p m c cc nL s args Ts own) (hM : vx_Met l y ws rm Pc Qc XC mc ms free) (cw : CallW R s args own C index y bytes maxL ret ws rm mc ms n) (hp : PreV s H C b Pc As)
    (hg : g.method = m) (hn : As.length = n) (hsize : g.locals.size = nL) (hstack : g.stack = As.reverse ++ .ref b :: rest) (hW : 2 * g.monitorRoom + (rest.map fun v => v.category).sum ≤ 8) (hdg : decode cc g.pc = .ok (.invokevirtual index, 3)) (hf : cells + mc ≤ R.cells ∧ slots + ms ≤ R.slots) :
    vx_Run p l e R s m args below meth c H locs cells slots mc ms g rest (Qc (Value.ref b :: As).toArray) XC free := by
  have hK : vx_Back l R p e below s args y 3 8 (PreOf R mc ms Pc) (PostOf Qc mc ms free) (vx_Post XC mc ms free) := vx_callBack cw.1 hM hp.1
  obtain ⟨⟨-, -, -, -, -, -, hcode, -, hy, hlen, hl⟩, hin, hse⟩ := cw
  obtain ⟨hx, hb, hml, ho, -⟩ := S
  obtain ⟨-, ⟨cellB, hcB, hoB, hclB⟩, hPc⟩ := hp
  intro T hT X
  rcases vx_callV X hx (C := C) (bytes := bytes) (maxL := maxL) (ret := ret) ho hl hin hse hcode hy hK (by rw [hT]; exact hcB) hoB hclB hg (hsize.trans hml.symm) (argsL := As) (rest := rest) (fun sig h => hn.trans (hlen sig h)) hstack hW (by rw [hb]; exact hdg)
    (fun vm₁ hW₁ => ⟨hf.1, hf.2, hPc (T.setVm vm₁) hT hW₁⟩) with ⟨v, vm₁, ⟨U', l2, c2, s2⟩, hW₁, X', ⟨g', mk, t, L, e1, e2, hq, h1, hL, h2, h3⟩, st⟩ | ⟨q, vm₁, ⟨U', l2, c2, s2⟩, hW₁, X', ⟨g', mk, t, L, E, ce, e1, e2, hq, hce, hcv, hcl, h1, hL, h2, h3⟩, st⟩
  · dsimp only [Pt.U, Pt.locs, Pt.cells, Pt.slots] at X' e1 e2 h1 h2 h3 st
    subst h1; subst h2; subst h3
    exact Or.inl ⟨v, (T.setVm vm₁).calling g' mk (Value.ref b :: As).toArray, t, U', L, hT, X', hL, e1, e2, hq, st⟩
  · dsimp only [Pt.U, Pt.locs, Pt.cells, Pt.slots] at X' e1 e2 h1 h2 h3 st hcl
    subst h1; subst h2; subst h3
    exact Or.inr ⟨q, (T.setVm vm₁).calling g' mk (Value.ref b :: As).toArray, t, U', L, E, ce, hT, X', hL, e1, e2, hq, hce, hcv, vx_cls hW₁ hcl, st⟩
theorem vx_runS (S : CallFix p m c cc nL s args Ts own) (hM : vx_Met l y ws rm Pc Qc XC mc ms free) (cw : CallB R s args own index y bytes maxL ret ws rm mc ms n ∧ (Cond.static y).before args s = true) (hp : PreS s H Pc As)
    (hg : g.method = m) (hn : As.length = n) (hsize : g.locals.size = nL) (hstack : g.stack = As.reverse ++ rest) (hW : 2 * g.monitorRoom + (rest.map fun v => v.category).sum ≤ 8) (hdg : decode cc g.pc = .ok (.invokestatic index, 3)) (hf : cells + mc ≤ R.cells ∧ slots + ms ≤ R.slots) :
    vx_Run p l e R s m args below meth c H locs cells slots mc ms g rest (Qc As.toArray) XC free := by
  have hK : vx_Back l R p e below s args y 3 8 (PreOf R mc ms Pc) (PostOf Qc mc ms free) (vx_Post XC mc ms free) := vx_callBack cw.1 hM hp.1
  obtain ⟨⟨-, -, -, -, -, -, hcode, hini, hy, hlen, hl⟩, hstt⟩ := cw
  obtain ⟨hx, hb, hml, ho, -⟩ := S
  intro T hT X
  rcases vx_callS X hx (bytes := bytes) (maxL := maxL) (ret := ret) ho hl hstt hini hcode hy hK hg (hsize.trans hml.symm) (argsL := As) (rest := rest) (fun sig h => hn.trans (hlen sig h)) hstack hW (by rw [hb]; exact hdg)
    (fun vm₁ hW₁ => ⟨hf.1, hf.2, hp.2 (T.setVm vm₁) hT hW₁⟩) with ⟨v, vm₁, ⟨U', l2, c2, s2⟩, hW₁, X', ⟨g', mk, t, L, e1, e2, hq, h1, hL, h2, h3⟩, st⟩ | ⟨q, vm₁, ⟨U', l2, c2, s2⟩, hW₁, X', ⟨g', mk, t, L, E, ce, e1, e2, hq, hce, hcv, hcl, h1, hL, h2, h3⟩, st⟩
  · dsimp only [Pt.U, Pt.locs, Pt.cells, Pt.slots] at X' e1 e2 h1 h2 h3 st
    subst h1; subst h2; subst h3
    exact Or.inl ⟨v, (T.setVm vm₁).calling g' mk As.toArray, t, U', L, hT, X', hL, e1, e2, hq, st⟩
  · dsimp only [Pt.U, Pt.locs, Pt.cells, Pt.slots] at X' e1 e2 h1 h2 h3 st hcl
    subst h1; subst h2; subst h3
    exact Or.inr ⟨q, (T.setVm vm₁).calling g' mk As.toArray, t, U', L, E, ce, hT, X', hL, e1, e2, hq, hce, hcv, vx_cls hW₁ hcl, st⟩
end Runs
section Rows
variable {p : Program} {l : Launch} {e : Env} {R : Room} {s : State} {m : MethodId} {args : Array Value} {below : List Frame} {meth : Method} {c : Code} {H : Heap} {locs : List Loc} {cells slots : Nat} {Q : State → Prop}
variable {mc ms : Nat} {free : Addr → Prop} {A0 A1 : Nat → Prop} {H0 : Heap} {a : Array Value} {pc : Nat} {ls : Array Slot} {st0 rest : List Value}
theorem vx_keep {st₀ t T' : State} {L : List Loc} (h0 : st₀.heap = H) (e1 : T'.heap = t.heap) (hS : va_S A0 H0 H locs) (hA : ∀ q, q < H.size → A1 q → A0 q) (hf : ∀ q, free q → A0 q) (hL : ∀ q ∈ L, free q.base) (hF : va_F A1 st₀ t) :
    H.size ≤ T'.heap.size ∧ (∀ q : Nat, q < H.size → ¬ A1 q → T'.heap[q]? = H[q]?) ∧ va_S A0 H0 T'.heap (locs ++ L) := by
  obtain ⟨hz, hk⟩ := hF
  rw [h0] at hz hk
  exact ⟨by rw [e1]; exact hz, fun q h1 h2 => by rw [e1]; exact hk q h1 h2,
    ⟨Nat.le_trans hS.1 (by rw [e1]; exact hz), fun q h1 h2 => by rw [e1, hk q (Nat.lt_of_lt_of_le h1 hS.1) (fun z => h2 (hA q (Nat.lt_of_lt_of_le h1 hS.1) z))]; exact hS.2.1 q h1 h2, fun q hq => by
      rcases List.mem_append.mp hq with h | h
      · exact hS.2.2 q h
      · exact hf _ (hL q h)⟩⟩
theorem vx_calli {S SX : Type} {post : Int32 → S → Prop} {px : SX → Prop} {B : S → State → Prop} {BX : String → SX → State → Prop} {AX : Nat → Prop} (hr : vx_Run p l e R s m args below meth c H locs cells slots mc ms (F0 m pc ls st0) rest (va_Qi post B A1 a) (vx_X px BX AX) free) (hS : va_S A0 H0 H locs) (hA : ∀ q, q < H.size → A1 q → A0 q) (hf : ∀ q, free q → A0 q) (hAX : ∀ q, q < H.size → AX q → A0 q)
    (kx : ∀ (E : String) (ce : Cell) (q9 : Addr) (u : SX) (t : State) (H1 : Heap) (locs1 : List Loc), t.heap = H1 → s.vm.Alike t.vm → px u → BX E u t → H.size ≤ H1.size → (∀ q : Nat, q < H.size → ¬ AX q → H1[q]? = H[q]?) → va_S A0 H0 H1 locs1 → H1[q9]? = some ce → ce.vm = .none → s.vm.findClass E = some ce.cls → vx_W p l e R s m args below meth c H1 locs1 (cells + mc) (slots + ms) Q (F0 m pc ls rest) q9)
    (kk : ∀ (r : Int32) (u : S) (t : State) (H1 : Heap) (locs1 : List Loc), t.heap = H1 → s.vm.Alike t.vm → post r u → B u t → H.size ≤ H1.size → (∀ q : Nat, q < H.size → ¬ A1 q → H1[q]? = H[q]?) → va_S A0 H0 H1 locs1 → W p l e R s m args below meth c H1 locs1 (cells + mc) (slots + ms) Q (F0 m (pc + 3) ls (.int r :: rest))) : W p l e R s m args below meth c H locs cells slots Q (F0 m pc ls st0) := by
  intro T hT X
  rcases hr T hT X with ⟨v, st₀, t, T', L, h0, X', hL, e1, e2, ⟨⟨r, u, hv, hp, hb⟩, hF⟩, st⟩ | ⟨q, st₀, t, T', L, E, ce, h0, X', hL, e1, e2, ⟨u, hp, hb, hF⟩, hce, hcv, hcl, st⟩
  · cases hv
    obtain ⟨k1, k2, k3⟩ := vx_keep h0 e1 hS hA hf hL hF
    obtain ⟨t2, a1, b1⟩ := kk r u t T'.heap (locs ++ L) e1.symm (by rw [← e2]; exact X'.warmed.alike) hp hb k1 k2 k3 T' rfl X'
    exact ⟨t2, st t2 a1, b1⟩
  · obtain ⟨k1, k2, k3⟩ := vx_keep h0 e1 hS hAX hf hL hF
    obtain ⟨t2, a1, b1⟩ := kx E ce q u t T'.heap (locs ++ L) e1.symm (by rw [← e2]; exact X'.warmed.alike) hp hb k1 k2 k3 (by rw [e1]; exact hce) hcv hcl T' rfl X'
    exact ⟨t2, st.trans a1, b1⟩
theorem vx_calll {S SX : Type} {post : Int64 → S → Prop} {px : SX → Prop} {B : S → State → Prop} {BX : String → SX → State → Prop} {AX : Nat → Prop} (hr : vx_Run p l e R s m args below meth c H locs cells slots mc ms (F0 m pc ls st0) rest (va_Ql post B A1 a) (vx_X px BX AX) free) (hS : va_S A0 H0 H locs) (hA : ∀ q, q < H.size → A1 q → A0 q) (hf : ∀ q, free q → A0 q) (hAX : ∀ q, q < H.size → AX q → A0 q)
    (kx : ∀ (E : String) (ce : Cell) (q9 : Addr) (u : SX) (t : State) (H1 : Heap) (locs1 : List Loc), t.heap = H1 → s.vm.Alike t.vm → px u → BX E u t → H.size ≤ H1.size → (∀ q : Nat, q < H.size → ¬ AX q → H1[q]? = H[q]?) → va_S A0 H0 H1 locs1 → H1[q9]? = some ce → ce.vm = .none → s.vm.findClass E = some ce.cls → vx_W p l e R s m args below meth c H1 locs1 (cells + mc) (slots + ms) Q (F0 m pc ls rest) q9)
    (kk : ∀ (r : Int64) (u : S) (t : State) (H1 : Heap) (locs1 : List Loc), t.heap = H1 → s.vm.Alike t.vm → post r u → B u t → H.size ≤ H1.size → (∀ q : Nat, q < H.size → ¬ A1 q → H1[q]? = H[q]?) → va_S A0 H0 H1 locs1 → W p l e R s m args below meth c H1 locs1 (cells + mc) (slots + ms) Q (F0 m (pc + 3) ls (.long r :: rest))) : W p l e R s m args below meth c H locs cells slots Q (F0 m pc ls st0) := by
  intro T hT X
  rcases hr T hT X with ⟨v, st₀, t, T', L, h0, X', hL, e1, e2, ⟨⟨r, u, hv, hp, hb⟩, hF⟩, st⟩ | ⟨q, st₀, t, T', L, E, ce, h0, X', hL, e1, e2, ⟨u, hp, hb, hF⟩, hce, hcv, hcl, st⟩
  · cases hv
    obtain ⟨k1, k2, k3⟩ := vx_keep h0 e1 hS hA hf hL hF
    obtain ⟨t2, a1, b1⟩ := kk r u t T'.heap (locs ++ L) e1.symm (by rw [← e2]; exact X'.warmed.alike) hp hb k1 k2 k3 T' rfl X'
    exact ⟨t2, st t2 a1, b1⟩
  · obtain ⟨k1, k2, k3⟩ := vx_keep h0 e1 hS hAX hf hL hF
    obtain ⟨t2, a1, b1⟩ := kx E ce q u t T'.heap (locs ++ L) e1.symm (by rw [← e2]; exact X'.warmed.alike) hp hb k1 k2 k3 (by rw [e1]; exact hce) hcv hcl T' rfl X'
    exact ⟨t2, st.trans a1, b1⟩
theorem vx_callf {S SX : Type} {post : UInt32 → S → Prop} {px : SX → Prop} {B : S → State → Prop} {BX : String → SX → State → Prop} {AX : Nat → Prop} (hr : vx_Run p l e R s m args below meth c H locs cells slots mc ms (F0 m pc ls st0) rest (va_Qf post B A1 a) (vx_X px BX AX) free) (hS : va_S A0 H0 H locs) (hA : ∀ q, q < H.size → A1 q → A0 q) (hf : ∀ q, free q → A0 q) (hAX : ∀ q, q < H.size → AX q → A0 q)
    (kx : ∀ (E : String) (ce : Cell) (q9 : Addr) (u : SX) (t : State) (H1 : Heap) (locs1 : List Loc), t.heap = H1 → s.vm.Alike t.vm → px u → BX E u t → H.size ≤ H1.size → (∀ q : Nat, q < H.size → ¬ AX q → H1[q]? = H[q]?) → va_S A0 H0 H1 locs1 → H1[q9]? = some ce → ce.vm = .none → s.vm.findClass E = some ce.cls → vx_W p l e R s m args below meth c H1 locs1 (cells + mc) (slots + ms) Q (F0 m pc ls rest) q9)
    (kk : ∀ (r : UInt32) (u : S) (t : State) (H1 : Heap) (locs1 : List Loc), t.heap = H1 → s.vm.Alike t.vm → post r u → B u t → H.size ≤ H1.size → (∀ q : Nat, q < H.size → ¬ A1 q → H1[q]? = H[q]?) → va_S A0 H0 H1 locs1 → W p l e R s m args below meth c H1 locs1 (cells + mc) (slots + ms) Q (F0 m (pc + 3) ls (.float r :: rest))) : W p l e R s m args below meth c H locs cells slots Q (F0 m pc ls st0) := by
  intro T hT X
  rcases hr T hT X with ⟨v, st₀, t, T', L, h0, X', hL, e1, e2, ⟨⟨r, u, hv, hp, hb⟩, hF⟩, st⟩ | ⟨q, st₀, t, T', L, E, ce, h0, X', hL, e1, e2, ⟨u, hp, hb, hF⟩, hce, hcv, hcl, st⟩
  · cases hv
    obtain ⟨k1, k2, k3⟩ := vx_keep h0 e1 hS hA hf hL hF
    obtain ⟨t2, a1, b1⟩ := kk r u t T'.heap (locs ++ L) e1.symm (by rw [← e2]; exact X'.warmed.alike) hp hb k1 k2 k3 T' rfl X'
    exact ⟨t2, st t2 a1, b1⟩
  · obtain ⟨k1, k2, k3⟩ := vx_keep h0 e1 hS hAX hf hL hF
    obtain ⟨t2, a1, b1⟩ := kx E ce q u t T'.heap (locs ++ L) e1.symm (by rw [← e2]; exact X'.warmed.alike) hp hb k1 k2 k3 (by rw [e1]; exact hce) hcv hcl T' rfl X'
    exact ⟨t2, st.trans a1, b1⟩
theorem vx_calld {S SX : Type} {post : UInt64 → S → Prop} {px : SX → Prop} {B : S → State → Prop} {BX : String → SX → State → Prop} {AX : Nat → Prop} (hr : vx_Run p l e R s m args below meth c H locs cells slots mc ms (F0 m pc ls st0) rest (va_Qd post B A1 a) (vx_X px BX AX) free) (hS : va_S A0 H0 H locs) (hA : ∀ q, q < H.size → A1 q → A0 q) (hf : ∀ q, free q → A0 q) (hAX : ∀ q, q < H.size → AX q → A0 q)
    (kx : ∀ (E : String) (ce : Cell) (q9 : Addr) (u : SX) (t : State) (H1 : Heap) (locs1 : List Loc), t.heap = H1 → s.vm.Alike t.vm → px u → BX E u t → H.size ≤ H1.size → (∀ q : Nat, q < H.size → ¬ AX q → H1[q]? = H[q]?) → va_S A0 H0 H1 locs1 → H1[q9]? = some ce → ce.vm = .none → s.vm.findClass E = some ce.cls → vx_W p l e R s m args below meth c H1 locs1 (cells + mc) (slots + ms) Q (F0 m pc ls rest) q9)
    (kk : ∀ (r : UInt64) (u : S) (t : State) (H1 : Heap) (locs1 : List Loc), t.heap = H1 → s.vm.Alike t.vm → post r u → B u t → H.size ≤ H1.size → (∀ q : Nat, q < H.size → ¬ A1 q → H1[q]? = H[q]?) → va_S A0 H0 H1 locs1 → W p l e R s m args below meth c H1 locs1 (cells + mc) (slots + ms) Q (F0 m (pc + 3) ls (.double r :: rest))) : W p l e R s m args below meth c H locs cells slots Q (F0 m pc ls st0) := by
  intro T hT X
  rcases hr T hT X with ⟨v, st₀, t, T', L, h0, X', hL, e1, e2, ⟨⟨r, u, hv, hp, hb⟩, hF⟩, st⟩ | ⟨q, st₀, t, T', L, E, ce, h0, X', hL, e1, e2, ⟨u, hp, hb, hF⟩, hce, hcv, hcl, st⟩
  · cases hv
    obtain ⟨k1, k2, k3⟩ := vx_keep h0 e1 hS hA hf hL hF
    obtain ⟨t2, a1, b1⟩ := kk r u t T'.heap (locs ++ L) e1.symm (by rw [← e2]; exact X'.warmed.alike) hp hb k1 k2 k3 T' rfl X'
    exact ⟨t2, st t2 a1, b1⟩
  · obtain ⟨k1, k2, k3⟩ := vx_keep h0 e1 hS hAX hf hL hF
    obtain ⟨t2, a1, b1⟩ := kx E ce q u t T'.heap (locs ++ L) e1.symm (by rw [← e2]; exact X'.warmed.alike) hp hb k1 k2 k3 (by rw [e1]; exact hce) hcv hcl T' rfl X'
    exact ⟨t2, st.trans a1, b1⟩
theorem vx_callv {S SX : Type} {post : S → Prop} {px : SX → Prop} {B : S → State → Prop} {BX : String → SX → State → Prop} {AX : Nat → Prop} (hr : vx_Run p l e R s m args below meth c H locs cells slots mc ms (F0 m pc ls st0) rest (va_Qv post B A1 a) (vx_X px BX AX) free) (hS : va_S A0 H0 H locs) (hA : ∀ q, q < H.size → A1 q → A0 q) (hf : ∀ q, free q → A0 q) (hAX : ∀ q, q < H.size → AX q → A0 q)
    (kx : ∀ (E : String) (ce : Cell) (q9 : Addr) (u : SX) (t : State) (H1 : Heap) (locs1 : List Loc), t.heap = H1 → s.vm.Alike t.vm → px u → BX E u t → H.size ≤ H1.size → (∀ q : Nat, q < H.size → ¬ AX q → H1[q]? = H[q]?) → va_S A0 H0 H1 locs1 → H1[q9]? = some ce → ce.vm = .none → s.vm.findClass E = some ce.cls → vx_W p l e R s m args below meth c H1 locs1 (cells + mc) (slots + ms) Q (F0 m pc ls rest) q9)
    (kk : ∀ (u : S) (t : State) (H1 : Heap) (locs1 : List Loc), t.heap = H1 → s.vm.Alike t.vm → post u → B u t → H.size ≤ H1.size → (∀ q : Nat, q < H.size → ¬ A1 q → H1[q]? = H[q]?) → va_S A0 H0 H1 locs1 → W p l e R s m args below meth c H1 locs1 (cells + mc) (slots + ms) Q (F0 m (pc + 3) ls (rest))) : W p l e R s m args below meth c H locs cells slots Q (F0 m pc ls st0) := by
  intro T hT X
  rcases hr T hT X with ⟨v, st₀, t, T', L, h0, X', hL, e1, e2, ⟨⟨u, hv, hp, hb⟩, hF⟩, st⟩ | ⟨q, st₀, t, T', L, E, ce, h0, X', hL, e1, e2, ⟨u, hp, hb, hF⟩, hce, hcv, hcl, st⟩
  · cases hv
    obtain ⟨k1, k2, k3⟩ := vx_keep h0 e1 hS hA hf hL hF
    obtain ⟨t2, a1, b1⟩ := kk u t T'.heap (locs ++ L) e1.symm (by rw [← e2]; exact X'.warmed.alike) hp hb k1 k2 k3 T' rfl X'
    exact ⟨t2, st t2 a1, b1⟩
  · obtain ⟨k1, k2, k3⟩ := vx_keep h0 e1 hS hAX hf hL hF
    obtain ⟨t2, a1, b1⟩ := kx E ce q u t T'.heap (locs ++ L) e1.symm (by rw [← e2]; exact X'.warmed.alike) hp hb k1 k2 k3 (by rw [e1]; exact hce) hcv hcl T' rfl X'
    exact ⟨t2, st.trans a1, b1⟩
/-- caught by the row x of this method's table; the rows ahead don't take it -/
theorem vx_catch {own name : String} {E : String} {ce : Cell} {q : Addr} (hown : s.vm.findClass own = some m.cls) (pre : List ExceptionTableEntry) (x : ExceptionTableEntry) (suf : List ExceptionTableEntry) (hsplit : c.exceptionTable.toList = pre ++ x :: suf)
    (hpass : ∀ z ∈ pre, covers z pc = false ∨ (z.catchType ≠ 0 ∧ ∃ nm : String, (Cond.classLink own z.catchType nm).before args s = true ∧ va_Nc E nm s)) (hx : covers x pc = true) (h0 : x.catchType ≠ 0)
    (hlink : (Cond.classLink own x.catchType name).before args s = true) (hcast : (Cond.castable E name).before args s = true) (hcell : H[q]? = some ce) (hv : ce.vm = .none) (hcl : s.vm.findClass E = some ce.cls)
    (kk : W p l e R s m args below meth c H locs cells slots Q (F0 m x.handlerPc ls [.ref q])) : vx_W p l e R s m args below meth c H locs cells slots Q (F0 m pc ls rest) q := by
  intro T hT X
  have hpl : e.platform.magicAccessors = ({} : Platform).magicAccessors := by rw [X.admits.platform]
  obtain ⟨c3, c4, hc3, hc4, hasg⟩ := Cond.castable_spec hcast
  cases Option.some.inj (hc3.symm.trans hcl)
  obtain ⟨c5, hc5, hcl5⟩ := Cond.classLink_spec hown hlink e.platform hpl
  cases Option.some.inj (hc4.symm.trans hc5)
  obtain ⟨vm', X', st⟩ := X.thenCaughtThrough q (g := F0 m pc ls rest) rfl (Steps.refl _) (by rw [hT]; exact hcell) (by rw [hv]; rfl) (by obtain ⟨k9, h9, -⟩ := Vm.findClass_spec hcl; exact ⟨k9, h9⟩) pre x suf hsplit
    (fun z hz => by
      rcases hpass z hz with h | ⟨hz0, nm, hl1, hn1⟩
      · exact Or.inl h
      · obtain ⟨c6, hc6, hcl6⟩ := Cond.classLink_spec hown hl1 e.platform hpl
        obtain ⟨a8, b8, h1, h2, h3⟩ := hn1
        cases Option.some.inj (h1.symm.trans hcl)
        cases Option.some.inj (h2.symm.trans hc6)
        exact Or.inr ⟨hz0, _, hcl6, h3⟩) hx (Or.inr ⟨h0, c4, hcl5, hasg⟩)
  obtain ⟨t, a1, b1⟩ := kk (T.setVm vm') hT X'
  exact ⟨t, st.trans a1, b1⟩
end Rows
section Ends
variable {p : Program} {l : Launch} {e : Env} {R : Room} {s : State} {m : MethodId} {args : Array Value} {below : List Frame} {meth : Method} {c : Code} {H : Heap} {locs : List Loc} {cells slots : Nat} {Q : State → Prop}
variable {mc ms : Nat} {free : Addr → Prop} {A0 A1 : Nat → Prop} {H0 : Heap} {a : Array Value} {ls : Array Slot} {st0 rest : List Value}
variable {Qc : Array Value → State → Outcome → State → Prop} {XC : String → State → State → Prop}
/-- what a body that may throw owes at its end -/
def vx_MQ (below : List Frame) (Qc : Array Value → State → Outcome → State → Prop) (XC : String → State → State → Prop) (a : Array Value) (s : State) (mc ms : Nat) (free : Addr → Prop) : State → Prop := fun t =>
  ∃ o, t.status = .running ∧ Ended t below o ∧ vx_Q Qc XC mc ms free a s o t
theorem vx_ret {g : JFrame} {mc ms : Nat} (k : W p l e R s m args below meth c H locs cells slots (MQ below Qc args s mc ms free) g) : W p l e R s m args below meth c H locs cells slots (vx_MQ below Qc XC args s mc ms free) g := by
  intro T hT X
  obtain ⟨t, a1, o, b1, b2, b3, b4⟩ := k T hT X
  exact ⟨t, a1, o, b1, b2, Or.inl ⟨b3, b4⟩⟩
/-- not caught here: it goes on to the caller -/
theorem vx_widen {g : JFrame} {q : Addr} {k n : Nat} (h1 : cells ≤ k) (h2 : slots ≤ n) (kk : vx_W p l e R s m args below meth c H locs k n Q g q) : vx_W p l e R s m args below meth c H locs cells slots Q g q := fun T hT X => kk T hT (stand_widen X h1 h2)
theorem vx_out {pc : Nat} {E : String} {ce : Cell} {q : Addr} {mc ms : Nat} (hout : ∀ x ∈ c.exceptionTable.toList, covers x pc = false) (hlocks : meth.locks = false) (hcell : H[q]? = some ce) (hv : ce.vm = .none) (hcl : s.vm.findClass E = some ce.cls)
    (hx : ∀ t : State, t.heap = H → s.vm.Alike t.vm → XC E s t) (hf : ∀ z ∈ locs, free z.base) (hc : cells ≤ mc) (hs : slots ≤ ms) :
    vx_W p l e R s m args below meth c H locs cells slots (vx_MQ below Qc XC args s mc ms free) (F0 m pc ls rest) q := by
  intro T hT X
  obtain ⟨st1, hrun, hend, hW, hsm⟩ := X.leaveThrown q (g := F0 m pc ls rest) rfl rfl rfl hout hlocks
  have hcell9 : (T.setFrames (.throwing q :: below)).heap[q]? = some ce := by
    show T.heap[q]? = some ce
    rw [hT]; exact hcell
  exact ⟨_, st1, .threw q, hrun, hend, Or.inr ⟨q, rfl, E, ce, locs, hx _ hT hW.alike, hcell9, hv, hcl, hW, hsm.mono hc hs, hf⟩⟩
theorem vx_frame {U : State} {k n : Nat} (h : s.sameButNew ({ U with vm := s.vm } : State) locs k n) : s.heap.size ≤ U.heap.size ∧ ∀ q : Nat, q < s.heap.size → (∀ z ∈ locs, z.base ≠ q) → U.heap[q]? = s.heap[q]? := by
  obtain ⟨-, h2, -, -, -, h6⟩ := h
  refine ⟨h2, fun q hq hz => ?_⟩
  obtain ⟨c9, e1, e2, e3, e4⟩ := h6 q _ (Array.getElem?_eq_getElem hq)
  have hs : c9.slots = (s.heap[q]).slots := Array.ext_getElem? fun i => e4 i fun hm => hz _ hm rfl
  have h9 : c9 = s.heap[q] := by
    rw [hs] at e2
    exact e2
  have e5 : U.heap[q]? = some c9 := e1
  rw [e5, h9, Array.getElem?_eq_getElem hq]
/-- the words of a throw but the four that speak of the heap -/
def vx_no (w : Cond) : Bool := decide (w ≠ .isRef (.static Bundle.tN "UNASSIGNED_STACK" Bundle.steD)) && decide (w ≠ .isRef (.static Bundle.tN "SUPPRESSED_SENTINEL" Bundle.listD)) && decide (w ≠ .laysStatic Bundle.tN "UNASSIGNED_STACK" Bundle.steD) && decide (w ≠ .laysStatic Bundle.tN "SUPPRESSED_SENTINEL" Bundle.listD)
def vx_at0 (own : String) (ic : Nat) (X : String) (names : List String) : List Cond := (Bundle.ownAtoms0 own ic X names).filter vx_no
def vx_atS (own : String) (ic : Nat) (X : String) (names : List String) : List Cond := (Bundle.ownAtoms own ic X names).filter vx_no
/-- a word that the tables alone decide, or a good one -/
def vx_ot (w : Cond) : Bool := w.onTables || goodWord w
theorem vx_ot_at {args a' : Array Value} {s U : State} {w : Cond} (hW : s.WarmedH U.vm) (hvm : s.vm = U.vm) (hg : vx_ot w = true) (h : w.before args s = true) : w.before a' U = true := by
  simp only [vx_ot, Bool.or_eq_true] at hg
  rcases hg with hg | hg
  · exact va_tabs hg hvm h
  · exact word_at hW (good_of_word hg) h
/-- a list's words: the good ones out of the method's own list, the others by premises of their own -/
theorem vx_hat {args : Array Value} {s : State} {L B : List Cond} (h1 : ∀ w ∈ L.filter goodWord, w.before args s = true) (h2 : ∀ w ∈ L.filter (fun w => !goodWord w), w ∈ B) (h3 : ∀ w ∈ B, w.before args s = true) : ∀ w ∈ L, w.before args s = true := by
  intro w hw
  by_cases g : goodWord w = true
  · exact h1 w (List.mem_filter.mpr ⟨hw, g⟩)
  · refine h3 w (h2 w (List.mem_filter.mpr ⟨hw, ?_⟩))
    show (!goodWord w) = true
    cases hgw : goodWord w
    · rfl
    · exact absurd hgw g
theorem vx_c {args : Array Value} {s : State} {w : Cond} {B : List Cond} (h : w.before args s = true) (t : ∀ w ∈ B, w.before args s = true) : ∀ w' ∈ w :: B, w'.before args s = true := fun w' h' => (List.mem_cons.mp h').elim (fun e => by rw [e]; exact h) (t w')
theorem vx_n {args : Array Value} {s : State} : ∀ w ∈ ([] : List Cond), w.before args s = true := fun _ h => nomatch h
theorem vx_own {args : Array Value} {s : State} {L : List Cond} (h1 : ∀ w ∈ L.filter vx_no, w.before args s = true)
    (hU : (Cond.isRef (.static Bundle.tN "UNASSIGNED_STACK" Bundle.steD)).before args s = true) (hN : (Cond.isRef (.static Bundle.tN "SUPPRESSED_SENTINEL" Bundle.listD)).before args s = true)
    (lU : (Cond.laysStatic Bundle.tN "UNASSIGNED_STACK" Bundle.steD).before args s = true) (lN : (Cond.laysStatic Bundle.tN "SUPPRESSED_SENTINEL" Bundle.listD).before args s = true) : ∀ w ∈ L, w.before args s = true := by
  intro w hw
  by_cases e1 : w = .isRef (.static Bundle.tN "UNASSIGNED_STACK" Bundle.steD)
  · rw [e1]; exact hU
  · by_cases e2 : w = .isRef (.static Bundle.tN "SUPPRESSED_SENTINEL" Bundle.listD)
    · rw [e2]; exact hN
    · by_cases e3 : w = .laysStatic Bundle.tN "UNASSIGNED_STACK" Bundle.steD
      · rw [e3]; exact lU
      · by_cases e4 : w = .laysStatic Bundle.tN "SUPPRESSED_SENTINEL" Bundle.listD
        · rw [e4]; exact lN
        · exact h1 w (List.mem_filter.mpr ⟨hw, by unfold vx_no; rw [decide_eq_true e1, decide_eq_true e2, decide_eq_true e3, decide_eq_true e4]; rfl⟩)
/-- where a static field lies, its class's statics cell in H -/
def vx_L (C n d : String) (A : Nat → Prop) (U : State) (H : Heap) : Prop := ∃ (c : ClassId) (k : Class) (i : Nat) (f : Field) (a : Nat) (cell : Cell), U.vm.findClass C = some c ∧ U.fieldFound? C n d = some (c, k, i, f) ∧ f.isStatic = true ∧ k.statics = some a ∧ H[a]? = some cell ∧ cell.vm.isStatics = true ∧ cell.cls = c ∧ f.slot < cell.slots.size ∧ k.staticTypes[f.slot]? = some f.type ∧ ¬ A a
theorem vx_L.moved {C n d : String} {A : Nat → Prop} {u U : State} {H : Heap} (hvm : u.vm.Alike U.vm) (h : vx_L C n d A u H) : vx_L C n d A U H := by
  obtain ⟨c, k, i, f, a, cell, h1, h2, h3, h4, h5, h6, h7, h8, h9, h10⟩ := h
  obtain ⟨k', hi', he⟩ := State.fieldFound?_setVm hvm h2
  exact ⟨c, k', i, f, a, cell, by rw [hvm.findClass]; exact h1, hi', h3, by rw [he]; exact h4, h5, h6, h7, h8, by rw [he]; exact h9, h10⟩
theorem vx_L.kept {C n d : String} {A : Nat → Prop} {U : State} {H H1 : Heap} (h : vx_L C n d A U H) (hq : ∀ a : Nat, a < H.size → ¬ A a → H1[a]? = H[a]?) : vx_L C n d A U H1 := by
  obtain ⟨c, k, i, f, a, cell, h1, h2, h3, h4, h5, h6, h7, h8, h9, h10⟩ := h
  exact ⟨c, k, i, f, a, cell, h1, h2, h3, h4, by rw [hq a (Array.getElem?_eq_some_iff.mp h5).1 h10]; exact h5, h6, h7, h8, h9, h10⟩
theorem vx_L.narrow {C n d : String} {A B : Nat → Prop} {U : State} {H : Heap} (h : vx_L C n d A U H) (hAB : ∀ q, B q → A q) : vx_L C n d B U H := by
  obtain ⟨c, k, i, f, a, cell, h1, h2, h3, h4, h5, h6, h7, h8, h9, h10⟩ := h
  exact ⟨c, k, i, f, a, cell, h1, h2, h3, h4, h5, h6, h7, h8, h9, fun z => h10 (hAB _ z)⟩
theorem vx_L.word {C n d : String} {A : Nat → Prop} {s : State} {args : Array Value} (h : vx_L C n d A s s.heap) : (Cond.laysStatic C n d).before args s = true := by
  obtain ⟨c, k, i, f, a, cell, h1, h2, h3, h4, h5, h6, h7, h8, h9, -⟩ := h
  show (Cond.laysStatic C n d).holds args s none s [] = true
  exact Cond.laysStatic_of h1 h2 h3 h4 h5 h6 h7 h8 h9
/-- .. and what it holds: null or some reference -/
def vx_Zq (C n d : String) (A : Nat → Prop) (U : State) (H : Heap) : Prop := va_Zq C n d A U H ∧ vx_L C n d A U H
theorem vx_Zq.moved {C n d : String} {A : Nat → Prop} {u U : State} {H : Heap} (hvm : u.vm.Alike U.vm) (h : vx_Zq C n d A u H) : vx_Zq C n d A U H := ⟨va_Zq.moved hvm h.1, vx_L.moved hvm h.2⟩
theorem vx_Zq.kept {C n d : String} {A : Nat → Prop} {U : State} {H H1 : Heap} (h : vx_Zq C n d A U H) (hq : ∀ a : Nat, a < H.size → ¬ A a → H1[a]? = H[a]?) : vx_Zq C n d A U H1 := ⟨va_Zq.kept h.1 hq, vx_L.kept h.2 hq⟩
theorem vx_Zq.narrow {C n d : String} {A B : Nat → Prop} {U : State} {H : Heap} (h : vx_Zq C n d A U H) (hAB : ∀ q, B q → A q) : vx_Zq C n d B U H := ⟨va_Zq.narrow h.1 hAB, vx_L.narrow h.2 hAB⟩
theorem vx_Zqof {args : Array Value} {s : State} {C n d : String} {A : Nat → Prop} (hl : (Cond.laysStatic C n d).before args s = true) (hini : (Cond.initialized C).before args s = true) (h : (Cond.isRef (.static C n d)).before args s = true) (hA : ∀ a : Nat, a < s.heap.size → ¬ A a) : vx_Zq C n d A s s.heap := by
  refine ⟨va_Zqof hl hini h hA, ?_⟩
  obtain ⟨c, k, i, f, a, cell, h1, h2, h3, h4, h5, h6, h7, h8, h9⟩ := Cond.laysStatic_spec hl
  exact ⟨c, k, i, f, a, cell, h1, h2, h3, h4, h5, h6, h7, h8, h9, hA a (Array.getElem?_eq_some_iff.mp h5).1⟩
theorem vx_isRef {C n d : String} {v : Value} {A : Nat → Prop} {s : State} {args : Array Value} (h : va_Z C n d v A s s.heap) (hv : v.isRef = true) : (Cond.isRef (.static C n d)).before args s = true := by
  obtain ⟨cf, kf, fi, f, a, cell, h1, h2, h3, h4, h5, h6, h7, -⟩ := h
  have he : (Term.static C n d).eval args s none [] s = some v := by
    simp [Term.eval, State.fieldNamed?, h1, h2, h4, h5, h6, h7]
  simp only [Cond.before, Cond.holds, Cond.value, he]
  cases v <;> simp_all [Value.isRef]
theorem vx_isRefq {C n d : String} {A : Nat → Prop} {s : State} {args : Array Value} (h : va_Zq C n d A s s.heap) : (Cond.isRef (.static C n d)).before args s = true := by
  rcases h with h | ⟨t, h⟩
  · exact vx_isRef h rfl
  · exact vx_isRef h rfl
/-- the same frame, seen from here: as if the method were called anew in this heap -/
theorem vx_rebase {T : State} (X : Stand p l e R s m args below meth c T locs cells slots) {R' : Room} (hf : R'.frames ≤ R.frames) (hl : R'.locals ≤ R.locals) (hc : cells + R'.cells ≤ R.cells) (hs : slots + R'.slots ≤ R.slots) :
    Stand p l e R' ((T.setVm s.vm).setFrames (.invoking m args :: below)) m args below meth c T [] 0 0 := by
  have htop : (T.setVm s.vm).topJava?.isSome := X.here.top
  have hF : ((T.setVm s.vm).setFrames (.invoking m args :: below)).frames = .invoking m args :: below := State.frames_setFrames _ (State.cur_lt_of_top htop)
  obtain ⟨g₀, hg0⟩ := Option.isSome_iff_exists.mp htop
  obtain ⟨r, hr⟩ := State.topJava?_eq_some.mp hg0
  have hl9 : e.platform.stackLimits (T.setVm s.vm).me = e.platform.stackLimits s.me := X.limits
  have hb9 : (T.setVm s.vm).me.stackBytes = s.me.stackBytes := X.bytes
  refine ⟨X.admits, X.cas, X.clock, hF, ?_, X.hears, X.method, X.code, X.here, X.tail, X.warmed, ?_, ?_, ?_⟩
  · have h := X.room
    have hU : ((T.setVm s.vm).setFrames (.invoking m args :: below)).localsInUse = s.localsInUse := by
      rw [State.localsInUse_invoking hF (meth := meth) (c := c) X.method X.code, State.localsInUse_invoking X.frames X.method X.code]
    simp only [State.hasRoom, Bool.and_eq_true, decide_eq_true_eq] at h ⊢
    obtain ⟨⟨⟨⟨h1, h2, h3, h4, h5, h6⟩, h7⟩, h8⟩, h9⟩ := h
    rw [X.frames, List.length_cons] at h2 h3
    have q1 := X.heapSize
    have q2 := X.used
    simp only [hF, hU, List.length_cons, State.stackLimits_setFrames, State.stackBytes_setFrames, hl9, hb9]
    refine ⟨⟨⟨⟨by omega, by omega, by omega, by omega, by omega, h6⟩, ?_⟩, ?_⟩, X.book⟩
    · show T.heap.size + R'.cells ≤ e.platform.maxCells
      omega
    · show T.slotsUsed + R'.slots ≤ e.platform.maxSlots
      omega
  · rw [State.stackLimits_setFrames]; rfl
  · rw [State.stackBytes_setFrames]; rfl
  · refine ⟨?_, Nat.le_refl _, Nat.le_refl _, ?_, ?_, fun a c9 h9 => ⟨c9, h9, rfl, rfl, fun _ _ => rfl⟩⟩
    · obtain ⟨t, ht, -⟩ := State.frames_cons hr
      show T.setVm s.vm = { ((T.setVm s.vm).setFrames (.invoking m args :: below)).setFrames (T.setVm s.vm).frames with heap := T.heap, slotsUsed := T.slotsUsed }
      rw [State.setFrames_setFrames, State.setFrames_self ht]
      rfl
    · show T.slotsUsed = T.slotsUsed + ((T.heap.toList.drop T.heap.size).map (·.slots.size)).sum
      rw [List.drop_eq_nil_of_le (Nat.le_of_eq Array.length_toList)]
      rfl
    · show ((T.heap.toList.drop T.heap.size).map (·.slots.size)).sum ≤ 0
      rw [List.drop_eq_nil_of_le (Nat.le_of_eq Array.length_toList)]
      exact Nat.le_refl _
/-- 'throw new E()': new; dup; invokespecial; athrow -/
theorem vx_throw0 {cc : ByteArray} {pc : Nat} (hexec : p.tables.exec = Jvm.exec) (hb : c.code = cc) (hl : l.stackTraces = false) {own cls : String} {names : List String} {ik ic mc ms : Nat} {A : Nat → Prop}
    (hown : s.vm.findClass own = some m.cls) (hcls : Bundle.fit cls = true) (hnames : ∀ n ∈ names, Bundle.fit n = true)
    (hk : (Cond.classLink own ik cls).before args s = true) (hini : (Cond.initialized cls).before args s = true) (hat : ∀ w ∈ vx_at0 own ic cls names, w.before args s = true)
    (hgood : ∀ w ∈ Cond.classLink own ik cls :: Cond.initialized cls :: vx_at0 own ic cls names, vx_ot w = true)
    (hU : vx_Zq Bundle.tN "UNASSIGNED_STACK" Bundle.steD A s s.heap) (hN : vx_Zq Bundle.tN "SUPPRESSED_SENTINEL" Bundle.listD A s s.heap) (hS : va_S A s.heap H locs) (hsize : ls.size = c.maxLocals)
    (d0 : decode cc pc = .ok (.new ik, 3)) (d3 : decode cc (pc + 3) = .ok (.dup, 1)) (d4 : decode cc (pc + 4) = .ok (.invokespecial ic, 3)) (d7 : decode cc (pc + 7) = .ok (.athrow, 1))
    (hout : ∀ x ∈ c.exceptionTable.toList, covers x (pc + 7) = false)
    (hRframes : names.length + 3 < R.frames) (hRlocals : (rest.map fun v => v.category).sum + (13 * (names.length + 1) + 42) ≤ R.locals) (hRcells : cells + 1 ≤ R.cells) (hRslots : slots + 6 ≤ R.slots) (hlocks : meth.locks = false)
    (hx : ∀ t : State, s.vm.Alike t.vm → H.size ≤ t.heap.size → (∀ q : Nat, q < H.size → t.heap[q]? = H[q]?) → XC cls s t)
    (hf : ∀ z ∈ locs, free z.base) (hc : cells + 1 ≤ mc) (hs : slots + 6 ≤ ms) :
    W p l e R s m args below meth c H locs cells slots (vx_MQ below Qc XC args s mc ms free) (F0 m pc ls rest) := by
  intro T hT X
  have htr : e.platform.stackTraces = false := (show e.platform.stackTraces = l.stackTraces by rw [X.admits.platform]).trans hl
  have Y := vx_rebase X (R' := { frames := R.frames, locals := R.locals, cells := 1, slots := 6 }) (Nat.le_refl _) (Nat.le_refl _) hRcells hRslots
  obtain ⟨s', hA⟩ : ∃ z, z = (T.setVm s.vm).setFrames (.invoking m args :: below) := ⟨_, rfl⟩
  rw [← hA] at Y
  have hvm : s'.vm = s.vm := by rw [hA]; rfl
  have hhp : s'.heap = H := by rw [hA]; exact hT
  have hW0 : s.WarmedH s'.vm := by rw [hvm]; exact State.WarmedH.refl s
  have hat' : ∀ w ∈ vx_at0 own ic cls names, w.before args s' = true := fun w hw => vx_ot_at hW0 hvm.symm (hgood w (List.mem_cons_of_mem _ (List.mem_cons_of_mem _ hw))) (hat w hw)
  have hk' : (Cond.classLink own ik cls).before args s' = true := vx_ot_at hW0 hvm.symm (hgood _ List.mem_cons_self) hk
  have hini' : (Cond.initialized cls).before args s' = true := vx_ot_at hW0 hvm.symm (hgood _ (List.mem_cons_of_mem _ List.mem_cons_self)) hini
  have hU' : vx_Zq Bundle.tN "UNASSIGNED_STACK" Bundle.steD A s' s'.heap := by rw [hhp]; exact vx_Zq.moved hW0.alike (hU.kept hS.2.1)
  have hN' : vx_Zq Bundle.tN "SUPPRESSED_SENTINEL" Bundle.listD A s' s'.heap := by rw [hhp]; exact vx_Zq.moved hW0.alike (hN.kept hS.2.1)
  have h : ∀ w ∈ Bundle.ownAtoms0 own ic cls names, w.before args s' = true := vx_own hat' (vx_isRefq hU'.1) (vx_isRefq hN'.1) hU'.2.word hN'.2.word
  have hown' : s'.vm.findClass own = some m.cls := by rw [hvm]; exact hown
  have hins : (Cond.instantiable cls 6).before args s' = true := h _ (by simp [Bundle.ownAtoms0])
  obtain ⟨vm₁, cX, kX, hfX, hkX, -, -, X₁, st1⟩ := Y.newCold hexec (own := own) (C := cls) (index := ik) (n := 6) hown' hk' hins hini'
    (g := F0 m pc ls rest) rfl (by rw [hb]; exact d0) (Nat.le_refl _) (Nat.le_refl _)
  generalize hT1 : (T.setVm vm₁).pushCell { cls := cX, slots := kX.instanceTypes.map defaultValue, vm := .none } = T1 at X₁ st1
  have hcat : (Value.ref T.heap.size).category = 1 := rfl
  have hcellA : T1.heap[T.heap.size]? = some (freshCell cX kX) := by rw [← hT1]; exact State.heap_pushCell_size _ _
  have d3' : decode c.code (pc + 3) = .ok (.dup, 1) := by rw [hb]; exact d3
  obtain ⟨U, hsteps, hrun, hend, hW, hsame, ce, hce, hO⟩ := X₁.ctorThrow0 hexec htr (own := own) (cls := cls) (names := names) (ic := ic) hown' hcls hnames h (fun x hx => nomatch hx) hfX hkX hcellA (by rw [hhp, hT]; exact Nat.le_refl _)
    (g := { method := m, pc := pc + 4, locals := ls, stack := .ref T.heap.size :: .ref T.heap.size :: rest, locked := none }) rfl hsize rfl rfl (rest := rest) rfl
    (by rw [hb]; exact d4) (by rw [hb]; exact d7) hout hRframes (by simp only [List.map_cons, List.sum_cons, hcat]; omega) hlocks
  obtain ⟨f1, f2⟩ := vx_frame hsame
  rw [hhp] at f1 f2
  have hWs : s.WarmedH U.vm := State.WarmedH.trans hW0 hW
  have hcl : s.vm.findClass cls = some ce.cls := by
    have h9 := hO.cls
    rw [hvm] at h9
    exact h9
  have hall : s.sameButNew ({ U with vm := s.vm } : State) locs mc ms := by
    subst hA
    obtain ⟨e1, e2⟩ := hsame
    rw [State.setFrames_setFrames] at e1
    have h2 : (T.setVm s.vm).sameButNew ({ U with vm := s.vm } : State) [] (0 + 1) (0 + 6) := ⟨e1, e2⟩
    have h3 := X.same.trans h2
    rw [List.append_nil] at h3
    exact h3.mono hc hs
  refine ⟨U, ?_, .threw T.heap.size, hrun, hend, Or.inr ⟨T.heap.size, rfl, cls, ce, locs, hx U hWs.alike f1 (fun q hq => f2 q hq (fun z hz => nomatch hz)), hce, hO.vm, hcl, hWs, hall, hf⟩⟩
  refine st1 _ ?_
  show Steps p.tables e below (T1.setTop { method := m, pc := pc + 3, locals := ls, stack := .ref T.heap.size :: rest, locked := none }) _
  jvm_step X₁.here [X₁.here.top, hexec, d3', Value.category]
  exact hsteps
/-- 'throw new E("text")': new; dup; ldc; invokespecial; athrow -/
theorem vx_throwS {cc : ByteArray} {pc : Nat} (hexec : p.tables.exec = Jvm.exec) (hb : c.code = cc) (hl : l.stackTraces = false) {own cls text : String} {names : List String} {ik is ic mc ms sa : Nat} {A : Nat → Prop}
    (hown : s.vm.findClass own = some m.cls) (hcls : Bundle.fit cls = true) (hnames : ∀ n ∈ names, Bundle.fit n = true)
    (hk : (Cond.classLink own ik cls).before args s = true) (hini : (Cond.initialized cls).before args s = true) (hstr : vk_R own is text sa s) (hat : ∀ w ∈ vx_atS own ic cls names, w.before args s = true)
    (hgood : ∀ w ∈ Cond.classLink own ik cls :: Cond.initialized cls :: vx_atS own ic cls names, vx_ot w = true)
    (hU : vx_Zq Bundle.tN "UNASSIGNED_STACK" Bundle.steD A s s.heap) (hN : vx_Zq Bundle.tN "SUPPRESSED_SENTINEL" Bundle.listD A s s.heap) (hS : va_S A s.heap H locs) (hsize : ls.size = c.maxLocals)
    (d0 : decode cc pc = .ok (.new ik, 3)) (d3 : decode cc (pc + 3) = .ok (.dup, 1)) (d4 : decode cc (pc + 4) = .ok (.ldc is, 2)) (d6 : decode cc (pc + 6) = .ok (.invokespecial ic, 3)) (d9 : decode cc (pc + 9) = .ok (.athrow, 1))
    (hout : ∀ x ∈ c.exceptionTable.toList, covers x (pc + 9) = false)
    (hRframes : names.length + 3 < R.frames) (hRlocals : (rest.map fun v => v.category).sum + (13 * (names.length + 1) + 43) ≤ R.locals) (hRcells : cells + 1 ≤ R.cells) (hRslots : slots + 6 ≤ R.slots) (hlocks : meth.locks = false)
    (hx : ∀ t : State, s.vm.Alike t.vm → H.size ≤ t.heap.size → (∀ q : Nat, q < H.size → t.heap[q]? = H[q]?) → XC cls s t)
    (hf : ∀ z ∈ locs, free z.base) (hc : cells + 1 ≤ mc) (hs : slots + 6 ≤ ms) :
    W p l e R s m args below meth c H locs cells slots (vx_MQ below Qc XC args s mc ms free) (F0 m pc ls rest) := by
  intro T hT X
  have htr : e.platform.stackTraces = false := (show e.platform.stackTraces = l.stackTraces by rw [X.admits.platform]).trans hl
  have Y := vx_rebase X (R' := { frames := R.frames, locals := R.locals, cells := 1, slots := 6 }) (Nat.le_refl _) (Nat.le_refl _) hRcells hRslots
  obtain ⟨s', hA⟩ : ∃ z, z = (T.setVm s.vm).setFrames (.invoking m args :: below) := ⟨_, rfl⟩
  rw [← hA] at Y
  have hvm : s'.vm = s.vm := by rw [hA]; rfl
  have hhp : s'.heap = H := by rw [hA]; exact hT
  have hW0 : s.WarmedH s'.vm := by rw [hvm]; exact State.WarmedH.refl s
  have hat' : ∀ w ∈ vx_atS own ic cls names, w.before args s' = true := fun w hw => vx_ot_at hW0 hvm.symm (hgood w (List.mem_cons_of_mem _ (List.mem_cons_of_mem _ hw))) (hat w hw)
  have hk' : (Cond.classLink own ik cls).before args s' = true := vx_ot_at hW0 hvm.symm (hgood _ List.mem_cons_self) hk
  have hini' : (Cond.initialized cls).before args s' = true := vx_ot_at hW0 hvm.symm (hgood _ (List.mem_cons_of_mem _ List.mem_cons_self)) hini
  have hU' : vx_Zq Bundle.tN "UNASSIGNED_STACK" Bundle.steD A s' s'.heap := by rw [hhp]; exact vx_Zq.moved hW0.alike (hU.kept hS.2.1)
  have hN' : vx_Zq Bundle.tN "SUPPRESSED_SENTINEL" Bundle.listD A s' s'.heap := by rw [hhp]; exact vx_Zq.moved hW0.alike (hN.kept hS.2.1)
  have h : ∀ w ∈ Bundle.ownAtoms own ic cls names, w.before args s' = true := vx_own hat' (vx_isRefq hU'.1) (vx_isRefq hN'.1) hU'.2.word hN'.2.word
  have hown' : s'.vm.findClass own = some m.cls := by rw [hvm]; exact hown
  have hins : (Cond.instantiable cls 6).before args s' = true := h _ (by simp [Bundle.ownAtoms])
  obtain ⟨vm₁, cX, kX, hfX, hkX, -, -, X₁, st1⟩ := Y.newCold hexec (own := own) (C := cls) (index := ik) (n := 6) hown' hk' hins hini'
    (g := F0 m pc ls rest) rfl (by rw [hb]; exact d0) (Nat.le_refl _) (Nat.le_refl _)
  generalize hT1 : (T.setVm vm₁).pushCell { cls := cX, slots := kX.instanceTypes.map defaultValue, vm := .none } = T1 at X₁ st1
  have hcat : (Value.ref T.heap.size).category = 1 := rfl
  have hcellA : T1.heap[T.heap.size]? = some (freshCell cX kX) := by rw [← hT1]; exact State.heap_pushCell_size _ _
  have d3' : decode c.code (pc + 3) = .ok (.dup, 1) := by rw [hb]; exact d3
  have d4' : decode c.code (pc + 4) = .ok (.ldc is, 2) := by rw [hb]; exact d4
  have hstr' : vk_R own is text sa s' := vk_R.warm hW0 hstr
  obtain ⟨U, hsteps, hrun, hend, hW, hsame, ce, hce, hO⟩ := X₁.ctorThrowS hexec htr (own := own) (cls := cls) (names := names) (ic := ic) hown' hcls hnames h (fun x hx => nomatch hx) hfX hkX hcellA (by rw [hhp, hT]; exact Nat.le_refl _) (msg := .ref sa) rfl
    (g := { method := m, pc := pc + 6, locals := ls, stack := .ref sa :: .ref T.heap.size :: .ref T.heap.size :: rest, locked := none }) rfl hsize rfl rfl (rest := rest) rfl
    (by rw [hb]; exact d6) (by rw [hb]; exact d9) hout hRframes (by simp only [List.map_cons, List.sum_cons, hcat]; omega) hlocks
  obtain ⟨f1, f2⟩ := vx_frame hsame
  rw [hhp] at f1 f2
  have hWs : s.WarmedH U.vm := State.WarmedH.trans hW0 hW
  have hcl : s.vm.findClass cls = some ce.cls := by
    have h9 := hO.cls
    rw [hvm] at h9
    exact h9
  have hall : s.sameButNew ({ U with vm := s.vm } : State) locs mc ms := by
    subst hA
    obtain ⟨e1, e2⟩ := hsame
    rw [State.setFrames_setFrames] at e1
    have h2 : (T.setVm s.vm).sameButNew ({ U with vm := s.vm } : State) [] (0 + 1) (0 + 6) := ⟨e1, e2⟩
    have h3 := X.same.trans h2
    rw [List.append_nil] at h3
    exact h3.mono hc hs
  refine ⟨U, ?_, .threw T.heap.size, hrun, hend, Or.inr ⟨T.heap.size, rfl, cls, ce, locs, hx U hWs.alike f1 (fun q hq => f2 q hq (fun z hz => nomatch hz)), hce, hO.vm, hcl, hWs, hall, hf⟩⟩
  refine st1 _ ?_
  show Steps p.tables e below (T1.setTop { method := m, pc := pc + 3, locals := ls, stack := .ref T.heap.size :: rest, locked := none }) _
  jvm_step X₁.here [X₁.here.top, hexec, d3', Value.category]
  exact X₁.ldcString hexec (own := own) (text := text) (index := is) (a := sa) hown' hstr'.1 hstr'.2
    (g := { method := m, pc := pc + 4, locals := ls, stack := .ref T.heap.size :: .ref T.heap.size :: rest, locked := none }) rfl d4' _ hsteps
/-- 'throw new E("text")', the text by a wide index -/
theorem vx_throwSW {cc : ByteArray} {pc : Nat} (hexec : p.tables.exec = Jvm.exec) (hb : c.code = cc) (hl : l.stackTraces = false) {own cls text : String} {names : List String} {ik is ic mc ms sa : Nat} {A : Nat → Prop}
    (hown : s.vm.findClass own = some m.cls) (hcls : Bundle.fit cls = true) (hnames : ∀ n ∈ names, Bundle.fit n = true)
    (hk : (Cond.classLink own ik cls).before args s = true) (hini : (Cond.initialized cls).before args s = true) (hstr : vk_R own is text sa s) (hat : ∀ w ∈ vx_atS own ic cls names, w.before args s = true)
    (hgood : ∀ w ∈ Cond.classLink own ik cls :: Cond.initialized cls :: vx_atS own ic cls names, vx_ot w = true)
    (hU : vx_Zq Bundle.tN "UNASSIGNED_STACK" Bundle.steD A s s.heap) (hN : vx_Zq Bundle.tN "SUPPRESSED_SENTINEL" Bundle.listD A s s.heap) (hS : va_S A s.heap H locs) (hsize : ls.size = c.maxLocals)
    (d0 : decode cc pc = .ok (.new ik, 3)) (d3 : decode cc (pc + 3) = .ok (.dup, 1)) (d4 : decode cc (pc + 4) = .ok (.ldc_w is, 3)) (d7 : decode cc (pc + 7) = .ok (.invokespecial ic, 3)) (d10 : decode cc (pc + 10) = .ok (.athrow, 1))
    (hout : ∀ x ∈ c.exceptionTable.toList, covers x (pc + 10) = false)
    (hRframes : names.length + 3 < R.frames) (hRlocals : (rest.map fun v => v.category).sum + (13 * (names.length + 1) + 43) ≤ R.locals) (hRcells : cells + 1 ≤ R.cells) (hRslots : slots + 6 ≤ R.slots) (hlocks : meth.locks = false)
    (hx : ∀ t : State, s.vm.Alike t.vm → H.size ≤ t.heap.size → (∀ q : Nat, q < H.size → t.heap[q]? = H[q]?) → XC cls s t)
    (hf : ∀ z ∈ locs, free z.base) (hc : cells + 1 ≤ mc) (hs : slots + 6 ≤ ms) :
    W p l e R s m args below meth c H locs cells slots (vx_MQ below Qc XC args s mc ms free) (F0 m pc ls rest) := by
  intro T hT X
  have htr : e.platform.stackTraces = false := (show e.platform.stackTraces = l.stackTraces by rw [X.admits.platform]).trans hl
  have Y := vx_rebase X (R' := { frames := R.frames, locals := R.locals, cells := 1, slots := 6 }) (Nat.le_refl _) (Nat.le_refl _) hRcells hRslots
  obtain ⟨s', hA⟩ : ∃ z, z = (T.setVm s.vm).setFrames (.invoking m args :: below) := ⟨_, rfl⟩
  rw [← hA] at Y
  have hvm : s'.vm = s.vm := by rw [hA]; rfl
  have hhp : s'.heap = H := by rw [hA]; exact hT
  have hW0 : s.WarmedH s'.vm := by rw [hvm]; exact State.WarmedH.refl s
  have hat' : ∀ w ∈ vx_atS own ic cls names, w.before args s' = true := fun w hw => vx_ot_at hW0 hvm.symm (hgood w (List.mem_cons_of_mem _ (List.mem_cons_of_mem _ hw))) (hat w hw)
  have hk' : (Cond.classLink own ik cls).before args s' = true := vx_ot_at hW0 hvm.symm (hgood _ List.mem_cons_self) hk
  have hini' : (Cond.initialized cls).before args s' = true := vx_ot_at hW0 hvm.symm (hgood _ (List.mem_cons_of_mem _ List.mem_cons_self)) hini
  have hU' : vx_Zq Bundle.tN "UNASSIGNED_STACK" Bundle.steD A s' s'.heap := by rw [hhp]; exact vx_Zq.moved hW0.alike (hU.kept hS.2.1)
  have hN' : vx_Zq Bundle.tN "SUPPRESSED_SENTINEL" Bundle.listD A s' s'.heap := by rw [hhp]; exact vx_Zq.moved hW0.alike (hN.kept hS.2.1)
  have h : ∀ w ∈ Bundle.ownAtoms own ic cls names, w.before args s' = true := vx_own hat' (vx_isRefq hU'.1) (vx_isRefq hN'.1) hU'.2.word hN'.2.word
  have hown' : s'.vm.findClass own = some m.cls := by rw [hvm]; exact hown
  have hins : (Cond.instantiable cls 6).before args s' = true := h _ (by simp [Bundle.ownAtoms])
  obtain ⟨vm₁, cX, kX, hfX, hkX, -, -, X₁, st1⟩ := Y.newCold hexec (own := own) (C := cls) (index := ik) (n := 6) hown' hk' hins hini'
    (g := F0 m pc ls rest) rfl (by rw [hb]; exact d0) (Nat.le_refl _) (Nat.le_refl _)
  generalize hT1 : (T.setVm vm₁).pushCell { cls := cX, slots := kX.instanceTypes.map defaultValue, vm := .none } = T1 at X₁ st1
  have hcat : (Value.ref T.heap.size).category = 1 := rfl
  have hcellA : T1.heap[T.heap.size]? = some (freshCell cX kX) := by rw [← hT1]; exact State.heap_pushCell_size _ _
  have d3' : decode c.code (pc + 3) = .ok (.dup, 1) := by rw [hb]; exact d3
  have d4' : decode c.code (pc + 4) = .ok (.ldc_w is, 3) := by rw [hb]; exact d4
  have hstr' : vk_R own is text sa s' := vk_R.warm hW0 hstr
  obtain ⟨U, hsteps, hrun, hend, hW, hsame, ce, hce, hO⟩ := X₁.ctorThrowS hexec htr (own := own) (cls := cls) (names := names) (ic := ic) hown' hcls hnames h (fun x hx => nomatch hx) hfX hkX hcellA (by rw [hhp, hT]; exact Nat.le_refl _) (msg := .ref sa) rfl
    (g := { method := m, pc := pc + 7, locals := ls, stack := .ref sa :: .ref T.heap.size :: .ref T.heap.size :: rest, locked := none }) rfl hsize rfl rfl (rest := rest) rfl
    (by rw [hb]; exact d7) (by rw [hb]; exact d10) hout hRframes (by simp only [List.map_cons, List.sum_cons, hcat]; omega) hlocks
  obtain ⟨f1, f2⟩ := vx_frame hsame
  rw [hhp] at f1 f2
  have hWs : s.WarmedH U.vm := State.WarmedH.trans hW0 hW
  have hcl : s.vm.findClass cls = some ce.cls := by
    have h9 := hO.cls
    rw [hvm] at h9
    exact h9
  have hall : s.sameButNew ({ U with vm := s.vm } : State) locs mc ms := by
    subst hA
    obtain ⟨e1, e2⟩ := hsame
    rw [State.setFrames_setFrames] at e1
    have h2 : (T.setVm s.vm).sameButNew ({ U with vm := s.vm } : State) [] (0 + 1) (0 + 6) := ⟨e1, e2⟩
    have h3 := X.same.trans h2
    rw [List.append_nil] at h3
    exact h3.mono hc hs
  refine ⟨U, ?_, .threw T.heap.size, hrun, hend, Or.inr ⟨T.heap.size, rfl, cls, ce, locs, hx U hWs.alike f1 (fun q hq => f2 q hq (fun z hz => nomatch hz)), hce, hO.vm, hcl, hWs, hall, hf⟩⟩
  refine st1 _ ?_
  show Steps p.tables e below (T1.setTop { method := m, pc := pc + 3, locals := ls, stack := .ref T.heap.size :: rest, locked := none }) _
  jvm_step X₁.here [X₁.here.top, hexec, d3', Value.category]
  exact X₁.ldcStringW hexec (own := own) (text := text) (index := is) (a := sa) hown' hstr'.1 hstr'.2
    (g := { method := m, pc := pc + 4, locals := ls, stack := .ref T.heap.size :: .ref T.heap.size :: rest, locked := none }) rfl d4' _ hsteps
end Ends
section Bodies
variable {l : Launch}
theorem vx_ofW {y : MethodName} {ws ws' : List Cond} {rm : Room} {Pc : Array Value → State → Prop} {Qc : Array Value → State → Outcome → State → Prop} {XC : String → State → State → Prop} {mc ms : Nat} {free : Addr → Prop} {cc : ByteArray} {maxL : Nat} {ret : Option FieldType}
    (hy : plainName y.cls = true) (hw : ws = Cond.code y cc maxL ret :: ws')
    (body : ∀ p e s m args below meth c s₁, BodyLoose p l y (headSpec ws rm) cc maxL ret e s m args below meth c s₁ → c.maxLocals = maxL → (∀ x ∈ c.exceptionTable.toList, False) → Pc args s →
      W p l e (headSpec ws rm).room s m args below meth c s.heap [] 0 0 (vx_MQ below Qc XC args s mc ms free) (entryFrame m args maxL)) : vx_Met l y ws rm Pc Qc XC mc ms free := by
  refine MetFree.of_bodyS (code := cc) (maxLocals := maxL) (ret := ret) hy ?_ ?_
  · intro args s m h hn
    obtain ⟨meth, c, h1, h2, h3, h4, h5, h6, -, -⟩ := Cond.code_spec hn (atoms_spec (ws := ws) h _ (by rw [hw]; exact List.mem_cons_self))
    exact ⟨meth, c, h1, h2, h3, h4, h5, h6⟩
  · intro p e s m args below meth c s₁ B hml hP _
    have hh0 : s₁.heap = s.heap := by rw [B.state]; rfl
    have ht : ∀ x ∈ c.exceptionTable.toList, False := by
      obtain ⟨meth9, c9, h1, h2, -, -, -, -, h7, -⟩ := Cond.code_spec B.named (atoms_spec (ws := ws) B.pre _ (by rw [hw]; exact List.mem_cons_self))
      cases Option.some.inj (h1.symm.trans B.method)
      cases Option.some.inj (h2.symm.trans (Stand.of_body B).code)
      intro x hx
      rw [Array.isEmpty_iff.mp h7] at hx
      cases hx
    obtain ⟨t, a1, o, b1, b2, b3⟩ := body p e s m args below meth c s₁ B hml ht hP s₁ hh0 (Stand.of_body B)
    exact ⟨t, o, a1, b1, b2, b3⟩
/-- the table of a body with handlers -/
theorem vx_table {p : Program} {x y : MethodName} {S : Spec} {cc bytes : ByteArray} {maxL maxL' : Nat} {ret ret' : Option FieldType} {e : Env} {s s₁ : State} {m : MethodId} {args : Array Value} {below : List Frame} {meth : Method} {c : Code} {hh : List (Nat × Nat × Nat × Nat)}
    (B : BodyLoose p l y S cc maxL ret e s m args below meth c s₁) (h : (Cond.codeWith y bytes maxL' ret' hh).before args s = true) : c.exceptionTable.toList = tableOf hh := by
  obtain ⟨m9, meth9, c9, hn9, h1, h2, -, -, h6, -⟩ := Cond.codeWith_spec h
  cases Option.some.inj (hn9.symm.trans B.named)
  cases Option.some.inj (h1.symm.trans B.method)
  cases Option.some.inj (h2.symm.trans (Stand.of_body B).code)
  rw [← h6, table_eq]
end Bodies
end VXA
/-! ===== END ===== -/
/-! ===== BEGIN a static call of a method with an exception table ===== -/
section VXS
variable {p : Program} {l : Launch} {e : Env} {R : Room} {s : State} {m : MethodId} {args : Array Value} {below : List Frame} {meth : Method} {c : Code} {T : State} {H : Heap} {locs : List Loc} {cells slots : Nat}
abbrev vx_CSW (R : Room) (s : State) (args : Array Value) (own : String) (index : Nat) (y : MethodName) (bytes : ByteArray) (maxL : Nat) (ret : Option FieldType) (hh : List (Nat × Nat × Nat × Nat)) (ws : List Cond) (rm : Room) (mc ms n : Nat) : Prop :=
  (rm.cells = mc ∧ rm.slots = ms ∧ rm.frames + 1 ≤ R.frames ∧ 8 + (maxL + 11) + rm.locals ≤ R.locals ∧ (∀ w ∈ ws, ∀ (a' : Array Value) (U : State), s.WarmedH U.vm → w.before a' U = true) ∧ Cond.codeWith y bytes maxL ret hh ∈ ws) ∧
  (Cond.codeWith y bytes maxL ret hh).before args s = true ∧ (Cond.initialized y.cls).before args s = true ∧ (y.cls ≠ "java/lang/invoke/MethodHandle" ∧ y.cls ≠ "java/lang/invoke/VarHandle") ∧
  (∀ sig, parseMethodDescriptor y.desc = some sig → n = sig.parameters.length) ∧ (Cond.methodLink own index y).before args s = true ∧ (Cond.static y).before args s = true
theorem vx_cwSW {own : String} {index maxL mc ms : Nat} {y : MethodName} {bytes : ByteArray} {ret : Option FieldType} {hh : List (Nat × Nat × Nat × Nat)} {Ts ws ws' : List Cond} {rm : Room} (n : Nat) (ht : ∀ w ∈ Ts, w.before args s = true) (hT : GoodIn Ts (va_wsS own index y ws)) (hw : ws = Cond.codeWith y bytes maxL ret hh :: ws') (hrc : rm.cells = mc) (hrs : rm.slots = ms)
    (hd : y.cls ≠ "java/lang/invoke/MethodHandle" ∧ y.cls ≠ "java/lang/invoke/VarHandle" ∧ (parseMethodDescriptor y.desc).map (fun d => d.parameters.length) = some n) (hR : rm.frames + 1 ≤ R.frames ∧ 8 + (maxL + 11) + rm.locals ≤ R.locals) :
    vx_CSW R s args own index y bytes maxL ret hh ws rm mc ms n := by
  have ok : ∀ w ∈ va_wsS own index y ws, w.before args s = true := fun w h => ht w (hT w h).1
  have hG : GoodIn Ts ws := fun w h => hT w (by unfold va_wsS; exact List.mem_append_right _ h)
  have hc : Cond.codeWith y bytes maxL ret hh ∈ ws := by rw [hw]; exact List.mem_cons_self
  refine ⟨⟨hrc, hrs, hR.1, hR.2, pay_in ht hG, hc⟩, ht _ (hG _ hc).1, ok _ (by simp [va_wsS]), ⟨hd.1, hd.2.1⟩, fun sig h => ?_, ok _ (by simp [va_wsS]), ok _ (by simp [va_wsS])⟩
  have h2 := hd.2.2
  rw [h] at h2
  exact (Option.some.inj h2).symm
theorem vx_callSW (X : Stand p l e R s m args below meth c T locs cells slots) (hexec : p.tables.exec = Jvm.exec) {own : String} {index : Nat} {y : MethodName} {bytes : ByteArray} {maxL : Nat} {ret : Option FieldType} {hh : List (Nat × Nat × Nat × Nat)}
    (hown : s.vm.findClass own = some m.cls) (hlink : (Cond.methodLink own index y).before args s = true) (hstat : (Cond.static y).before args s = true) (hinit : (Cond.initialized y.cls).before args s = true)
    (hcode : (Cond.codeWith y bytes maxL ret hh).before args s = true) (hy : y.cls ≠ "java/lang/invoke/MethodHandle" ∧ y.cls ≠ "java/lang/invoke/VarHandle")
    {W9 : Nat} {Pre : Pt → Array Value → Prop} {Post : Pt → Array Value → Option Value → Pt → Prop} (hK : Back l R p e below s args y 3 W9 Pre Post)
    {g : JFrame} (hg : g.method = m) (hsize : g.locals.size = c.maxLocals) {argsL rest : List Value} (hlen : ∀ sig, parseMethodDescriptor y.desc = some sig → argsL.length = sig.parameters.length)
    (hstack : g.stack = argsL.reverse ++ rest) (hW : 2 * g.monitorRoom + (rest.map fun v => v.category).sum ≤ W9) (hdg : decode c.code g.pc = .ok (.invokestatic index, 3))
    (hpre : ∀ vm₁, s.WarmedH vm₁ → Pre ⟨T.setVm vm₁, locs, cells, slots⟩ argsL.toArray) :
    ∃ (v : Option Value) (vm₁ : Vm) (B : Pt), s.WarmedH vm₁ ∧ Stand p l e R s m args below meth c B.U B.locs B.cells B.slots ∧ Post ⟨T.setVm vm₁, locs, cells, slots⟩ argsL.toArray v B ∧
      ∀ target, Steps p.tables e below (B.U.setTop { g with pc := g.pc + 3, stack := v.toList ++ rest }) target → Steps p.tables e below (T.setTop g) target := by
  obtain ⟨mk, methM, cM, hnamed, hmethM, -, -, -, -, -, -, hsigM⟩ := Cond.codeWith_spec hcode
  have hstatic : methM.isStatic = true := Cond.static_spec hnamed hmethM hstat
  obtain ⟨kP, hkP, -⟩ := className_of_methodNamed hnamed
  have hinitP : kP.init = .initialized := Cond.initialized_spec (findClass_of_methodNamed hnamed) hkP hinit
  obtain ⟨vm₁, X₁, hstep₁⟩ := X.invokestatic hexec hown hlink hnamed hmethM hstatic hkP hinitP hy (g := g) hg (argsL := argsL) (rest := rest) (hlen _ hsigM) hstack hdg
  obtain ⟨v, B, X', hpost, hsteps⟩ := hK m meth c ⟨T.setVm vm₁, locs, cells, slots⟩ { g with stack := rest } (.invokestatic index) mk argsL.toArray X₁ hg hsize hdg hW (X₁.named hnamed) (hpre vm₁ X₁.warmed)
  exact ⟨v, vm₁, B, X₁.warmed, X', hpost, fun target h => hstep₁ _ fun acts => by rw [doInvoke_state]; exact hsteps.trans h⟩
theorem vx_runSW {y : MethodName} {bytes cc : ByteArray} {maxL nL mc ms n index : Nat} {ret : Option FieldType} {hh : List (Nat × Nat × Nat × Nat)} {ws : List Cond} {rm : Room} {Pc : Array Value → State → Prop} {Qc : Array Value → State → Outcome → State → Prop} {free : Addr → Prop} {Ts : List Cond} {own : String} {As rest : List Value} {g : JFrame}
    (S : CallFix p m c cc nL s args Ts own) (hM : Met l y ws rm Pc Qc mc ms free) (cw : vx_CSW R s args own index y bytes maxL ret hh ws rm mc ms n) (hp : PreS s H Pc As)
    (hg : g.method = m) (hn : As.length = n) (hsize : g.locals.size = nL) (hstack : g.stack = As.reverse ++ rest) (hW : 2 * g.monitorRoom + (rest.map fun v => v.category).sum ≤ 8) (hdg : decode cc g.pc = .ok (.invokestatic index, 3)) (hf : cells + mc ≤ R.cells ∧ slots + ms ≤ R.slots) :
    va_Run p l e R s m args below meth c H locs cells slots mc ms g rest (Qc As.toArray) (free) := by
  obtain ⟨⟨hrc, hrs, hfr, hlo, hws, hcw⟩, hcode, hini, hy, hlen, hl, hstt⟩ := cw
  have hK : Back l R p e below s args y 3 8 (PreOf R mc ms Pc) (PostOf Qc mc ms free) := va_backW (hh := hh) (bytes := bytes) (maxL := maxL) (ret := ret) hM hp.1 hrc hrs hfr hlo hws hcw (fun a' U hW => word_at hW (Or.inl (by first | rfl | simp [Cond.onTables, Cond.keeps, Cond.steady])) hini)
  obtain ⟨hx, hb, hml, ho, -⟩ := S
  intro T hT X
  obtain ⟨v, vm₁, ⟨U', l2, c2, s2⟩, hW₁, X', ⟨g', mk, t, L, e1, e2, hq, h1, hL, h2, h3⟩, st⟩ := vx_callSW X hx (hh := hh) (bytes := bytes) (maxL := maxL) (ret := ret) ho hl hstt hini hcode hy hK hg (hsize.trans hml.symm) (argsL := As) (rest := rest) (fun sig h => hn.trans (hlen sig h)) hstack hW (by rw [hb]; exact hdg)
    (fun vm₁ hW₁ => ⟨hf.1, hf.2, hp.2 (T.setVm vm₁) hT hW₁⟩)
  dsimp only [Pt.U, Pt.locs, Pt.cells, Pt.slots] at X' e1 e2 h1 h2 h3 st
  subst h1; subst h2; subst h3
  exact ⟨v, (T.setVm vm₁).calling g' mk As.toArray, t, U', L, hT, X', hL, e1, e2, hq, st⟩
/-- not caught here, past rows that name other classes: it goes on to the caller -/
theorem vx_outP {p : Program} {l : Launch} {e : Env} {R : Room} {s : State} {m : MethodId} {args : Array Value} {below : List Frame} {meth : Method} {c : Code} {H : Heap} {locs : List Loc} {cells slots : Nat} {free : Addr → Prop} {ls : Array Slot} {rest : List Value} {Qc : Array Value → State → Outcome → State → Prop} {XC : String → State → State → Prop}
    {pc : Nat} {own E : String} {ce : Cell} {q : Addr} {mc ms : Nat} (hown : s.vm.findClass own = some m.cls) (hlocks : meth.locks = false)
    (hpass : ∀ z ∈ c.exceptionTable.toList, covers z pc = false ∨ (z.catchType ≠ 0 ∧ ∃ nm : String, (Cond.classLink own z.catchType nm).before args s = true ∧ va_Nc E nm s)) (hcell : H[q]? = some ce) (hv : ce.vm = .none) (hcl : s.vm.findClass E = some ce.cls)
    (hx : ∀ t : State, t.heap = H → s.vm.Alike t.vm → XC E s t) (hf : ∀ z ∈ locs, free z.base) (hc : cells ≤ mc) (hs : slots ≤ ms) :
    vx_W p l e R s m args below meth c H locs cells slots (vx_MQ below Qc XC args s mc ms free) (F0 m pc ls rest) q := by
  intro T hT X
  have hpl : e.platform.magicAccessors = ({} : Platform).magicAccessors := by rw [X.admits.platform]
  obtain ⟨vm', hW', X', st⟩ := X.outThrough hlocks q (g := F0 m pc ls rest) rfl rfl rfl (cell := ce) (by rw [hT]; exact hcell) (by rw [hv]; rfl)
    (by obtain ⟨k9, h9, -⟩ := Vm.findClass_spec hcl; exact ⟨k9, h9⟩) (fun z hz => by
      rcases hpass z hz with h | ⟨hz0, nm, hl1, hn1⟩
      · exact Or.inl h
      · obtain ⟨c6, hc6, hcl6⟩ := Cond.classLink_spec hown hl1 e.platform hpl
        obtain ⟨a8, b8, h1, h2, h3⟩ := hn1
        cases Option.some.inj (h1.symm.trans hcl)
        cases Option.some.inj (h2.symm.trans hc6)
        exact Or.inr ⟨hz0, _, hcl6, h3⟩)
  obtain ⟨g₀, hfr⟩ := X'.frames_eq
  have hcell9 : ((T.setVm vm').setFrames (.throwing q :: below)).heap[q]? = some ce := by
    show T.heap[q]? = some ce
    rw [hT]; exact hcell
  have hend : Ended ((T.setVm vm').setFrames (.throwing q :: below)) below (.threw q) := State.frames_setFrames _ (State.cur_lt_of_frames hfr)
  refine ⟨(T.setVm vm').setFrames (.throwing q :: below), ?_, .threw q, X'.here.running, hend, Or.inr ⟨q, rfl, E, ce, locs, hx _ hT (X'.ends _).1.alike, hcell9, hv, hcl, (X'.ends _).1, (X'.ends _).2.mono hc hs, hf⟩⟩
  rw [X.pushThrowing_eq]
  exact st
/-- a thing of a world lies in the heap -/
theorem vx_lt {D : va_G} {cl : List vw_C} {ws : va_W} {H1 : Heap} (h : va_P D cl ws H1) {k : Nat} {q : Nat × va_E} (hk : ws[k]? = some q) : q.1 < H1.size := (h k q hk).lt
end VXS
/-! ===== END ===== -/
/-! ===== BEGIN methods with a table of their own: called by a name, returning or throwing ===== -/
section VXH
/-! vx_backW, vx_callVX, vx_callSX, vx_callVW, vx_runVW, vx_runVX, vx_runSX, vx_ofWH follow the same proofs as their sisters above (Free/Laws.lean, Shelf42/LK1.lean); vx_outP calls Shelf42/NT130.lean (outThrough). -/
section
variable {l : Launch} {R : Room} {p : Program} {e : Env} {below : List Frame} {s : State} {sargs : Array Value} {y : MethodName} {len W9 : Nat}
theorem vx_backW {ws : List Cond} {rm : Room} {Pc : Array Value → State → Prop} {Qc : Array Value → State → Outcome → State → Prop} {XC : String → State → State → Prop} {mc ms : Nat} {free : Addr → Prop} {bytes : ByteArray} {maxL : Nat} {ret : Option FieldType} {hh : List (Nat × Nat × Nat × Nat)}
    (hM : vx_Met l y ws rm Pc Qc XC mc ms free) (hblind : FrameBlind Pc) (hrc : rm.cells = mc) (hrs : rm.slots = ms)
    (hframes : rm.frames + 1 ≤ R.frames) (hlocals : W9 + (maxL + 11) + rm.locals ≤ R.locals)
    (hws : ∀ w ∈ ws, ∀ a' U, s.WarmedH U.vm → w.before a' U = true) (hcode : Cond.codeWith y bytes maxL ret hh ∈ ws) (hinit : ∀ a' U, s.WarmedH U.vm → (Cond.initialized y.cls).before a' U = true) :
    vx_Back l R p e below s sargs y len W9 (PreOf R mc ms Pc) (PostOf Qc mc ms free) (vx_Post XC mc ms free) := by
  intro m meth c A g ig mk a X hg hsize hdg hW hn hp
  have h1 : (headSpec ws rm).pre.before a A.U = true := atoms_intro fun w hw => hws w hw _ _ X.warmed
  have h2 : (Cond.codeWith y bytes maxL ret hh).before a A.U = true := hws _ hcode _ _ X.warmed
  have h3 : (Cond.initialized y.cls).before a A.U = true := hinit _ _ X.warmed
  have h4 : A.cells + (headSpec ws rm).room.cells ≤ R.cells := by rw [show (headSpec ws rm).room.cells = mc from hrc]; exact hp.1
  have h5 : A.slots + (headSpec ws rm).room.slots ≤ R.slots := by rw [show (headSpec ws rm).room.slots = ms from hrs]; exact hp.2.1
  have hPc : Pc a (A.U.calling g mk a) := hblind _ _ _ _ hp.2.2
  obtain ⟨U, Ls, c0, s0⟩ := A
  dsimp only [Pt.U, Pt.locs, Pt.cells, Pt.slots] at h1 h2 h3 h4 h5 X hn hPc ⊢
  obtain ⟨m9, methY, cY, hn9, hmY, hcY, -, hlY, -⟩ := Cond.codeWith_spec h2
  cases Option.some.inj (hn9.symm.trans hn)
  obtain ⟨kY, hkY, -⟩ := className_of_methodNamed hn
  have hinitY : kY.init = .initialized := Cond.initialized_spec (findClass_of_methodNamed hn) hkY h3
  have h : At U g.method c below := by rw [hg]; exact X.here
  have hlocals9 : W9 + (maxL + 11) + (headSpec ws rm).room.locals ≤ R.locals := hlocals
  have happ : (headSpec ws rm).appliesLoose y e.platform (U.calling g mk a) = true :=
    Spec.appliesLoose_calling (g := g) h hdg hn hkY hinitY
      (X.room_calling (g := g) (R' := (headSpec ws rm).room) hsize hmY hcY hframes (by rw [hlY]; omega) h4 h5) h1
  obtain ⟨mid, hmid⟩ := h.above
  have hfr : (U.setTop g).frames = (.java g :: mid) ++ below := by rw [State.frames_setTop' g h.top, hmid]; rfl
  obtain ⟨o, s₂, hsteps, -, hend, hq⟩ := Steps.callFree hM p X.admits X.cas X.clock (acts := []) hfr happ hPc trivial
  have hq' : vx_Q Qc XC mc ms free a (U.calling g mk a) o s₂ := hq
  rw [State.frames_setTop' g h.top] at hend
  obtain ⟨g₀, hg0⟩ := Option.isSome_iff_exists.mp h.top
  obtain ⟨r, hr⟩ := State.topJava?_eq_some.mp hg0
  have hr' : (({ U with heap := s₂.heap, slotsUsed := s₂.slotsUsed } : State).setVm s₂.vm).frames = .java g₀ :: r := hr
  rcases hq' with ⟨hqc, L, hfe, hL⟩ | ⟨q, rfl, E, ce, L, hx, hce, hcv, hcl, hW₂, hsm, hL⟩
  · obtain ⟨⟨v, rfl⟩, hW₂, e2, q2, q3, q4, q5, q6⟩ := id hfe
    have e3 : s₂ = ({ (U.calling g mk a).setFrames s₂.frames with heap := s₂.heap, slotsUsed := s₂.slotsUsed } : State).setVm s₂.vm := by
      have : s₂ = ({ s₂ with vm := (U.calling g mk a).vm } : State).setVm s₂.vm := rfl
      rw [e2] at this
      exact this
    obtain ⟨c₂, i₂, len₂, hc₂, hd₂, hf₂⟩ := hend
    have hW' : U.WarmedH s₂.vm := hW₂
    have hcc : c₂ = c := by
      have h1 : s₂.code? g.method = U.code? g.method := by
        rw [State.code?_eq, State.code?_eq, hW'.alike.method?]
      exact Option.some.inj (hc₂.symm.trans (h1.trans h.code))
    subst hcc
    have hlen : len₂ = len := by rw [hdg] at hd₂; cases hd₂; rfl
    subst hlen
    have hs₂ : s₂ = (({ U with heap := s₂.heap, slotsUsed := s₂.slotsUsed } : State).setVm s₂.vm).setTop { g with pc := g.pc + len₂, stack := v.toList ++ g.stack } := by
      refine e3.trans ?_
      rw [hf₂, State.calling_eq h.top, State.setFrames_setFrames, State.setTop_of_frames _ hr', hr]
      rfl
    have hsame : U.sameButNew ({ U with heap := s₂.heap, slotsUsed := s₂.slotsUsed } : State) L mc ms := by
      refine ⟨?_, q2, q3, q4, q5, q6⟩
      obtain ⟨t, ht, -⟩ := State.frames_cons hr
      show ({ U with heap := s₂.heap, slotsUsed := s₂.slotsUsed } : State) = { U.setFrames U.frames with heap := s₂.heap, slotsUsed := s₂.slotsUsed }
      rw [State.setFrames_self ht]
    subst hg
    refine Or.inl ⟨v, ⟨(({ U with heap := s₂.heap, slotsUsed := s₂.slotsUsed } : State).setVm s₂.vm), Ls ++ L, c0 + mc, s0 + ms⟩,
      ⟨X.admits, X.cas, X.clock, X.frames, X.room, X.hears, X.method, X.code, (X.here.setHeapUsed s₂.heap s₂.slotsUsed).setVm hW'.alike, X.tail, State.WarmedH.trans X.warmed hW', X.limits, X.bytes, X.same.trans (hsame.setVm s.vm)⟩,
      ⟨g, mk, s₂, L, rfl, rfl, hqc, rfl, hL, rfl, rfl⟩, ?_⟩
    show Steps p.tables e below _ ((({ U with heap := s₂.heap, slotsUsed := s₂.slotsUsed } : State).setVm s₂.vm).setTop { g with pc := g.pc + len₂, stack := v.toList ++ g.stack })
    rw [← hs₂]
    exact hsteps
  · obtain ⟨e2, q2, q3, q4, q5, q6⟩ := id hsm
    have e3 : s₂ = ({ (U.calling g mk a).setFrames s₂.frames with heap := s₂.heap, slotsUsed := s₂.slotsUsed } : State).setVm s₂.vm := by
      have : s₂ = ({ s₂ with vm := (U.calling g mk a).vm } : State).setVm s₂.vm := rfl
      rw [e2] at this
      exact this
    have hf₂ : s₂.frames = .throwing q :: .java g :: U.frames.tail := hend
    have hW' : U.WarmedH s₂.vm := hW₂
    have hs₂ : s₂ = ((({ U with heap := s₂.heap, slotsUsed := s₂.slotsUsed } : State).setVm s₂.vm).setTop g).pushFrame (.throwing q) := by
      refine e3.trans ?_
      rw [hf₂, State.calling_eq h.top, State.setFrames_setFrames, State.pushFrame, State.frames_setTop _ hr', State.setTop_of_frames _ hr', State.setFrames_setFrames, hr]
      rfl
    have hsame : U.sameButNew ({ U with heap := s₂.heap, slotsUsed := s₂.slotsUsed } : State) L mc ms := by
      refine ⟨?_, q2, q3, q4, q5, q6⟩
      obtain ⟨t, ht, -⟩ := State.frames_cons hr
      show ({ U with heap := s₂.heap, slotsUsed := s₂.slotsUsed } : State) = { U.setFrames U.frames with heap := s₂.heap, slotsUsed := s₂.slotsUsed }
      rw [State.setFrames_self ht]
    subst hg
    refine Or.inr ⟨q, ⟨(({ U with heap := s₂.heap, slotsUsed := s₂.slotsUsed } : State).setVm s₂.vm), Ls ++ L, c0 + mc, s0 + ms⟩,
      ⟨X.admits, X.cas, X.clock, X.frames, X.room, X.hears, X.method, X.code, (X.here.setHeapUsed s₂.heap s₂.slotsUsed).setVm hW'.alike, X.tail, State.WarmedH.trans X.warmed hW', X.limits, X.bytes, X.same.trans (hsame.setVm s.vm)⟩,
      ⟨g, mk, s₂, L, E, ce, rfl, rfl, hx, hce, hcv, hcl, rfl, hL, rfl, rfl⟩, ?_⟩
    show Steps p.tables e below _ (((({ U with heap := s₂.heap, slotsUsed := s₂.slotsUsed } : State).setVm s₂.vm).setTop g).pushFrame (.throwing q))
    rw [← hs₂]
    exact hsteps
end
variable {p : Program} {l : Launch} {e : Env} {R : Room} {s : State} {m : MethodId} {args : Array Value} {below : List Frame} {meth : Method} {c : Code} {T : State} {H : Heap} {locs : List Loc} {cells slots : Nat}
theorem vx_callVX (X : Stand p l e R s m args below meth c T locs cells slots) (hexec : p.tables.exec = Jvm.exec) {own C : String} {index : Nat} {y : MethodName} {bytes : ByteArray} {maxL : Nat} {ret : Option FieldType} {hh : List (Nat × Nat × Nat × Nat)}
    (hown : s.vm.findClass own = some m.cls) (hlink : (Cond.methodLink own index y).before args s = true) (hinst : (Cond.instanceMethod y).before args s = true) (hsel : (Cond.selects C y y).before args s = true)
    (hcode : (Cond.codeWith y bytes maxL ret hh).before args s = true) (hy : y.cls ≠ "java/lang/invoke/MethodHandle" ∧ y.cls ≠ "java/lang/invoke/VarHandle")
    {W9 : Nat} {Pre : Pt → Array Value → Prop} {Post : Pt → Array Value → Option Value → Pt → Prop} {PostX : Pt → Array Value → Addr → Pt → Prop} (hK : vx_Back l R p e below s args y 3 W9 Pre Post PostX)
    {b : Addr} {cellB : Cell} (hcell : T.heap[b]? = some cellB) (hobj : cellB.vm.isStatics = false) (hcls : s.vm.findClass C = some cellB.cls)
    {g : JFrame} (hg : g.method = m) (hsize : g.locals.size = c.maxLocals) {argsL rest : List Value} (hlen : ∀ sig, parseMethodDescriptor y.desc = some sig → argsL.length = sig.parameters.length)
    (hstack : g.stack = argsL.reverse ++ .ref b :: rest) (hW : 2 * g.monitorRoom + (rest.map fun v => v.category).sum ≤ W9) (hdg : decode c.code g.pc = .ok (.invokevirtual index, 3))
    (hpre : ∀ vm₁, s.WarmedH vm₁ → Pre ⟨T.setVm vm₁, locs, cells, slots⟩ (Value.ref b :: argsL).toArray) :
    (∃ (v : Option Value) (vm₁ : Vm) (B : Pt), s.WarmedH vm₁ ∧ Stand p l e R s m args below meth c B.U B.locs B.cells B.slots ∧ Post ⟨T.setVm vm₁, locs, cells, slots⟩ (Value.ref b :: argsL).toArray v B ∧
      ∀ target, Steps p.tables e below (B.U.setTop { g with pc := g.pc + 3, stack := v.toList ++ rest }) target → Steps p.tables e below (T.setTop g) target) ∨
    (∃ (q : Addr) (vm₁ : Vm) (B : Pt), s.WarmedH vm₁ ∧ Stand p l e R s m args below meth c B.U B.locs B.cells B.slots ∧ PostX ⟨T.setVm vm₁, locs, cells, slots⟩ (Value.ref b :: argsL).toArray q B ∧
      Steps p.tables e below (T.setTop g) ((B.U.setTop { g with stack := rest }).pushFrame (.throwing q))) := by
  obtain ⟨mk, methM, hnamed, hmethM, hstM, habM⟩ := Cond.instanceMethod_spec hinst
  obtain ⟨m8, methM', cM, hn8, hmethM', -, -, -, -, -, -, hsigM⟩ := Cond.codeWith_spec hcode
  cases Option.some.inj (hn8.symm.trans hnamed)
  cases hmethM.symm.trans hmethM'
  obtain ⟨c2, r2, m2, q1, q2, q3, q4, kP, hkP, hkPi⟩ := Cond.selects_spec hsel
  cases hcls.symm.trans q1
  cases (State.methodFound?_of_named hnamed hy).symm.trans q2
  cases hnamed.symm.trans q3
  have hselP : selectMethod e.platform s.vm cellB.cls mk = .method mk := by rw [Launch.admits_selectMethod X.admits]; exact q4
  obtain ⟨vm₁, X₁, hstep₁⟩ := X.invokevirtual hexec hown hlink hnamed hmethM hstM hkP hkPi hy (a := b) (cell := cellB) hcell
    (fun z h => by rw [h] at hobj; cases hobj) hselP hmethM habM hkP hkPi (g := g) hg (argsL := argsL) (rest := rest) (hlen _ hsigM) hstack hdg
  rcases hK m meth c ⟨T.setVm vm₁, locs, cells, slots⟩ { g with stack := rest } (.invokevirtual index) mk (Value.ref b :: argsL).toArray X₁ hg hsize hdg hW (X₁.named hnamed) (hpre vm₁ X₁.warmed) with ⟨v, B, X', hpost, hsteps⟩ | ⟨q, B, X', hpost, hsteps⟩
  · exact Or.inl ⟨v, vm₁, B, X₁.warmed, X', hpost, fun target h => hstep₁ _ fun acts => by rw [doInvoke_state]; exact hsteps.trans h⟩
  · exact Or.inr ⟨q, vm₁, B, X₁.warmed, X', hpost, hstep₁ _ fun acts => by rw [doInvoke_state]; exact hsteps⟩
theorem vx_callSX (X : Stand p l e R s m args below meth c T locs cells slots) (hexec : p.tables.exec = Jvm.exec) {own : String} {index : Nat} {y : MethodName} {bytes : ByteArray} {maxL : Nat} {ret : Option FieldType} {hh : List (Nat × Nat × Nat × Nat)}
    (hown : s.vm.findClass own = some m.cls) (hlink : (Cond.methodLink own index y).before args s = true) (hstat : (Cond.static y).before args s = true) (hinit : (Cond.initialized y.cls).before args s = true)
    (hcode : (Cond.codeWith y bytes maxL ret hh).before args s = true) (hy : y.cls ≠ "java/lang/invoke/MethodHandle" ∧ y.cls ≠ "java/lang/invoke/VarHandle")
    {W9 : Nat} {Pre : Pt → Array Value → Prop} {Post : Pt → Array Value → Option Value → Pt → Prop} {PostX : Pt → Array Value → Addr → Pt → Prop} (hK : vx_Back l R p e below s args y 3 W9 Pre Post PostX)
    {g : JFrame} (hg : g.method = m) (hsize : g.locals.size = c.maxLocals) {argsL rest : List Value} (hlen : ∀ sig, parseMethodDescriptor y.desc = some sig → argsL.length = sig.parameters.length)
    (hstack : g.stack = argsL.reverse ++ rest) (hW : 2 * g.monitorRoom + (rest.map fun v => v.category).sum ≤ W9) (hdg : decode c.code g.pc = .ok (.invokestatic index, 3))
    (hpre : ∀ vm₁, s.WarmedH vm₁ → Pre ⟨T.setVm vm₁, locs, cells, slots⟩ argsL.toArray) :
    (∃ (v : Option Value) (vm₁ : Vm) (B : Pt), s.WarmedH vm₁ ∧ Stand p l e R s m args below meth c B.U B.locs B.cells B.slots ∧ Post ⟨T.setVm vm₁, locs, cells, slots⟩ argsL.toArray v B ∧
      ∀ target, Steps p.tables e below (B.U.setTop { g with pc := g.pc + 3, stack := v.toList ++ rest }) target → Steps p.tables e below (T.setTop g) target) ∨
    (∃ (q : Addr) (vm₁ : Vm) (B : Pt), s.WarmedH vm₁ ∧ Stand p l e R s m args below meth c B.U B.locs B.cells B.slots ∧ PostX ⟨T.setVm vm₁, locs, cells, slots⟩ argsL.toArray q B ∧
      Steps p.tables e below (T.setTop g) ((B.U.setTop { g with stack := rest }).pushFrame (.throwing q))) := by
  obtain ⟨mk, methM, cM, hnamed, hmethM, -, -, -, -, -, -, hsigM⟩ := Cond.codeWith_spec hcode
  have hstatic : methM.isStatic = true := Cond.static_spec hnamed hmethM hstat
  obtain ⟨kP, hkP, -⟩ := className_of_methodNamed hnamed
  have hinitP : kP.init = .initialized := Cond.initialized_spec (findClass_of_methodNamed hnamed) hkP hinit
  obtain ⟨vm₁, X₁, hstep₁⟩ := X.invokestatic hexec hown hlink hnamed hmethM hstatic hkP hinitP hy (g := g) hg (argsL := argsL) (rest := rest) (hlen _ hsigM) hstack hdg
  rcases hK m meth c ⟨T.setVm vm₁, locs, cells, slots⟩ { g with stack := rest } (.invokestatic index) mk argsL.toArray X₁ hg hsize hdg hW (X₁.named hnamed) (hpre vm₁ X₁.warmed) with ⟨v, B, X', hpost, hsteps⟩ | ⟨q, B, X', hpost, hsteps⟩
  · exact Or.inl ⟨v, vm₁, B, X₁.warmed, X', hpost, fun target h => hstep₁ _ fun acts => by rw [doInvoke_state]; exact hsteps.trans h⟩
  · exact Or.inr ⟨q, vm₁, B, X₁.warmed, X', hpost, hstep₁ _ fun acts => by rw [doInvoke_state]; exact hsteps⟩
theorem vx_callVW (X : Stand p l e R s m args below meth c T locs cells slots) (hexec : p.tables.exec = Jvm.exec) {own C : String} {index : Nat} {y : MethodName} {bytes : ByteArray} {maxL : Nat} {ret : Option FieldType} {hh : List (Nat × Nat × Nat × Nat)}
    (hown : s.vm.findClass own = some m.cls) (hlink : (Cond.methodLink own index y).before args s = true) (hinst : (Cond.instanceMethod y).before args s = true) (hsel : (Cond.selects C y y).before args s = true)
    (hcode : (Cond.codeWith y bytes maxL ret hh).before args s = true) (hy : y.cls ≠ "java/lang/invoke/MethodHandle" ∧ y.cls ≠ "java/lang/invoke/VarHandle")
    {W9 : Nat} {Pre : Pt → Array Value → Prop} {Post : Pt → Array Value → Option Value → Pt → Prop} (hK : Back l R p e below s args y 3 W9 Pre Post)
    {b : Addr} {cellB : Cell} (hcell : T.heap[b]? = some cellB) (hobj : cellB.vm.isStatics = false) (hcls : s.vm.findClass C = some cellB.cls)
    {g : JFrame} (hg : g.method = m) (hsize : g.locals.size = c.maxLocals) {argsL rest : List Value} (hlen : ∀ sig, parseMethodDescriptor y.desc = some sig → argsL.length = sig.parameters.length)
    (hstack : g.stack = argsL.reverse ++ .ref b :: rest) (hW : 2 * g.monitorRoom + (rest.map fun v => v.category).sum ≤ W9) (hdg : decode c.code g.pc = .ok (.invokevirtual index, 3))
    (hpre : ∀ vm₁, s.WarmedH vm₁ → Pre ⟨T.setVm vm₁, locs, cells, slots⟩ (Value.ref b :: argsL).toArray) :
    ∃ (v : Option Value) (vm₁ : Vm) (B : Pt), s.WarmedH vm₁ ∧ Stand p l e R s m args below meth c B.U B.locs B.cells B.slots ∧ Post ⟨T.setVm vm₁, locs, cells, slots⟩ (Value.ref b :: argsL).toArray v B ∧
      ∀ target, Steps p.tables e below (B.U.setTop { g with pc := g.pc + 3, stack := v.toList ++ rest }) target → Steps p.tables e below (T.setTop g) target := by
  obtain ⟨mk, methM, hnamed, hmethM, hstM, habM⟩ := Cond.instanceMethod_spec hinst
  obtain ⟨m8, methM', cM, hn8, hmethM', -, -, -, -, -, -, hsigM⟩ := Cond.codeWith_spec hcode
  cases Option.some.inj (hn8.symm.trans hnamed)
  cases hmethM.symm.trans hmethM'
  obtain ⟨c2, r2, m2, q1, q2, q3, q4, kP, hkP, hkPi⟩ := Cond.selects_spec hsel
  cases hcls.symm.trans q1
  cases (State.methodFound?_of_named hnamed hy).symm.trans q2
  cases hnamed.symm.trans q3
  have hselP : selectMethod e.platform s.vm cellB.cls mk = .method mk := by rw [Launch.admits_selectMethod X.admits]; exact q4
  obtain ⟨vm₁, X₁, hstep₁⟩ := X.invokevirtual hexec hown hlink hnamed hmethM hstM hkP hkPi hy (a := b) (cell := cellB) hcell
    (fun z h => by rw [h] at hobj; cases hobj) hselP hmethM habM hkP hkPi (g := g) hg (argsL := argsL) (rest := rest) (hlen _ hsigM) hstack hdg
  obtain ⟨v, B, X', hpost, hsteps⟩ := hK m meth c ⟨T.setVm vm₁, locs, cells, slots⟩ { g with stack := rest } (.invokevirtual index) mk (Value.ref b :: argsL).toArray X₁ hg hsize hdg hW (X₁.named hnamed) (hpre vm₁ X₁.warmed)
  exact ⟨v, vm₁, B, X₁.warmed, X', hpost, fun target h => hstep₁ _ fun acts => by rw [doInvoke_state]; exact hsteps.trans h⟩
abbrev vx_CVW (R : Room) (s : State) (args : Array Value) (own C : String) (index : Nat) (y : MethodName) (bytes : ByteArray) (maxL : Nat) (ret : Option FieldType) (hh : List (Nat × Nat × Nat × Nat)) (ws : List Cond) (rm : Room) (mc ms n : Nat) : Prop :=
  (rm.cells = mc ∧ rm.slots = ms ∧ rm.frames + 1 ≤ R.frames ∧ 8 + (maxL + 11) + rm.locals ≤ R.locals ∧ (∀ w ∈ ws, ∀ (a' : Array Value) (U : State), s.WarmedH U.vm → w.before a' U = true) ∧ Cond.codeWith y bytes maxL ret hh ∈ ws) ∧
  (Cond.codeWith y bytes maxL ret hh).before args s = true ∧ (Cond.initialized y.cls).before args s = true ∧ (y.cls ≠ "java/lang/invoke/MethodHandle" ∧ y.cls ≠ "java/lang/invoke/VarHandle") ∧
  (∀ sig, parseMethodDescriptor y.desc = some sig → n = sig.parameters.length) ∧ (Cond.methodLink own index y).before args s = true ∧ (Cond.instanceMethod y).before args s = true ∧ (Cond.selects C y y).before args s = true
theorem vx_cwVW {own C : String} {index maxL mc ms : Nat} {y : MethodName} {bytes : ByteArray} {ret : Option FieldType} {hh : List (Nat × Nat × Nat × Nat)} {Ts ws ws' : List Cond} {rm : Room} (n : Nat) (ht : ∀ w ∈ Ts, w.before args s = true) (hT : GoodIn Ts (wsV own index C y ws)) (hw : ws = Cond.codeWith y bytes maxL ret hh :: ws') (hrc : rm.cells = mc) (hrs : rm.slots = ms)
    (hd : y.cls = C ∧ y.cls ≠ "java/lang/invoke/MethodHandle" ∧ y.cls ≠ "java/lang/invoke/VarHandle" ∧ (parseMethodDescriptor y.desc).map (fun d => d.parameters.length) = some n) (hR : rm.frames + 1 ≤ R.frames ∧ 8 + (maxL + 11) + rm.locals ≤ R.locals) :
    vx_CVW R s args own C index y bytes maxL ret hh ws rm mc ms n := by
  obtain ⟨hC, hd⟩ := hd
  subst hC
  have ok : ∀ w ∈ wsV own index y.cls y ws, w.before args s = true := fun w h => ht w (hT w h).1
  have hG : GoodIn Ts ws := fun w h => hT w (by unfold wsV; exact List.mem_append_right _ h)
  have hc : Cond.codeWith y bytes maxL ret hh ∈ ws := by rw [hw]; exact List.mem_cons_self
  refine ⟨⟨hrc, hrs, hR.1, hR.2, pay_in ht hG, hc⟩, ht _ (hG _ hc).1, ok _ (by simp [wsV]), ⟨hd.1, hd.2.1⟩, fun sig h => ?_, ok _ (by simp [wsV]), ok _ (by simp [wsV]), ok _ (by simp [wsV])⟩
  have h2 := hd.2.2
  rw [h] at h2
  exact (Option.some.inj h2).symm
theorem vx_runVW {y : MethodName} {bytes cc : ByteArray} {maxL nL mc ms n index : Nat} {ret : Option FieldType} {hh : List (Nat × Nat × Nat × Nat)} {ws : List Cond} {rm : Room} {Pc : Array Value → State → Prop} {Qc : Array Value → State → Outcome → State → Prop} {free : Addr → Prop} {Ts : List Cond} {own C : String} {b : Addr} {As rest : List Value} {g : JFrame}
    (S : CallFix p m c cc nL s args Ts own) (hM : Met l y ws rm Pc Qc mc ms free) (cw : vx_CVW R s args own C index y bytes maxL ret hh ws rm mc ms n) (hp : PreV s H C b Pc As)
    (hg : g.method = m) (hn : As.length = n) (hsize : g.locals.size = nL) (hstack : g.stack = As.reverse ++ .ref b :: rest) (hW : 2 * g.monitorRoom + (rest.map fun v => v.category).sum ≤ 8) (hdg : decode cc g.pc = .ok (.invokevirtual index, 3)) (hf : cells + mc ≤ R.cells ∧ slots + ms ≤ R.slots) :
    va_Run p l e R s m args below meth c H locs cells slots mc ms g rest (Qc (Value.ref b :: As).toArray) free := by
  obtain ⟨⟨hrc, hrs, hfr, hlo, hws, hcw⟩, hcode, hini, hy, hlen, hl, hin, hse⟩ := cw
  have hK : Back l R p e below s args y 3 8 (PreOf R mc ms Pc) (PostOf Qc mc ms free) := va_backW (hh := hh) (bytes := bytes) (maxL := maxL) (ret := ret) hM hp.1 hrc hrs hfr hlo hws hcw (fun a' U hW => word_at hW (Or.inl (by first | rfl | simp [Cond.onTables, Cond.keeps, Cond.steady])) hini)
  obtain ⟨hx, hb, hml, ho, -⟩ := S
  obtain ⟨-, ⟨cellB, hcB, hoB, hclB⟩, hPc⟩ := hp
  intro T hT X
  obtain ⟨v, vm₁, ⟨U', l2, c2, s2⟩, hW₁, X', ⟨g', mk, t, L, e1, e2, hq, h1, hL, h2, h3⟩, st⟩ := vx_callVW X hx (C := C) (hh := hh) (bytes := bytes) (maxL := maxL) (ret := ret) ho hl hin hse hcode hy hK (by rw [hT]; exact hcB) hoB hclB hg (hsize.trans hml.symm) (argsL := As) (rest := rest) (fun sig h => hn.trans (hlen sig h)) hstack hW (by rw [hb]; exact hdg)
    (fun vm₁ hW₁ => ⟨hf.1, hf.2, hPc (T.setVm vm₁) hT hW₁⟩)
  dsimp only [Pt.U, Pt.locs, Pt.cells, Pt.slots] at X' e1 e2 h1 h2 h3 st
  subst h1; subst h2; subst h3
  exact ⟨v, (T.setVm vm₁).calling g' mk (Value.ref b :: As).toArray, t, U', L, hT, X', hL, e1, e2, hq, st⟩
section
variable {y : MethodName} {bytes cc : ByteArray} {maxL nL mc ms n index : Nat} {ret : Option FieldType} {ws : List Cond} {rm : Room} {Pc : Array Value → State → Prop} {Qc : Array Value → State → Outcome → State → Prop} {XC : String → State → State → Prop} {free : Addr → Prop} {Ts : List Cond} {own C : String} {b : Addr} {As rest : List Value} {g : JFrame}
theorem vx_runVX {hh : List (Nat × Nat × Nat × Nat)} (S : CallFix p m c cc nL s args Ts own) (hM : vx_Met l y ws rm Pc Qc XC mc ms free) (cw : vx_CVW R s args own C index y bytes maxL ret hh ws rm mc ms n) (hp : PreV s H C b Pc As)
    (hg : g.method = m) (hn : As.length = n) (hsize : g.locals.size = nL) (hstack : g.stack = As.reverse ++ .ref b :: rest) (hW : 2 * g.monitorRoom + (rest.map fun v => v.category).sum ≤ 8) (hdg : decode cc g.pc = .ok (.invokevirtual index, 3)) (hf : cells + mc ≤ R.cells ∧ slots + ms ≤ R.slots) :
    vx_Run p l e R s m args below meth c H locs cells slots mc ms g rest (Qc (Value.ref b :: As).toArray) XC free := by
  obtain ⟨⟨hrc, hrs, hfr, hlo, hws, hcw⟩, hcode, hini, hy, hlen, hl, hin, hse⟩ := cw
  have hK : vx_Back l R p e below s args y 3 8 (PreOf R mc ms Pc) (PostOf Qc mc ms free) (vx_Post XC mc ms free) := vx_backW (hh := hh) (bytes := bytes) (maxL := maxL) (ret := ret) hM hp.1 hrc hrs hfr hlo hws hcw (fun a' U hW => word_at hW (Or.inl (by first | rfl | simp [Cond.onTables, Cond.keeps, Cond.steady])) hini)
  obtain ⟨hx, hb, hml, ho, -⟩ := S
  obtain ⟨-, ⟨cellB, hcB, hoB, hclB⟩, hPc⟩ := hp
  intro T hT X
  rcases vx_callVX X hx (C := C) (hh := hh) (bytes := bytes) (maxL := maxL) (ret := ret) ho hl hin hse hcode hy hK (by rw [hT]; exact hcB) hoB hclB hg (hsize.trans hml.symm) (argsL := As) (rest := rest) (fun sig h => hn.trans (hlen sig h)) hstack hW (by rw [hb]; exact hdg)
    (fun vm₁ hW₁ => ⟨hf.1, hf.2, hPc (T.setVm vm₁) hT hW₁⟩) with ⟨v, vm₁, ⟨U', l2, c2, s2⟩, hW₁, X', ⟨g', mk, t, L, e1, e2, hq, h1, hL, h2, h3⟩, st⟩ | ⟨q, vm₁, ⟨U', l2, c2, s2⟩, hW₁, X', ⟨g', mk, t, L, E, ce, e1, e2, hq, hce, hcv, hcl, h1, hL, h2, h3⟩, st⟩
  · dsimp only [Pt.U, Pt.locs, Pt.cells, Pt.slots] at X' e1 e2 h1 h2 h3 st
    subst h1; subst h2; subst h3
    exact Or.inl ⟨v, (T.setVm vm₁).calling g' mk (Value.ref b :: As).toArray, t, U', L, hT, X', hL, e1, e2, hq, st⟩
  · dsimp only [Pt.U, Pt.locs, Pt.cells, Pt.slots] at X' e1 e2 h1 h2 h3 st hcl
    subst h1; subst h2; subst h3
    exact Or.inr ⟨q, (T.setVm vm₁).calling g' mk (Value.ref b :: As).toArray, t, U', L, E, ce, hT, X', hL, e1, e2, hq, hce, hcv, vx_cls hW₁ hcl, st⟩
theorem vx_runSX {hh : List (Nat × Nat × Nat × Nat)} (S : CallFix p m c cc nL s args Ts own) (hM : vx_Met l y ws rm Pc Qc XC mc ms free) (cw : vx_CSW R s args own index y bytes maxL ret hh ws rm mc ms n) (hp : PreS s H Pc As)
    (hg : g.method = m) (hn : As.length = n) (hsize : g.locals.size = nL) (hstack : g.stack = As.reverse ++ rest) (hW : 2 * g.monitorRoom + (rest.map fun v => v.category).sum ≤ 8) (hdg : decode cc g.pc = .ok (.invokestatic index, 3)) (hf : cells + mc ≤ R.cells ∧ slots + ms ≤ R.slots) :
    vx_Run p l e R s m args below meth c H locs cells slots mc ms g rest (Qc As.toArray) XC free := by
  obtain ⟨⟨hrc, hrs, hfr, hlo, hws, hcw⟩, hcode, hini, hy, hlen, hl, hstt⟩ := cw
  have hK : vx_Back l R p e below s args y 3 8 (PreOf R mc ms Pc) (PostOf Qc mc ms free) (vx_Post XC mc ms free) := vx_backW (hh := hh) (bytes := bytes) (maxL := maxL) (ret := ret) hM hp.1 hrc hrs hfr hlo hws hcw (fun a' U hW => word_at hW (Or.inl (by first | rfl | simp [Cond.onTables, Cond.keeps, Cond.steady])) hini)
  obtain ⟨hx, hb, hml, ho, -⟩ := S
  intro T hT X
  rcases vx_callSX X hx (hh := hh) (bytes := bytes) (maxL := maxL) (ret := ret) ho hl hstt hini hcode hy hK hg (hsize.trans hml.symm) (argsL := As) (rest := rest) (fun sig h => hn.trans (hlen sig h)) hstack hW (by rw [hb]; exact hdg)
    (fun vm₁ hW₁ => ⟨hf.1, hf.2, hp.2 (T.setVm vm₁) hT hW₁⟩) with ⟨v, vm₁, ⟨U', l2, c2, s2⟩, hW₁, X', ⟨g', mk, t, L, e1, e2, hq, h1, hL, h2, h3⟩, st⟩ | ⟨q, vm₁, ⟨U', l2, c2, s2⟩, hW₁, X', ⟨g', mk, t, L, E, ce, e1, e2, hq, hce, hcv, hcl, h1, hL, h2, h3⟩, st⟩
  · dsimp only [Pt.U, Pt.locs, Pt.cells, Pt.slots] at X' e1 e2 h1 h2 h3 st
    subst h1; subst h2; subst h3
    exact Or.inl ⟨v, (T.setVm vm₁).calling g' mk As.toArray, t, U', L, hT, X', hL, e1, e2, hq, st⟩
  · dsimp only [Pt.U, Pt.locs, Pt.cells, Pt.slots] at X' e1 e2 h1 h2 h3 st hcl
    subst h1; subst h2; subst h3
    exact Or.inr ⟨q, (T.setVm vm₁).calling g' mk As.toArray, t, U', L, E, ce, hT, X', hL, e1, e2, hq, hce, hcv, vx_cls hW₁ hcl, st⟩
end
end VXH
theorem vx_ofWH {l : Launch} {y : MethodName} {ws ws' : List Cond} {rm : Room} {Pc : Array Value → State → Prop} {Qc : Array Value → State → Outcome → State → Prop} {XC : String → State → State → Prop} {mc ms : Nat} {free : Addr → Prop} {cc : ByteArray} {maxL : Nat} {ret : Option FieldType} {hh : List (Nat × Nat × Nat × Nat)}
    (hy : plainName y.cls = true) (hw : ws = Cond.codeWith y cc maxL ret hh :: ws')
    (body : ∀ p e s m args below meth c s₁, BodyLoose p l y (headSpec ws rm) cc maxL ret e s m args below meth c s₁ → c.maxLocals = maxL → Pc args s →
      W p l e (headSpec ws rm).room s m args below meth c s.heap [] 0 0 (vx_MQ below Qc XC args s mc ms free) (entryFrame m args maxL)) : vx_Met l y ws rm Pc Qc XC mc ms free := by
  refine MetFree.of_bodyS (code := cc) (maxLocals := maxL) (ret := ret) hy ?_ ?_
  · intro args s m h hn
    obtain ⟨m9, meth, c, hn9, h1, h2, h3, h4, -, h5, h6, -⟩ := Cond.codeWith_spec (atoms_spec (ws := ws) h _ (by rw [hw]; exact List.mem_cons_self))
    cases hn.symm.trans hn9
    exact ⟨meth, c, h1, h2, h3, h4, h5, h6⟩
  · intro p e s m args below meth c s₁ B hml hP _
    have hh0 : s₁.heap = s.heap := by rw [B.state]; rfl
    obtain ⟨t, a1, o, b1, b2, b3⟩ := body p e s m args below meth c s₁ B hml hP s₁ hh0 (Stand.of_body B)
    exact ⟨t, o, a1, b1, b2, b3⟩
/-! ===== END ===== -/
end
section
def RX0 : String := "GluedWall$Footing"
def TX0 : u_T := fun k => match k with
  | 0 => ("GluedWall$Footing", "reached", "[Z", true)
  | 1 => ("GluedWall$Footing", "queue", "[I", true)
  | _ => ("GluedWall$Footing", "queued", "I", false)
def tyX0 : Nat → FieldType := fun k => match k with
  | 0 => .array .boolean
  | 1 => .array .int
  | _ => .int
abbrev wsX00 : List Cond := u_ws RX0 TX0 3
theorem nmX0 : ∀ a, a < 3 → ∀ b, b < 3 → a ≠ b → (TX0 a).2.1 ≠ (TX0 b).2.1 := by decide +kernel
theorem tyX0_ok : ∀ k, k < 3 → parseFieldDescriptor (TX0 k).2.2.1 = some (tyX0 k) := by decide +kernel
abbrev cX0_init : ByteArray := prog_2_method_1_code
def yX0_init : MethodName := ⟨RX0, "<init>", "()V"⟩
abbrev cX0_countWithout : ByteArray := prog_2_method_2_code
def yX0_countWithout : MethodName := ⟨RX0, "countWithout", "(LGluedWall$Wall;I)I"⟩
abbrev cX0_isReached : ByteArray := prog_2_method_3_code
def yX0_isReached : MethodName := ⟨RX0, "isReached", "(I)Z"⟩
abbrev cX0_fallingWithout : ByteArray := prog_2_method_4_code
def yX0_fallingWithout : MethodName := ⟨RX0, "fallingWithout", "(LGluedWall$Wall;I)I"⟩
abbrev cX0_reach : ByteArray := prog_2_method_5_code
def yX0_reach : MethodName := ⟨RX0, "reach", "(I)V"⟩
def RX1 : String := "GluedWall$Growth"
def TX1 : u_T := fun k => match k with
  | 0 => ("GluedWall$Growth", "facing", "[I", true)
  | 1 => ("GluedWall$Growth", "foundPlace", "I", false)
  | _ => ("GluedWall$Growth", "foundBrick", "I", false)
def tyX1 : Nat → FieldType := fun k => match k with
  | 0 => .array .int
  | 1 => .int
  | _ => .int
abbrev wsX10 : List Cond := u_ws RX1 TX1 3
theorem nmX1 : ∀ a, a < 3 → ∀ b, b < 3 → a ≠ b → (TX1 a).2.1 ≠ (TX1 b).2.1 := by decide +kernel
theorem tyX1_ok : ∀ k, k < 3 → parseFieldDescriptor (TX1 k).2.2.1 = some (tyX1 k) := by decide +kernel
abbrev cX1_init : ByteArray := prog_3_method_1_code
def yX1_init : MethodName := ⟨RX1, "<init>", "()V"⟩
abbrev cX1_findFrom : ByteArray := prog_3_method_2_code
def yX1_findFrom : MethodName := ⟨RX1, "findFrom", "(LGluedWall$Wall;I)Z"⟩
abbrev cX1_letGrow : ByteArray := prog_3_method_3_code
def yX1_letGrow : MethodName := ⟨RX1, "letGrow", "(LGluedWall$Wall;I)I"⟩
abbrev cX1_choicesFor : ByteArray := prog_3_method_4_code
def yX1_choicesFor : MethodName := ⟨RX1, "choicesFor", "(LGluedWall$Wall;I)I"⟩
abbrev cX1_stuckPlaces : ByteArray := prog_3_method_5_code
def yX1_stuckPlaces : MethodName := ⟨RX1, "stuckPlaces", "(LGluedWall$Wall;)I"⟩
abbrev cX1_bestFor : ByteArray := prog_3_method_6_code
def yX1_bestFor : MethodName := ⟨RX1, "bestFor", "(LGluedWall$Wall;I)I"⟩
abbrev cX1_lookAround : ByteArray := prog_3_method_7_code
def yX1_lookAround : MethodName := ⟨RX1, "lookAround", "(LGluedWall$Wall;I)Z"⟩
abbrev cX1_holdIfFit : ByteArray := prog_3_method_8_code
def yX1_holdIfFit : MethodName := ⟨RX1, "holdIfFit", "(LGluedWall$Wall;I)I"⟩
def RX2 : String := "GluedWall$History"
def TX2 : u_T := fun k => match k with
  | 0 => ("GluedWall$History", "walls", "[LGluedWall$Wall;", true)
  | 1 => ("GluedWall$History", "next", "I", false)
  | _ => ("GluedWall$History", "count", "I", false)
def tyX2 : Nat → FieldType := fun k => match k with
  | 0 => .array (.object "GluedWall$Wall")
  | 1 => .int
  | _ => .int
abbrev wsX20 : List Cond := u_ws RX2 TX2 3
theorem nmX2 : ∀ a, a < 3 → ∀ b, b < 3 → a ≠ b → (TX2 a).2.1 ≠ (TX2 b).2.1 := by decide +kernel
theorem tyX2_ok : ∀ k, k < 3 → parseFieldDescriptor (TX2 k).2.2.1 = some (tyX2 k) := by decide +kernel
abbrev cX2_init : ByteArray := prog_4_method_1_code
def yX2_init : MethodName := ⟨RX2, "<init>", "()V"⟩
abbrev cX2_push : ByteArray := prog_4_method_2_code
def yX2_push : MethodName := ⟨RX2, "push", "(LGluedWall$Wall;)V"⟩
abbrev cX2_popInto : ByteArray := prog_4_method_3_code
def yX2_popInto : MethodName := ⟨RX2, "popInto", "(LGluedWall$Wall;)V"⟩
abbrev cX2_forget : ByteArray := prog_4_method_4_code
def yX2_forget : MethodName := ⟨RX2, "forget", "()V"⟩
def RX3 : String := "GluedWall$Mason"
def TX3 : u_T := fun k => match k with
  | 0 => ("GluedWall$Mason", "footing", "LGluedWall$Footing;", true)
  | 1 => ("GluedWall$Mason", "growth", "LGluedWall$Growth;", true)
  | 2 => ("GluedWall$Mason", "refusedFor", "I", false)
  | _ => ("GluedWall$Mason", "refusedDetail", "I", false)
def tyX3 : Nat → FieldType := fun k => match k with
  | 0 => .object "GluedWall$Footing"
  | 1 => .object "GluedWall$Growth"
  | 2 => .int
  | _ => .int
abbrev wsX30 : List Cond := u_ws RX3 TX3 4
theorem nmX3 : ∀ a, a < 4 → ∀ b, b < 4 → a ≠ b → (TX3 a).2.1 ≠ (TX3 b).2.1 := by decide +kernel
theorem tyX3_ok : ∀ k, k < 4 → parseFieldDescriptor (TX3 k).2.2.1 = some (tyX3 k) := by decide +kernel
abbrev cX3_init : ByteArray := prog_5_method_1_code
def yX3_init : MethodName := ⟨RX3, "<init>", "(LGluedWall$Footing;LGluedWall$Growth;)V"⟩
abbrev cX3_tellKind : ByteArray := prog_5_method_2_code
def yX3_tellKind : MethodName := ⟨RX3, "tellKind", "(LGluedWall$Wall;IIII)I"⟩
abbrev cX3_layBrick : ByteArray := prog_5_method_3_code
def yX3_layBrick : MethodName := ⟨RX3, "layBrick", "(LGluedWall$Wall;III)I"⟩
abbrev cX3_takeBrick : ByteArray := prog_5_method_4_code
def yX3_takeBrick : MethodName := ⟨RX3, "takeBrick", "(LGluedWall$Wall;I)I"⟩
abbrev cX3_growBricks : ByteArray := prog_5_method_5_code
def yX3_growBricks : MethodName := ⟨RX3, "growBricks", "(LGluedWall$Wall;I)I"⟩
abbrev cX3_setStrength : ByteArray := prog_5_method_6_code
def yX3_setStrength : MethodName := ⟨RX3, "setStrength", "(LGluedWall$Wall;II)I"⟩
abbrev cX3_setNeed : ByteArray := prog_5_method_7_code
def yX3_setNeed : MethodName := ⟨RX3, "setNeed", "(LGluedWall$Wall;I)I"⟩
abbrev cX3_refuse : ByteArray := prog_5_method_8_code
def yX3_refuse : MethodName := ⟨RX3, "refuse", "(II)I"⟩
abbrev cX3_isGlue : ByteArray := prog_5_method_9_code
def yX3_isGlue : MethodName := ⟨RX3, "isGlue", "(I)Z"⟩
def RX4 : String := "GluedWall$Text"
def TX4 : u_T := fun k => match k with
  | 0 => ("GluedWall$Text", "signs", "[C", true)
  | 1 => ("GluedWall$Text", "deeds", "[C", true)
  | 2 => ("GluedWall$Text", "numbers", "[I", true)
  | 3 => ("GluedWall$Text", "at", "I", false)
  | 4 => ("GluedWall$Text", "length", "I", false)
  | _ => ("GluedWall$Text", "commandCount", "I", false)
def tyX4 : Nat → FieldType := fun k => match k with
  | 0 => .array .char
  | 1 => .array .char
  | 2 => .array .int
  | 3 => .int
  | 4 => .int
  | _ => .int
abbrev wsX40 : List Cond := u_ws RX4 TX4 6
theorem nmX4 : ∀ a, a < 6 → ∀ b, b < 6 → a ≠ b → (TX4 a).2.1 ≠ (TX4 b).2.1 := by decide +kernel
theorem tyX4_ok : ∀ k, k < 6 → parseFieldDescriptor (TX4 k).2.2.1 = some (tyX4 k) := by decide +kernel
abbrev cX4_init : ByteArray := prog_6_method_1_code
def yX4_init : MethodName := ⟨RX4, "<init>", "()V"⟩
abbrev cX4_isFull : ByteArray := prog_6_method_2_code
def yX4_isFull : MethodName := ⟨RX4, "isFull", "()Z"⟩
abbrev cX4_add : ByteArray := prog_6_method_3_code
def yX4_add : MethodName := ⟨RX4, "add", "(C)I"⟩
abbrev cX4_clear : ByteArray := prog_6_method_4_code
def yX4_clear : MethodName := ⟨RX4, "clear", "()V"⟩
abbrev cX4_deedOf : ByteArray := prog_6_method_5_code
def yX4_deedOf : MethodName := ⟨RX4, "deedOf", "(I)C"⟩
abbrev cX4_numberOf : ByteArray := prog_6_method_6_code
def yX4_numberOf : MethodName := ⟨RX4, "numberOf", "(II)I"⟩
abbrev cX4_read : ByteArray := prog_6_method_7_code
def yX4_read : MethodName := ⟨RX4, "read", "()I"⟩
abbrev cX4_readCommand : ByteArray := prog_6_method_8_code
def yX4_readCommand : MethodName := ⟨RX4, "readCommand", "()Z"⟩
abbrev cX4_readPlaceAndBrick : ByteArray := prog_6_method_9_code
def yX4_readPlaceAndBrick : MethodName := ⟨RX4, "readPlaceAndBrick", "()Z"⟩
abbrev cX4_readDigits : ByteArray := prog_6_method_10_code
def yX4_readDigits : MethodName := ⟨RX4, "readDigits", "(I)Z"⟩
abbrev cX4_readNumber : ByteArray := prog_6_method_11_code
def yX4_readNumber : MethodName := ⟨RX4, "readNumber", "(I)Z"⟩
abbrev cX4_readDigit : ByteArray := prog_6_method_12_code
def yX4_readDigit : MethodName := ⟨RX4, "readDigit", "(I)Z"⟩
abbrev cX4_skip : ByteArray := prog_6_method_13_code
def yX4_skip : MethodName := ⟨RX4, "skip", "(C)Z"⟩
abbrev cX4_here : ByteArray := prog_6_method_14_code
def yX4_here : MethodName := ⟨RX4, "here", "()C"⟩
abbrev cX4_note : ByteArray := prog_6_method_15_code
def yX4_note : MethodName := ⟨RX4, "note", "(II)V"⟩
def RX5 : String := "GluedWall$Wall"
def TX5 : u_T := fun k => match k with
  | 0 => ("GluedWall$Wall", "glues", "[I", true)
  | 1 => ("GluedWall$Wall", "strengths", "[I", true)
  | 2 => ("GluedWall$Wall", "bricks", "[I", true)
  | 3 => ("GluedWall$Wall", "kindCount", "I", false)
  | 4 => ("GluedWall$Wall", "needed", "I", false)
  | 5 => ("GluedWall$Wall", "seedPlace", "I", false)
  | 6 => ("GluedWall$Wall", "laidSoFar", "I", false)
  | 7 => ("GluedWall$Wall", "grownSoFar", "I", false)
  | _ => ("GluedWall$Wall", "takenSoFar", "I", false)
def tyX5 : Nat → FieldType := fun k => match k with
  | 0 => .array .int
  | 1 => .array .int
  | 2 => .array .int
  | 3 => .int
  | 4 => .int
  | 5 => .int
  | 6 => .int
  | 7 => .int
  | _ => .int
abbrev wsX50 : List Cond := u_ws RX5 TX5 9
theorem nmX5 : ∀ a, a < 9 → ∀ b, b < 9 → a ≠ b → (TX5 a).2.1 ≠ (TX5 b).2.1 := by decide +kernel
theorem tyX5_ok : ∀ k, k < 9 → parseFieldDescriptor (TX5 k).2.2.1 = some (tyX5 k) := by decide +kernel
abbrev cX5_init : ByteArray := prog_7_method_1_code
def yX5_init : MethodName := ⟨RX5, "<init>", "()V"⟩
abbrev cX5_copyFrom : ByteArray := prog_7_method_2_code
def yX5_copyFrom : MethodName := ⟨RX5, "copyFrom", "(LGluedWall$Wall;)V"⟩
abbrev cX5_hasKind : ByteArray := prog_7_method_3_code
def yX5_hasKind : MethodName := ⟨RX5, "hasKind", "(I)Z"⟩
abbrev cX5_brickOn : ByteArray := prog_7_method_4_code
def yX5_brickOn : MethodName := ⟨RX5, "brickOn", "(I)I"⟩
abbrev cX5_isFree : ByteArray := prog_7_method_5_code
def yX5_isFree : MethodName := ⟨RX5, "isFree", "(I)Z"⟩
abbrev cX5_glueOn : ByteArray := prog_7_method_6_code
def yX5_glueOn : MethodName := ⟨RX5, "glueOn", "(II)I"⟩
abbrev cX5_glueFacing : ByteArray := prog_7_method_7_code
def yX5_glueFacing : MethodName := ⟨RX5, "glueFacing", "(II)I"⟩
abbrev cX5_strengthBetween : ByteArray := prog_7_method_8_code
def yX5_strengthBetween : MethodName := ⟨RX5, "strengthBetween", "(II)I"⟩
abbrev cX5_strengthToward : ByteArray := prog_7_method_9_code
def yX5_strengthToward : MethodName := ⟨RX5, "strengthToward", "(II)I"⟩
abbrev cX5_isErrorToward : ByteArray := prog_7_method_10_code
def yX5_isErrorToward : MethodName := ⟨RX5, "isErrorToward", "(II)Z"⟩
abbrev cX5_isNeighbourToward : ByteArray := prog_7_method_11_code
def yX5_isNeighbourToward : MethodName := ⟨RX5, "isNeighbourToward", "(II)Z"⟩
abbrev cX5_holdFor : ByteArray := prog_7_method_12_code
def yX5_holdFor : MethodName := ⟨RX5, "holdFor", "(II)I"⟩
abbrev cX5_allHolds : ByteArray := prog_7_method_13_code
def yX5_allHolds : MethodName := ⟨RX5, "allHolds", "(I)I"⟩
abbrev cX5_errorsOf : ByteArray := prog_7_method_14_code
def yX5_errorsOf : MethodName := ⟨RX5, "errorsOf", "(I)I"⟩
abbrev cX5_errorPairs : ByteArray := prog_7_method_15_code
def yX5_errorPairs : MethodName := ⟨RX5, "errorPairs", "()I"⟩
abbrev cX5_neighbourPairs : ByteArray := prog_7_method_16_code
def yX5_neighbourPairs : MethodName := ⟨RX5, "neighbourPairs", "()I"⟩
abbrev cX5_brickCount : ByteArray := prog_7_method_17_code
def yX5_brickCount : MethodName := ⟨RX5, "brickCount", "()I"⟩
abbrev cX5_put : ByteArray := prog_7_method_18_code
def yX5_put : MethodName := ⟨RX5, "put", "(II)V"⟩
abbrev cX5_free : ByteArray := prog_7_method_19_code
def yX5_free : MethodName := ⟨RX5, "free", "(I)V"⟩
abbrev cX5_areAtOdds : ByteArray := prog_7_method_20_code
def yX5_areAtOdds : MethodName := ⟨RX5, "areAtOdds", "(II)Z"⟩
def RX6 : String := "GluedWall"
def TX6 : u_T := fun k => match k with
  | 0 => ("GluedWall", "wall", "LGluedWall$Wall;", true)
  | 1 => ("GluedWall", "before", "LGluedWall$Wall;", true)
  | 2 => ("GluedWall", "snapshot", "LGluedWall$Wall;", true)
  | 3 => ("GluedWall", "hasSnapshot", "Z", false)
  | 4 => ("GluedWall", "history", "LGluedWall$History;", true)
  | 5 => ("GluedWall", "footing", "LGluedWall$Footing;", true)
  | 6 => ("GluedWall", "growth", "LGluedWall$Growth;", true)
  | 7 => ("GluedWall", "mason", "LGluedWall$Mason;", true)
  | 8 => ("GluedWall", "refusedCommand", "I", false)
  | 9 => ("GluedWall", "text", "LGluedWall$Text;", true)
  | 10 => ("GluedWall", "faultIndex", "I", false)
  | 11 => ("GluedWall", "lineSigns", "[C", true)
  | _ => ("GluedWall", "lineLength", "I", false)
def tyX6 : Nat → FieldType := fun k => match k with
  | 0 => .object "GluedWall$Wall"
  | 1 => .object "GluedWall$Wall"
  | 2 => .object "GluedWall$Wall"
  | 3 => .boolean
  | 4 => .object "GluedWall$History"
  | 5 => .object "GluedWall$Footing"
  | 6 => .object "GluedWall$Growth"
  | 7 => .object "GluedWall$Mason"
  | 8 => .int
  | 9 => .object "GluedWall$Text"
  | 10 => .int
  | 11 => .array .char
  | _ => .int
abbrev wsX60 : List Cond := u_ws RX6 TX6 13
theorem nmX6 : ∀ a, a < 13 → ∀ b, b < 13 → a ≠ b → (TX6 a).2.1 ≠ (TX6 b).2.1 := by decide +kernel
theorem tyX6_ok : ∀ k, k < 13 → parseFieldDescriptor (TX6 k).2.2.1 = some (tyX6 k) := by decide +kernel
abbrev cX6_init : ByteArray := prog_1_method_1_code
def yX6_init : MethodName := ⟨RX6, "<init>", "()V"⟩
abbrev cX6_kind : ByteArray := prog_1_method_2_code
def yX6_kind : MethodName := ⟨RX6, "kind", "(IIII)I"⟩
abbrev cX6_lay : ByteArray := prog_1_method_3_code
def yX6_lay : MethodName := ⟨RX6, "lay", "(III)I"⟩
abbrev cX6_takeOut : ByteArray := prog_1_method_4_code
def yX6_takeOut : MethodName := ⟨RX6, "takeOut", "(I)I"⟩
abbrev cX6_grow : ByteArray := prog_1_method_5_code
def yX6_grow : MethodName := ⟨RX6, "grow", "(I)I"⟩
abbrev cX6_strength : ByteArray := prog_1_method_6_code
def yX6_strength : MethodName := ⟨RX6, "strength", "(II)I"⟩
abbrev cX6_need : ByteArray := prog_1_method_7_code
def yX6_need : MethodName := ⟨RX6, "need", "(I)I"⟩
abbrev cX6_glueOf : ByteArray := prog_1_method_8_code
def yX6_glueOf : MethodName := ⟨RX6, "glueOf", "(III)I"⟩
abbrev cX6_strengthOf : ByteArray := prog_1_method_9_code
def yX6_strengthOf : MethodName := ⟨RX6, "strengthOf", "(I)I"⟩
abbrev cX6_brickAt : ByteArray := prog_1_method_10_code
def yX6_brickAt : MethodName := ⟨RX6, "brickAt", "(IZ)I"⟩
abbrev cX6_seed : ByteArray := prog_1_method_11_code
def yX6_seed : MethodName := ⟨RX6, "seed", "()I"⟩
abbrev cX6_hold : ByteArray := prog_1_method_12_code
def yX6_hold : MethodName := ⟨RX6, "hold", "(I)I"⟩
abbrev cX6_holdAgain : ByteArray := prog_1_method_13_code
def yX6_holdAgain : MethodName := ⟨RX6, "holdAgain", "(I)I"⟩
abbrev cX6_wouldHold : ByteArray := prog_1_method_14_code
def yX6_wouldHold : MethodName := ⟨RX6, "wouldHold", "(III)I"⟩
abbrev cX6_stands : ByteArray := prog_1_method_15_code
def yX6_stands : MethodName := ⟨RX6, "stands", "(I)Z"⟩
abbrev cX6_fallen : ByteArray := prog_1_method_16_code
def yX6_fallen : MethodName := ⟨RX6, "fallen", "()I"⟩
abbrev cX6_falls : ByteArray := prog_1_method_17_code
def yX6_falls : MethodName := ⟨RX6, "falls", "(I)I"⟩
abbrev cX6_errors : ByteArray := prog_1_method_18_code
def yX6_errors : MethodName := ⟨RX6, "errors", "()I"⟩
abbrev cX6_errorsAt : ByteArray := prog_1_method_19_code
def yX6_errorsAt : MethodName := ⟨RX6, "errorsAt", "(I)I"⟩
abbrev cX6_nextPlace : ByteArray := prog_1_method_20_code
def yX6_nextPlace : MethodName := ⟨RX6, "nextPlace", "()I"⟩
abbrev cX6_nextBrick : ByteArray := prog_1_method_21_code
def yX6_nextBrick : MethodName := ⟨RX6, "nextBrick", "()I"⟩
abbrev cX6_choices : ByteArray := prog_1_method_22_code
def yX6_choices : MethodName := ⟨RX6, "choices", "(I)I"⟩
abbrev cX6_stuck : ByteArray := prog_1_method_23_code
def yX6_stuck : MethodName := ⟨RX6, "stuck", "()I"⟩
abbrev cX6_growsTo : ByteArray := prog_1_method_24_code
def yX6_growsTo : MethodName := ⟨RX6, "growsTo", "()I"⟩
abbrev cX6_inRow : ByteArray := prog_1_method_25_code
def yX6_inRow : MethodName := ⟨RX6, "inRow", "(IZ)I"⟩
abbrev cX6_weakest : ByteArray := prog_1_method_26_code
def yX6_weakest : MethodName := ⟨RX6, "weakest", "(I)I"⟩
abbrev cX6_append : ByteArray := prog_1_method_27_code
def yX6_append : MethodName := ⟨RX6, "append", "(C)I"⟩
abbrev cX6_commands : ByteArray := prog_1_method_28_code
def yX6_commands : MethodName := ⟨RX6, "commands", "()I"⟩
abbrev cX6_faultPosition : ByteArray := prog_1_method_29_code
def yX6_faultPosition : MethodName := ⟨RX6, "faultPosition", "()I"⟩
abbrev cX6_reason : ByteArray := prog_1_method_30_code
def yX6_reason : MethodName := ⟨RX6, "reason", "(I)I"⟩
abbrev cX6_line : ByteArray := prog_1_method_31_code
def yX6_line : MethodName := ⟨RX6, "line", "(I)I"⟩
abbrev cX6_character : ByteArray := prog_1_method_32_code
def yX6_character : MethodName := ⟨RX6, "character", "(I)C"⟩
abbrev cX6_meanHold : ByteArray := prog_1_method_33_code
def yX6_meanHold : MethodName := ⟨RX6, "meanHold", "()D"⟩
abbrev cX6_standing : ByteArray := prog_1_method_34_code
def yX6_standing : MethodName := ⟨RX6, "standing", "()F"⟩
abbrev cX6_account : ByteArray := prog_1_method_35_code
def yX6_account : MethodName := ⟨RX6, "account", "(I)I"⟩
abbrev cX6_undo : ByteArray := prog_1_method_36_code
def yX6_undo : MethodName := ⟨RX6, "undo", "()I"⟩
abbrev cX6_save : ByteArray := prog_1_method_37_code
def yX6_save : MethodName := ⟨RX6, "save", "()I"⟩
abbrev cX6_restore : ByteArray := prog_1_method_38_code
def yX6_restore : MethodName := ⟨RX6, "restore", "()I"⟩
abbrev cX6_isPlace : ByteArray := prog_1_method_39_code
def yX6_isPlace : MethodName := ⟨RX6, "isPlace", "(I)Z"⟩
abbrev cX6_isTurnOrSide : ByteArray := prog_1_method_40_code
def yX6_isTurnOrSide : MethodName := ⟨RX6, "isTurnOrSide", "(I)Z"⟩
abbrev cX6_brickOf : ByteArray := prog_1_method_41_code
def yX6_brickOf : MethodName := ⟨RX6, "brickOf", "(II)I"⟩
abbrev cX6_kindOf : ByteArray := prog_1_method_42_code
def yX6_kindOf : MethodName := ⟨RX6, "kindOf", "(I)I"⟩
abbrev cX6_turnOf : ByteArray := prog_1_method_43_code
def yX6_turnOf : MethodName := ⟨RX6, "turnOf", "(I)I"⟩
abbrev cX6_opposite : ByteArray := prog_1_method_44_code
def yX6_opposite : MethodName := ⟨RX6, "opposite", "(I)I"⟩
abbrev cX6_beside : ByteArray := prog_1_method_45_code
def yX6_beside : MethodName := ⟨RX6, "beside", "(II)I"⟩
abbrev cX6_settled : ByteArray := prog_1_method_46_code
def yX6_settled : MethodName := ⟨RX6, "settled", "(I)I"⟩
abbrev cX6_carryOut : ByteArray := prog_1_method_47_code
def yX6_carryOut : MethodName := ⟨RX6, "carryOut", "(I)I"⟩
abbrev cX6_placeByHold : ByteArray := prog_1_method_48_code
def yX6_placeByHold : MethodName := ⟨RX6, "placeByHold", "(I)I"⟩
abbrev cX6_writePlace : ByteArray := prog_1_method_49_code
def yX6_writePlace : MethodName := ⟨RX6, "writePlace", "(I)V"⟩
abbrev cX6_writeSign : ByteArray := prog_1_method_50_code
def yX6_writeSign : MethodName := ⟨RX6, "writeSign", "(C)V"⟩
def RX7 : String := "GluedWallModel"
def TX7 : u_T := fun k => match k with
  | 0 => ("GluedWallModel", "g", "[I", true)
  | 1 => ("GluedWallModel", "kept", "[I", true)
  | 2 => ("GluedWallModel", "saved", "[I", true)
  | 3 => ("GluedWallModel", "before", "[I", true)
  | 4 => ("GluedWallModel", "spare", "[I", true)
  | 5 => ("GluedWallModel", "isSaved", "Z", false)
  | 6 => ("GluedWallModel", "changes", "I", false)
  | 7 => ("GluedWallModel", "isWithin", "Z", false)
  | 8 => ("GluedWallModel", "done", "I", false)
  | 9 => ("GluedWallModel", "code", "I", false)
  | 10 => ("GluedWallModel", "why", "I", false)
  | 11 => ("GluedWallModel", "detail", "I", false)
  | 12 => ("GluedWallModel", "index0", "I", false)
  | 13 => ("GluedWallModel", "input", "[I", true)
  | 14 => ("GluedWallModel", "length", "I", false)
  | 15 => ("GluedWallModel", "fault0", "I", false)
  | 16 => ("GluedWallModel", "signs", "[C", true)
  | 17 => ("GluedWallModel", "signMany", "I", false)
  | 18 => ("GluedWallModel", "isCome", "[Z", true)
  | 19 => ("GluedWallModel", "at", "I", false)
  | 20 => ("GluedWallModel", "told", "[I", true)
  | _ => ("GluedWallModel", "toldMany", "I", false)
def tyX7 : Nat → FieldType := fun k => match k with
  | 0 => .array .int
  | 1 => .array .int
  | 2 => .array .int
  | 3 => .array .int
  | 4 => .array .int
  | 5 => .boolean
  | 6 => .int
  | 7 => .boolean
  | 8 => .int
  | 9 => .int
  | 10 => .int
  | 11 => .int
  | 12 => .int
  | 13 => .array .int
  | 14 => .int
  | 15 => .int
  | 16 => .array .char
  | 17 => .int
  | 18 => .array .boolean
  | 19 => .int
  | 20 => .array .int
  | _ => .int
abbrev wsX70 : List Cond := u_ws RX7 TX7 22
theorem nmX7 : ∀ a, a < 22 → ∀ b, b < 22 → a ≠ b → (TX7 a).2.1 ≠ (TX7 b).2.1 := by decide +kernel
theorem tyX7_ok : ∀ k, k < 22 → parseFieldDescriptor (TX7 k).2.2.1 = some (tyX7 k) := by decide +kernel
abbrev cX7_init : ByteArray := prog_9_method_1_code
def yX7_init : MethodName := ⟨RX7, "<init>", "()V"⟩
abbrev cX7_thrown : ByteArray := prog_9_method_2_code
def yX7_thrown : MethodName := ⟨RX7, "thrown", "()I"⟩
abbrev cX7_fails : ByteArray := prog_9_method_3_code
def yX7_fails : MethodName := ⟨RX7, "fails", "(I)Z"⟩
abbrev cX7_refuses : ByteArray := prog_9_method_4_code
def yX7_refuses : MethodName := ⟨RX7, "refuses", "(II)I"⟩
abbrev cX7_in : ByteArray := prog_9_method_5_code
def yX7_in : MethodName := ⟨RX7, "in", "(III)Z"⟩
abbrev cX7_copies : ByteArray := prog_9_method_6_code
def yX7_copies : MethodName := ⟨RX7, "copies", "([II[II)V"⟩
abbrev cX7_keeps : ByteArray := prog_9_method_7_code
def yX7_keeps : MethodName := ⟨RX7, "keeps", "([I)V"⟩
abbrev cX7_isPlace : ByteArray := prog_9_method_8_code
def yX7_isPlace : MethodName := ⟨RX7, "isPlace", "(I)Z"⟩
abbrev cX7_isKind : ByteArray := prog_9_method_9_code
def yX7_isKind : MethodName := ⟨RX7, "isKind", "(I)Z"⟩
abbrev cX7_isFree : ByteArray := prog_9_method_10_code
def yX7_isFree : MethodName := ⟨RX7, "isFree", "(I)Z"⟩
abbrev cX7_beside : ByteArray := prog_9_method_11_code
def yX7_beside : MethodName := ⟨RX7, "beside", "(II)I"⟩
abbrev cX7_glue : ByteArray := prog_9_method_12_code
def yX7_glue : MethodName := ⟨RX7, "glue", "(II)I"⟩
abbrev cX7_heldAt : ByteArray := prog_9_method_13_code
def yX7_heldAt : MethodName := ⟨RX7, "heldAt", "(III)I"⟩
abbrev cX7_held : ByteArray := prog_9_method_14_code
def yX7_held : MethodName := ⟨RX7, "held", "(II)I"⟩
abbrev cX7_errorsOf : ByteArray := prog_9_method_15_code
def yX7_errorsOf : MethodName := ⟨RX7, "errorsOf", "(II)I"⟩
abbrev cX7_bricks : ByteArray := prog_9_method_16_code
def yX7_bricks : MethodName := ⟨RX7, "bricks", "()I"⟩
abbrev cX7_standing0 : ByteArray := prog_9_method_17_code
def yX7_standing0 : MethodName := ⟨RX7, "standing0", "()I"⟩
abbrev cX7_fallsBy : ByteArray := prog_9_method_18_code
def yX7_fallsBy : MethodName := ⟨RX7, "fallsBy", "(I)I"⟩
abbrev cX7_kind : ByteArray := prog_9_method_19_code
def yX7_kind : MethodName := ⟨RX7, "kind", "(IIII)I"⟩
abbrev cX7_lay : ByteArray := prog_9_method_20_code
def yX7_lay : MethodName := ⟨RX7, "lay", "(III)I"⟩
abbrev cX7_takeOut : ByteArray := prog_9_method_21_code
def yX7_takeOut : MethodName := ⟨RX7, "takeOut", "(I)I"⟩
abbrev cX7_fits : ByteArray := prog_9_method_22_code
def yX7_fits : MethodName := ⟨RX7, "fits", "(II)Z"⟩
abbrev cX7_choicesAt : ByteArray := prog_9_method_23_code
def yX7_choicesAt : MethodName := ⟨RX7, "choicesAt", "(I)I"⟩
abbrev cX7_growsAt : ByteArray := prog_9_method_24_code
def yX7_growsAt : MethodName := ⟨RX7, "growsAt", "()I"⟩
abbrev cX7_growsWith : ByteArray := prog_9_method_25_code
def yX7_growsWith : MethodName := ⟨RX7, "growsWith", "(I)I"⟩
abbrev cX7_growsBy : ByteArray := prog_9_method_26_code
def yX7_growsBy : MethodName := ⟨RX7, "growsBy", "(I)I"⟩
abbrev cX7_stuckNow : ByteArray := prog_9_method_27_code
def yX7_stuckNow : MethodName := ⟨RX7, "stuckNow", "()I"⟩
abbrev cX7_grow : ByteArray := prog_9_method_28_code
def yX7_grow : MethodName := ⟨RX7, "grow", "(I)I"⟩
abbrev cX7_strength : ByteArray := prog_9_method_29_code
def yX7_strength : MethodName := ⟨RX7, "strength", "(II)I"⟩
abbrev cX7_need : ByteArray := prog_9_method_30_code
def yX7_need : MethodName := ⟨RX7, "need", "(I)I"⟩
abbrev cX7_glueOf : ByteArray := prog_9_method_31_code
def yX7_glueOf : MethodName := ⟨RX7, "glueOf", "(III)I"⟩
abbrev cX7_strengthOf : ByteArray := prog_9_method_32_code
def yX7_strengthOf : MethodName := ⟨RX7, "strengthOf", "(I)I"⟩
abbrev cX7_isNoBrick : ByteArray := prog_9_method_33_code
def yX7_isNoBrick : MethodName := ⟨RX7, "isNoBrick", "(I)Z"⟩
abbrev cX7_brickAt : ByteArray := prog_9_method_34_code
def yX7_brickAt : MethodName := ⟨RX7, "brickAt", "(IZ)I"⟩
abbrev cX7_seed : ByteArray := prog_9_method_35_code
def yX7_seed : MethodName := ⟨RX7, "seed", "()I"⟩
abbrev cX7_hold : ByteArray := prog_9_method_36_code
def yX7_hold : MethodName := ⟨RX7, "hold", "(I)I"⟩
abbrev cX7_allHolds : ByteArray := prog_9_method_37_code
def yX7_allHolds : MethodName := ⟨RX7, "allHolds", "()I"⟩
abbrev cX7_holdAgain : ByteArray := prog_9_method_38_code
def yX7_holdAgain : MethodName := ⟨RX7, "holdAgain", "(I)I"⟩
abbrev cX7_wouldHold : ByteArray := prog_9_method_39_code
def yX7_wouldHold : MethodName := ⟨RX7, "wouldHold", "(III)I"⟩
abbrev cX7_stands : ByteArray := prog_9_method_40_code
def yX7_stands : MethodName := ⟨RX7, "stands", "(I)Z"⟩
abbrev cX7_fallen : ByteArray := prog_9_method_41_code
def yX7_fallen : MethodName := ⟨RX7, "fallen", "()I"⟩
abbrev cX7_falls : ByteArray := prog_9_method_42_code
def yX7_falls : MethodName := ⟨RX7, "falls", "(I)I"⟩
abbrev cX7_errors : ByteArray := prog_9_method_43_code
def yX7_errors : MethodName := ⟨RX7, "errors", "()I"⟩
abbrev cX7_errorsAt : ByteArray := prog_9_method_44_code
def yX7_errorsAt : MethodName := ⟨RX7, "errorsAt", "(I)I"⟩
abbrev cX7_nextPlace : ByteArray := prog_9_method_45_code
def yX7_nextPlace : MethodName := ⟨RX7, "nextPlace", "()I"⟩
abbrev cX7_nextBrick : ByteArray := prog_9_method_46_code
def yX7_nextBrick : MethodName := ⟨RX7, "nextBrick", "()I"⟩
abbrev cX7_choices : ByteArray := prog_9_method_47_code
def yX7_choices : MethodName := ⟨RX7, "choices", "(I)I"⟩
abbrev cX7_stuck : ByteArray := prog_9_method_48_code
def yX7_stuck : MethodName := ⟨RX7, "stuck", "()I"⟩
abbrev cX7_growsTo : ByteArray := prog_9_method_49_code
def yX7_growsTo : MethodName := ⟨RX7, "growsTo", "()I"⟩
abbrev cX7_inRow : ByteArray := prog_9_method_50_code
def yX7_inRow : MethodName := ⟨RX7, "inRow", "(IZ)I"⟩
abbrev cX7_weakest : ByteArray := prog_9_method_51_code
def yX7_weakest : MethodName := ⟨RX7, "weakest", "(I)I"⟩
abbrev cX7_append : ByteArray := prog_9_method_52_code
def yX7_append : MethodName := ⟨RX7, "append", "(C)I"⟩
abbrev cX7_here : ByteArray := prog_9_method_53_code
def yX7_here : MethodName := ⟨RX7, "here", "()I"⟩
abbrev cX7_skips : ByteArray := prog_9_method_54_code
def yX7_skips : MethodName := ⟨RX7, "skips", "(I)Z"⟩
abbrev cX7_figures : ByteArray := prog_9_method_55_code
def yX7_figures : MethodName := ⟨RX7, "figures", "(II)Z"⟩
abbrev cX7_layHere : ByteArray := prog_9_method_56_code
def yX7_layHere : MethodName := ⟨RX7, "layHere", "(I)Z"⟩
abbrev cX7_commandHere : ByteArray := prog_9_method_57_code
def yX7_commandHere : MethodName := ⟨RX7, "commandHere", "()Z"⟩
abbrev cX7_isText : ByteArray := prog_9_method_58_code
def yX7_isText : MethodName := ⟨RX7, "isText", "()Z"⟩
abbrev cX7_carries : ByteArray := prog_9_method_59_code
def yX7_carries : MethodName := ⟨RX7, "carries", "(I)I"⟩
abbrev cX7_commands : ByteArray := prog_9_method_60_code
def yX7_commands : MethodName := ⟨RX7, "commands", "()I"⟩
abbrev cX7_faultPosition : ByteArray := prog_9_method_61_code
def yX7_faultPosition : MethodName := ⟨RX7, "faultPosition", "()I"⟩
abbrev cX7_reason : ByteArray := prog_9_method_62_code
def yX7_reason : MethodName := ⟨RX7, "reason", "(I)I"⟩
abbrev cX7_writes : ByteArray := prog_9_method_63_code
def yX7_writes : MethodName := ⟨RX7, "writes", "(I)V"⟩
abbrev cX7_line : ByteArray := prog_9_method_64_code
def yX7_line : MethodName := ⟨RX7, "line", "(I)I"⟩
abbrev cX7_character : ByteArray := prog_9_method_65_code
def yX7_character : MethodName := ⟨RX7, "character", "(I)C"⟩
abbrev cX7_meanHold : ByteArray := prog_9_method_66_code
def yX7_meanHold : MethodName := ⟨RX7, "meanHold", "()D"⟩
abbrev cX7_standing : ByteArray := prog_9_method_67_code
def yX7_standing : MethodName := ⟨RX7, "standing", "()F"⟩
abbrev cX7_pairs : ByteArray := prog_9_method_68_code
def yX7_pairs : MethodName := ⟨RX7, "pairs", "()I"⟩
abbrev cX7_account : ByteArray := prog_9_method_69_code
def yX7_account : MethodName := ⟨RX7, "account", "(I)I"⟩
abbrev cX7_undo : ByteArray := prog_9_method_70_code
def yX7_undo : MethodName := ⟨RX7, "undo", "()I"⟩
abbrev cX7_save : ByteArray := prog_9_method_71_code
def yX7_save : MethodName := ⟨RX7, "save", "()I"⟩
abbrev cX7_restore : ByteArray := prog_9_method_72_code
def yX7_restore : MethodName := ⟨RX7, "restore", "()I"⟩
def RJx145de : String := "java/io/Serializable"
def TJx145de : u_T := fun k => match k with
  | _ => ("", "", "", false)
def tyJx145de : Nat → FieldType := fun k => match k with
  | _ => .int
def RJx00060 : String := "java/lang/ArrayIndexOutOfBoundsException"
def TJx00060 : u_T := fun k => match k with
  | 0 => ("java/lang/Throwable", "backtrace", "Ljava/lang/Object;", false)
  | 1 => ("java/lang/Throwable", "detailMessage", "Ljava/lang/String;", false)
  | 2 => ("java/lang/Throwable", "cause", "Ljava/lang/Throwable;", false)
  | 3 => ("java/lang/Throwable", "stackTrace", "[Ljava/lang/StackTraceElement;", false)
  | 4 => ("java/lang/Throwable", "depth", "I", false)
  | _ => ("java/lang/Throwable", "suppressedExceptions", "Ljava/util/List;", false)
def tyJx00060 : Nat → FieldType := fun k => match k with
  | 0 => .object "java/lang/Object"
  | 1 => .object "java/lang/String"
  | 2 => .object "java/lang/Throwable"
  | 3 => .array (.object "java/lang/StackTraceElement")
  | 4 => .int
  | _ => .object "java/util/List"
abbrev cJx00060_init_a7421 : ByteArray := prog_12_method_2_code
def yJx00060_init_a7421 : MethodName := ⟨RJx00060, "<init>", "(Ljava/lang/String;)V"⟩
def RJ9 : String := "java/lang/Math"
def TJ9 : u_T := fun k => match k with
  | _ => ("", "", "", false)
def tyJ9 : Nat → FieldType := fun k => match k with
  | _ => .int
abbrev cJ9_min_7cf53 : ByteArray := prog_17_method_69_code
def yJ9_min_7cf53 : MethodName := ⟨RJ9, "min", "(II)I"⟩
def RJ0 : String := "java/lang/String"
def TJ0 : u_T := fun k => match k with
  | 0 => ("java/lang/String", "value", "[B", true)
  | _ => ("java/lang/String", "coder", "B", true)
def tyJ0 : Nat → FieldType := fun k => match k with
  | 0 => .array .byte
  | _ => .byte
def RJ10 : String := "java/lang/System"
def TJ10 : u_T := fun k => match k with
  | _ => ("", "", "", false)
def tyJ10 : Nat → FieldType := fun k => match k with
  | _ => .int
def RL : String := "GluedWallLaw"
abbrev cL_kind : ByteArray := method_3_code
def yL_kind : MethodName := ⟨RL, "kind", "(LGluedWall;IIII[J)I"⟩
abbrev cL_lay : ByteArray := method_4_code
def yL_lay : MethodName := ⟨RL, "lay", "(LGluedWall;III[J)I"⟩
abbrev cL_takeOut : ByteArray := method_5_code
def yL_takeOut : MethodName := ⟨RL, "takeOut", "(LGluedWall;I[J)I"⟩
abbrev cL_grow : ByteArray := method_6_code
def yL_grow : MethodName := ⟨RL, "grow", "(LGluedWall;I[J)I"⟩
abbrev cL_strength : ByteArray := method_7_code
def yL_strength : MethodName := ⟨RL, "strength", "(LGluedWall;II[J)I"⟩
abbrev cL_need : ByteArray := method_8_code
def yL_need : MethodName := ⟨RL, "need", "(LGluedWall;I[J)I"⟩
abbrev cL_glueOf : ByteArray := method_9_code
def yL_glueOf : MethodName := ⟨RL, "glueOf", "(LGluedWall;III[J)I"⟩
abbrev cL_strengthOf : ByteArray := method_10_code
def yL_strengthOf : MethodName := ⟨RL, "strengthOf", "(LGluedWall;I[J)I"⟩
abbrev cL_brickAt : ByteArray := method_11_code
def yL_brickAt : MethodName := ⟨RL, "brickAt", "(LGluedWall;IZ[J)I"⟩
abbrev cL_seed : ByteArray := method_12_code
def yL_seed : MethodName := ⟨RL, "seed", "(LGluedWall;[J)I"⟩
abbrev cL_hold : ByteArray := method_13_code
def yL_hold : MethodName := ⟨RL, "hold", "(LGluedWall;I[J)I"⟩
abbrev cL_holdAgain : ByteArray := method_14_code
def yL_holdAgain : MethodName := ⟨RL, "holdAgain", "(LGluedWall;I[J)I"⟩
abbrev cL_wouldHold : ByteArray := method_15_code
def yL_wouldHold : MethodName := ⟨RL, "wouldHold", "(LGluedWall;III[J)I"⟩
abbrev cL_stands : ByteArray := method_16_code
def yL_stands : MethodName := ⟨RL, "stands", "(LGluedWall;I[J)I"⟩
abbrev cL_falls : ByteArray := method_17_code
def yL_falls : MethodName := ⟨RL, "falls", "(LGluedWall;I[J)I"⟩
abbrev cL_errorsAt : ByteArray := method_18_code
def yL_errorsAt : MethodName := ⟨RL, "errorsAt", "(LGluedWall;I[J)I"⟩
abbrev cL_nextPlace : ByteArray := method_19_code
def yL_nextPlace : MethodName := ⟨RL, "nextPlace", "(LGluedWall;[J)I"⟩
abbrev cL_nextBrick : ByteArray := method_20_code
def yL_nextBrick : MethodName := ⟨RL, "nextBrick", "(LGluedWall;[J)I"⟩
abbrev cL_choices : ByteArray := method_21_code
def yL_choices : MethodName := ⟨RL, "choices", "(LGluedWall;I[J)I"⟩
abbrev cL_inRow : ByteArray := method_22_code
def yL_inRow : MethodName := ⟨RL, "inRow", "(LGluedWall;IZ[J)I"⟩
abbrev cL_weakest : ByteArray := method_23_code
def yL_weakest : MethodName := ⟨RL, "weakest", "(LGluedWall;I[J)I"⟩
abbrev cL_append : ByteArray := method_24_code
def yL_append : MethodName := ⟨RL, "append", "(LGluedWall;C[J)I"⟩
abbrev cL_commands : ByteArray := method_25_code
def yL_commands : MethodName := ⟨RL, "commands", "(LGluedWall;[J)I"⟩
abbrev cL_reason : ByteArray := method_26_code
def yL_reason : MethodName := ⟨RL, "reason", "(LGluedWall;I[J)I"⟩
abbrev cL_line : ByteArray := method_27_code
def yL_line : MethodName := ⟨RL, "line", "(LGluedWall;I[J)I"⟩
abbrev cL_character : ByteArray := method_28_code
def yL_character : MethodName := ⟨RL, "character", "(LGluedWall;I[J)I"⟩
abbrev cL_meanHold : ByteArray := method_29_code
def yL_meanHold : MethodName := ⟨RL, "meanHold", "(LGluedWall;[D)I"⟩
abbrev cL_standing : ByteArray := method_30_code
def yL_standing : MethodName := ⟨RL, "standing", "(LGluedWall;[D)I"⟩
abbrev cL_account : ByteArray := method_31_code
def yL_account : MethodName := ⟨RL, "account", "(LGluedWall;I[J)I"⟩
abbrev cL_undo : ByteArray := method_32_code
def yL_undo : MethodName := ⟨RL, "undo", "(LGluedWall;[J)I"⟩
abbrev cL_restore : ByteArray := method_33_code
def yL_restore : MethodName := ⟨RL, "restore", "(LGluedWall;[J)I"⟩
abbrev cL_law : ByteArray := code
def yL_law : MethodName := ⟨RL, "law", "([I)Z"⟩
abbrev vwCl : List vw_C := [(RJ0, TJ0, 2), (RJx00060, TJx00060, 6), (RX0, TX0, 3), (RX1, TX1, 3), (RX2, TX2, 3), (RX3, TX3, 4), (RX4, TX4, 6), (RX5, TX5, 9), (RX6, TX6, 13), (RX7, TX7, 22)]
end
section
theorem dX0_init_0 : decode cX0_init 0 = .ok (.aload_n 0, 1) := by decide +kernel
theorem dX0_init_1 : decode cX0_init 1 = .ok (.invokespecial 3, 3) := by decide +kernel
theorem dX0_init_4 : decode cX0_init 4 = .ok (.aload_n 0, 1) := by decide +kernel
theorem dX0_init_5 : decode cX0_init 5 = .ok (.bipush 42, 2) := by decide +kernel
theorem dX0_init_7 : decode cX0_init 7 = .ok (.newarray .boolean, 2) := by decide +kernel
theorem dX0_init_9 : decode cX0_init 9 = .ok (.putfield 9, 3) := by decide +kernel
theorem dX0_init_12 : decode cX0_init 12 = .ok (.aload_n 0, 1) := by decide +kernel
theorem dX0_init_13 : decode cX0_init 13 = .ok (.bipush 42, 2) := by decide +kernel
theorem dX0_init_15 : decode cX0_init 15 = .ok (.newarray .int, 2) := by decide +kernel
theorem dX0_init_17 : decode cX0_init 17 = .ok (.putfield 15, 3) := by decide +kernel
theorem dX0_init_20 : decode cX0_init 20 = .ok (.aload_n 0, 1) := by decide +kernel
theorem dX0_init_21 : decode cX0_init 21 = .ok (.iconst 0, 1) := by decide +kernel
theorem dX0_init_22 : decode cX0_init 22 = .ok (.putfield 19, 3) := by decide +kernel
theorem dX0_init_25 : decode cX0_init 25 = .ok (.return_, 1) := by decide +kernel
theorem dX0_countWithout_0 : decode cX0_countWithout 0 = .ok (.iconst 0, 1) := by decide +kernel
theorem dX0_countWithout_1 : decode cX0_countWithout 1 = .ok (.istore_n 3, 1) := by decide +kernel
theorem dX0_countWithout_2 : decode cX0_countWithout 2 = .ok (.iload_n 3, 1) := by decide +kernel
theorem dX0_countWithout_3 : decode cX0_countWithout 3 = .ok (.bipush 42, 2) := by decide +kernel
theorem dX0_countWithout_5 : decode cX0_countWithout 5 = .ok (.if_icmp .ge 16, 3) := by decide +kernel
theorem dX0_countWithout_8 : decode cX0_countWithout 8 = .ok (.aload_n 0, 1) := by decide +kernel
theorem dX0_countWithout_9 : decode cX0_countWithout 9 = .ok (.getfield 9, 3) := by decide +kernel
theorem dX0_countWithout_12 : decode cX0_countWithout 12 = .ok (.iload_n 3, 1) := by decide +kernel
theorem dX0_countWithout_13 : decode cX0_countWithout 13 = .ok (.iconst 0, 1) := by decide +kernel
theorem dX0_countWithout_14 : decode cX0_countWithout 14 = .ok (.bastore, 1) := by decide +kernel
theorem dX0_countWithout_15 : decode cX0_countWithout 15 = .ok (.iinc 3 1, 3) := by decide +kernel
theorem dX0_countWithout_18 : decode cX0_countWithout 18 = .ok (.goto (-16), 3) := by decide +kernel
theorem dX0_countWithout_21 : decode cX0_countWithout 21 = .ok (.aload_n 0, 1) := by decide +kernel
theorem dX0_countWithout_22 : decode cX0_countWithout 22 = .ok (.iconst 0, 1) := by decide +kernel
theorem dX0_countWithout_23 : decode cX0_countWithout 23 = .ok (.putfield 19, 3) := by decide +kernel
theorem dX0_countWithout_26 : decode cX0_countWithout 26 = .ok (.aload_n 1, 1) := by decide +kernel
theorem dX0_countWithout_27 : decode cX0_countWithout 27 = .ok (.getfield 23, 3) := by decide +kernel
theorem dX0_countWithout_30 : decode cX0_countWithout 30 = .ok (.iload_n 2, 1) := by decide +kernel
theorem dX0_countWithout_31 : decode cX0_countWithout 31 = .ok (.if_icmp .eq 11, 3) := by decide +kernel
theorem dX0_countWithout_34 : decode cX0_countWithout 34 = .ok (.aload_n 0, 1) := by decide +kernel
theorem dX0_countWithout_35 : decode cX0_countWithout 35 = .ok (.aload_n 1, 1) := by decide +kernel
theorem dX0_countWithout_36 : decode cX0_countWithout 36 = .ok (.getfield 23, 3) := by decide +kernel
theorem dX0_countWithout_39 : decode cX0_countWithout 39 = .ok (.invokevirtual 28, 3) := by decide +kernel
theorem dX0_countWithout_42 : decode cX0_countWithout 42 = .ok (.iconst 0, 1) := by decide +kernel
theorem dX0_countWithout_43 : decode cX0_countWithout 43 = .ok (.istore_n 3, 1) := by decide +kernel
theorem dX0_countWithout_44 : decode cX0_countWithout 44 = .ok (.iload_n 3, 1) := by decide +kernel
theorem dX0_countWithout_45 : decode cX0_countWithout 45 = .ok (.aload_n 0, 1) := by decide +kernel
theorem dX0_countWithout_46 : decode cX0_countWithout 46 = .ok (.getfield 19, 3) := by decide +kernel
theorem dX0_countWithout_49 : decode cX0_countWithout 49 = .ok (.if_icmp .ge 70, 3) := by decide +kernel
theorem dX0_countWithout_52 : decode cX0_countWithout 52 = .ok (.iload_n 3, 1) := by decide +kernel
theorem dX0_countWithout_53 : decode cX0_countWithout 53 = .ok (.bipush 42, 2) := by decide +kernel
theorem dX0_countWithout_55 : decode cX0_countWithout 55 = .ok (.if_icmp .ge 64, 3) := by decide +kernel
theorem dX0_countWithout_58 : decode cX0_countWithout 58 = .ok (.aload_n 0, 1) := by decide +kernel
theorem dX0_countWithout_59 : decode cX0_countWithout 59 = .ok (.getfield 15, 3) := by decide +kernel
theorem dX0_countWithout_62 : decode cX0_countWithout 62 = .ok (.iload_n 3, 1) := by decide +kernel
theorem dX0_countWithout_63 : decode cX0_countWithout 63 = .ok (.iaload, 1) := by decide +kernel
theorem dX0_countWithout_64 : decode cX0_countWithout 64 = .ok (.istore 4, 2) := by decide +kernel
theorem dX0_countWithout_66 : decode cX0_countWithout 66 = .ok (.iconst 0, 1) := by decide +kernel
theorem dX0_countWithout_67 : decode cX0_countWithout 67 = .ok (.istore 5, 2) := by decide +kernel
theorem dX0_countWithout_69 : decode cX0_countWithout 69 = .ok (.iload 5, 2) := by decide +kernel
theorem dX0_countWithout_71 : decode cX0_countWithout 71 = .ok (.iconst 4, 1) := by decide +kernel
theorem dX0_countWithout_72 : decode cX0_countWithout 72 = .ok (.if_icmp .ge 41, 3) := by decide +kernel
theorem dX0_countWithout_75 : decode cX0_countWithout 75 = .ok (.iload 4, 2) := by decide +kernel
theorem dX0_countWithout_77 : decode cX0_countWithout 77 = .ok (.iload 5, 2) := by decide +kernel
theorem dX0_countWithout_79 : decode cX0_countWithout 79 = .ok (.invokestatic 32, 3) := by decide +kernel
theorem dX0_countWithout_82 : decode cX0_countWithout 82 = .ok (.istore 6, 2) := by decide +kernel
theorem dX0_countWithout_84 : decode cX0_countWithout 84 = .ok (.iload 6, 2) := by decide +kernel
theorem dX0_countWithout_86 : decode cX0_countWithout 86 = .ok (.iload_n 2, 1) := by decide +kernel
theorem dX0_countWithout_87 : decode cX0_countWithout 87 = .ok (.if_icmp .eq 20, 3) := by decide +kernel
theorem dX0_countWithout_90 : decode cX0_countWithout 90 = .ok (.aload_n 1, 1) := by decide +kernel
theorem dX0_countWithout_91 : decode cX0_countWithout 91 = .ok (.iload 4, 2) := by decide +kernel
theorem dX0_countWithout_93 : decode cX0_countWithout 93 = .ok (.iload 5, 2) := by decide +kernel
theorem dX0_countWithout_95 : decode cX0_countWithout 95 = .ok (.invokevirtual 36, 3) := by decide +kernel
theorem dX0_countWithout_98 : decode cX0_countWithout 98 = .ok (.ifCond .le 9, 3) := by decide +kernel
theorem dX0_countWithout_101 : decode cX0_countWithout 101 = .ok (.aload_n 0, 1) := by decide +kernel
theorem dX0_countWithout_102 : decode cX0_countWithout 102 = .ok (.iload 6, 2) := by decide +kernel
theorem dX0_countWithout_104 : decode cX0_countWithout 104 = .ok (.invokevirtual 28, 3) := by decide +kernel
theorem dX0_countWithout_107 : decode cX0_countWithout 107 = .ok (.iinc 5 1, 3) := by decide +kernel
theorem dX0_countWithout_110 : decode cX0_countWithout 110 = .ok (.goto (-41), 3) := by decide +kernel
theorem dX0_countWithout_113 : decode cX0_countWithout 113 = .ok (.iinc 3 1, 3) := by decide +kernel
theorem dX0_countWithout_116 : decode cX0_countWithout 116 = .ok (.goto (-72), 3) := by decide +kernel
theorem dX0_countWithout_119 : decode cX0_countWithout 119 = .ok (.aload_n 0, 1) := by decide +kernel
theorem dX0_countWithout_120 : decode cX0_countWithout 120 = .ok (.getfield 19, 3) := by decide +kernel
theorem dX0_countWithout_123 : decode cX0_countWithout 123 = .ok (.ireturn, 1) := by decide +kernel
theorem dX0_isReached_0 : decode cX0_isReached 0 = .ok (.iload_n 1, 1) := by decide +kernel
theorem dX0_isReached_1 : decode cX0_isReached 1 = .ok (.invokestatic 39, 3) := by decide +kernel
theorem dX0_isReached_4 : decode cX0_isReached 4 = .ok (.ifCond .eq 16, 3) := by decide +kernel
theorem dX0_isReached_7 : decode cX0_isReached 7 = .ok (.aload_n 0, 1) := by decide +kernel
theorem dX0_isReached_8 : decode cX0_isReached 8 = .ok (.getfield 9, 3) := by decide +kernel
theorem dX0_isReached_11 : decode cX0_isReached 11 = .ok (.iload_n 1, 1) := by decide +kernel
theorem dX0_isReached_12 : decode cX0_isReached 12 = .ok (.baload, 1) := by decide +kernel
theorem dX0_isReached_13 : decode cX0_isReached 13 = .ok (.ifCond .eq 7, 3) := by decide +kernel
theorem dX0_isReached_16 : decode cX0_isReached 16 = .ok (.iconst 1, 1) := by decide +kernel
theorem dX0_isReached_17 : decode cX0_isReached 17 = .ok (.goto 4, 3) := by decide +kernel
theorem dX0_isReached_20 : decode cX0_isReached 20 = .ok (.iconst 0, 1) := by decide +kernel
theorem dX0_isReached_21 : decode cX0_isReached 21 = .ok (.ireturn, 1) := by decide +kernel
theorem dX0_fallingWithout_0 : decode cX0_fallingWithout 0 = .ok (.aload_n 0, 1) := by decide +kernel
theorem dX0_fallingWithout_1 : decode cX0_fallingWithout 1 = .ok (.aload_n 1, 1) := by decide +kernel
theorem dX0_fallingWithout_2 : decode cX0_fallingWithout 2 = .ok (.iconst (-1), 1) := by decide +kernel
theorem dX0_fallingWithout_3 : decode cX0_fallingWithout 3 = .ok (.invokevirtual 43, 3) := by decide +kernel
theorem dX0_fallingWithout_6 : decode cX0_fallingWithout 6 = .ok (.istore_n 3, 1) := by decide +kernel
theorem dX0_fallingWithout_7 : decode cX0_fallingWithout 7 = .ok (.aload_n 0, 1) := by decide +kernel
theorem dX0_fallingWithout_8 : decode cX0_fallingWithout 8 = .ok (.iload_n 2, 1) := by decide +kernel
theorem dX0_fallingWithout_9 : decode cX0_fallingWithout 9 = .ok (.invokevirtual 47, 3) := by decide +kernel
theorem dX0_fallingWithout_12 : decode cX0_fallingWithout 12 = .ok (.ifCond .ne 5, 3) := by decide +kernel
theorem dX0_fallingWithout_15 : decode cX0_fallingWithout 15 = .ok (.iconst 0, 1) := by decide +kernel
theorem dX0_fallingWithout_16 : decode cX0_fallingWithout 16 = .ok (.ireturn, 1) := by decide +kernel
theorem dX0_fallingWithout_17 : decode cX0_fallingWithout 17 = .ok (.iload_n 3, 1) := by decide +kernel
theorem dX0_fallingWithout_18 : decode cX0_fallingWithout 18 = .ok (.iconst 1, 1) := by decide +kernel
theorem dX0_fallingWithout_19 : decode cX0_fallingWithout 19 = .ok (.isub, 1) := by decide +kernel
theorem dX0_fallingWithout_20 : decode cX0_fallingWithout 20 = .ok (.aload_n 0, 1) := by decide +kernel
theorem dX0_fallingWithout_21 : decode cX0_fallingWithout 21 = .ok (.aload_n 1, 1) := by decide +kernel
theorem dX0_fallingWithout_22 : decode cX0_fallingWithout 22 = .ok (.iload_n 2, 1) := by decide +kernel
theorem dX0_fallingWithout_23 : decode cX0_fallingWithout 23 = .ok (.invokevirtual 43, 3) := by decide +kernel
theorem dX0_fallingWithout_26 : decode cX0_fallingWithout 26 = .ok (.isub, 1) := by decide +kernel
theorem dX0_fallingWithout_27 : decode cX0_fallingWithout 27 = .ok (.ireturn, 1) := by decide +kernel
theorem dX0_reach_0 : decode cX0_reach 0 = .ok (.iload_n 1, 1) := by decide +kernel
theorem dX0_reach_1 : decode cX0_reach 1 = .ok (.invokestatic 39, 3) := by decide +kernel
theorem dX0_reach_4 : decode cX0_reach 4 = .ok (.ifCond .eq 48, 3) := by decide +kernel
theorem dX0_reach_7 : decode cX0_reach 7 = .ok (.aload_n 0, 1) := by decide +kernel
theorem dX0_reach_8 : decode cX0_reach 8 = .ok (.getfield 9, 3) := by decide +kernel
theorem dX0_reach_11 : decode cX0_reach 11 = .ok (.iload_n 1, 1) := by decide +kernel
theorem dX0_reach_12 : decode cX0_reach 12 = .ok (.baload, 1) := by decide +kernel
theorem dX0_reach_13 : decode cX0_reach 13 = .ok (.ifCond .ne 39, 3) := by decide +kernel
theorem dX0_reach_16 : decode cX0_reach 16 = .ok (.aload_n 0, 1) := by decide +kernel
theorem dX0_reach_17 : decode cX0_reach 17 = .ok (.getfield 19, 3) := by decide +kernel
theorem dX0_reach_20 : decode cX0_reach 20 = .ok (.bipush 42, 2) := by decide +kernel
theorem dX0_reach_22 : decode cX0_reach 22 = .ok (.if_icmp .ge 30, 3) := by decide +kernel
theorem dX0_reach_25 : decode cX0_reach 25 = .ok (.aload_n 0, 1) := by decide +kernel
theorem dX0_reach_26 : decode cX0_reach 26 = .ok (.getfield 9, 3) := by decide +kernel
theorem dX0_reach_29 : decode cX0_reach 29 = .ok (.iload_n 1, 1) := by decide +kernel
theorem dX0_reach_30 : decode cX0_reach 30 = .ok (.iconst 1, 1) := by decide +kernel
theorem dX0_reach_31 : decode cX0_reach 31 = .ok (.bastore, 1) := by decide +kernel
theorem dX0_reach_32 : decode cX0_reach 32 = .ok (.aload_n 0, 1) := by decide +kernel
theorem dX0_reach_33 : decode cX0_reach 33 = .ok (.getfield 15, 3) := by decide +kernel
theorem dX0_reach_36 : decode cX0_reach 36 = .ok (.aload_n 0, 1) := by decide +kernel
theorem dX0_reach_37 : decode cX0_reach 37 = .ok (.getfield 19, 3) := by decide +kernel
theorem dX0_reach_40 : decode cX0_reach 40 = .ok (.iload_n 1, 1) := by decide +kernel
theorem dX0_reach_41 : decode cX0_reach 41 = .ok (.iastore, 1) := by decide +kernel
theorem dX0_reach_42 : decode cX0_reach 42 = .ok (.aload_n 0, 1) := by decide +kernel
theorem dX0_reach_43 : decode cX0_reach 43 = .ok (.dup, 1) := by decide +kernel
theorem dX0_reach_44 : decode cX0_reach 44 = .ok (.getfield 19, 3) := by decide +kernel
theorem dX0_reach_47 : decode cX0_reach 47 = .ok (.iconst 1, 1) := by decide +kernel
theorem dX0_reach_48 : decode cX0_reach 48 = .ok (.iadd, 1) := by decide +kernel
theorem dX0_reach_49 : decode cX0_reach 49 = .ok (.putfield 19, 3) := by decide +kernel
theorem dX0_reach_52 : decode cX0_reach 52 = .ok (.return_, 1) := by decide +kernel
theorem dX1_init_0 : decode cX1_init 0 = .ok (.aload_n 0, 1) := by decide +kernel
theorem dX1_init_1 : decode cX1_init 1 = .ok (.invokespecial 3, 3) := by decide +kernel
theorem dX1_init_4 : decode cX1_init 4 = .ok (.aload_n 0, 1) := by decide +kernel
theorem dX1_init_5 : decode cX1_init 5 = .ok (.iconst 4, 1) := by decide +kernel
theorem dX1_init_6 : decode cX1_init 6 = .ok (.newarray .int, 2) := by decide +kernel
theorem dX1_init_8 : decode cX1_init 8 = .ok (.putfield 9, 3) := by decide +kernel
theorem dX1_init_11 : decode cX1_init 11 = .ok (.aload_n 0, 1) := by decide +kernel
theorem dX1_init_12 : decode cX1_init 12 = .ok (.iconst (-1), 1) := by decide +kernel
theorem dX1_init_13 : decode cX1_init 13 = .ok (.putfield 15, 3) := by decide +kernel
theorem dX1_init_16 : decode cX1_init 16 = .ok (.aload_n 0, 1) := by decide +kernel
theorem dX1_init_17 : decode cX1_init 17 = .ok (.iconst (-1), 1) := by decide +kernel
theorem dX1_init_18 : decode cX1_init 18 = .ok (.putfield 19, 3) := by decide +kernel
theorem dX1_init_21 : decode cX1_init 21 = .ok (.return_, 1) := by decide +kernel
theorem dX1_findFrom_0 : decode cX1_findFrom 0 = .ok (.iload_n 2, 1) := by decide +kernel
theorem dX1_findFrom_1 : decode cX1_findFrom 1 = .ok (.ifCond .ge 7, 3) := by decide +kernel
theorem dX1_findFrom_4 : decode cX1_findFrom 4 = .ok (.iconst 0, 1) := by decide +kernel
theorem dX1_findFrom_5 : decode cX1_findFrom 5 = .ok (.goto 4, 3) := by decide +kernel
theorem dX1_findFrom_8 : decode cX1_findFrom 8 = .ok (.iload_n 2, 1) := by decide +kernel
theorem dX1_findFrom_9 : decode cX1_findFrom 9 = .ok (.istore_n 3, 1) := by decide +kernel
theorem dX1_findFrom_10 : decode cX1_findFrom 10 = .ok (.iload_n 3, 1) := by decide +kernel
theorem dX1_findFrom_11 : decode cX1_findFrom 11 = .ok (.bipush 42, 2) := by decide +kernel
theorem dX1_findFrom_13 : decode cX1_findFrom 13 = .ok (.if_icmp .ge 36, 3) := by decide +kernel
theorem dX1_findFrom_16 : decode cX1_findFrom 16 = .ok (.aload_n 0, 1) := by decide +kernel
theorem dX1_findFrom_17 : decode cX1_findFrom 17 = .ok (.aload_n 1, 1) := by decide +kernel
theorem dX1_findFrom_18 : decode cX1_findFrom 18 = .ok (.iload_n 3, 1) := by decide +kernel
theorem dX1_findFrom_19 : decode cX1_findFrom 19 = .ok (.invokevirtual 22, 3) := by decide +kernel
theorem dX1_findFrom_22 : decode cX1_findFrom 22 = .ok (.istore 4, 2) := by decide +kernel
theorem dX1_findFrom_24 : decode cX1_findFrom 24 = .ok (.iload 4, 2) := by decide +kernel
theorem dX1_findFrom_26 : decode cX1_findFrom 26 = .ok (.iconst (-1), 1) := by decide +kernel
theorem dX1_findFrom_27 : decode cX1_findFrom 27 = .ok (.if_icmp .eq 16, 3) := by decide +kernel
theorem dX1_findFrom_30 : decode cX1_findFrom 30 = .ok (.aload_n 0, 1) := by decide +kernel
theorem dX1_findFrom_31 : decode cX1_findFrom 31 = .ok (.iload_n 3, 1) := by decide +kernel
theorem dX1_findFrom_32 : decode cX1_findFrom 32 = .ok (.putfield 15, 3) := by decide +kernel
theorem dX1_findFrom_35 : decode cX1_findFrom 35 = .ok (.aload_n 0, 1) := by decide +kernel
theorem dX1_findFrom_36 : decode cX1_findFrom 36 = .ok (.iload 4, 2) := by decide +kernel
theorem dX1_findFrom_38 : decode cX1_findFrom 38 = .ok (.putfield 19, 3) := by decide +kernel
theorem dX1_findFrom_41 : decode cX1_findFrom 41 = .ok (.iconst 1, 1) := by decide +kernel
theorem dX1_findFrom_42 : decode cX1_findFrom 42 = .ok (.ireturn, 1) := by decide +kernel
theorem dX1_findFrom_43 : decode cX1_findFrom 43 = .ok (.iinc 3 1, 3) := by decide +kernel
theorem dX1_findFrom_46 : decode cX1_findFrom 46 = .ok (.goto (-36), 3) := by decide +kernel
theorem dX1_findFrom_49 : decode cX1_findFrom 49 = .ok (.iconst 0, 1) := by decide +kernel
theorem dX1_findFrom_50 : decode cX1_findFrom 50 = .ok (.ireturn, 1) := by decide +kernel
theorem dX1_letGrow_0 : decode cX1_letGrow 0 = .ok (.iconst 0, 1) := by decide +kernel
theorem dX1_letGrow_1 : decode cX1_letGrow 1 = .ok (.istore_n 3, 1) := by decide +kernel
theorem dX1_letGrow_2 : decode cX1_letGrow 2 = .ok (.iconst 0, 1) := by decide +kernel
theorem dX1_letGrow_3 : decode cX1_letGrow 3 = .ok (.istore 4, 2) := by decide +kernel
theorem dX1_letGrow_5 : decode cX1_letGrow 5 = .ok (.iload 4, 2) := by decide +kernel
theorem dX1_letGrow_7 : decode cX1_letGrow 7 = .ok (.iload_n 2, 1) := by decide +kernel
theorem dX1_letGrow_8 : decode cX1_letGrow 8 = .ok (.if_icmp .ge 48, 3) := by decide +kernel
theorem dX1_letGrow_11 : decode cX1_letGrow 11 = .ok (.aload_n 0, 1) := by decide +kernel
theorem dX1_letGrow_12 : decode cX1_letGrow 12 = .ok (.aload_n 1, 1) := by decide +kernel
theorem dX1_letGrow_13 : decode cX1_letGrow 13 = .ok (.iload_n 3, 1) := by decide +kernel
theorem dX1_letGrow_14 : decode cX1_letGrow 14 = .ok (.invokevirtual 26, 3) := by decide +kernel
theorem dX1_letGrow_17 : decode cX1_letGrow 17 = .ok (.ifCond .eq 39, 3) := by decide +kernel
theorem dX1_letGrow_20 : decode cX1_letGrow 20 = .ok (.aload_n 1, 1) := by decide +kernel
theorem dX1_letGrow_21 : decode cX1_letGrow 21 = .ok (.aload_n 0, 1) := by decide +kernel
theorem dX1_letGrow_22 : decode cX1_letGrow 22 = .ok (.getfield 15, 3) := by decide +kernel
theorem dX1_letGrow_25 : decode cX1_letGrow 25 = .ok (.aload_n 0, 1) := by decide +kernel
theorem dX1_letGrow_26 : decode cX1_letGrow 26 = .ok (.getfield 19, 3) := by decide +kernel
theorem dX1_letGrow_29 : decode cX1_letGrow 29 = .ok (.invokevirtual 30, 3) := by decide +kernel
theorem dX1_letGrow_32 : decode cX1_letGrow 32 = .ok (.aload_n 1, 1) := by decide +kernel
theorem dX1_letGrow_33 : decode cX1_letGrow 33 = .ok (.dup, 1) := by decide +kernel
theorem dX1_letGrow_34 : decode cX1_letGrow 34 = .ok (.getfield 36, 3) := by decide +kernel
theorem dX1_letGrow_37 : decode cX1_letGrow 37 = .ok (.iconst 1, 1) := by decide +kernel
theorem dX1_letGrow_38 : decode cX1_letGrow 38 = .ok (.iadd, 1) := by decide +kernel
theorem dX1_letGrow_39 : decode cX1_letGrow 39 = .ok (.putfield 36, 3) := by decide +kernel
theorem dX1_letGrow_42 : decode cX1_letGrow 42 = .ok (.iinc 4 1, 3) := by decide +kernel
theorem dX1_letGrow_45 : decode cX1_letGrow 45 = .ok (.aload_n 0, 1) := by decide +kernel
theorem dX1_letGrow_46 : decode cX1_letGrow 46 = .ok (.getfield 15, 3) := by decide +kernel
theorem dX1_letGrow_49 : decode cX1_letGrow 49 = .ok (.bipush 7, 2) := by decide +kernel
theorem dX1_letGrow_51 : decode cX1_letGrow 51 = .ok (.isub, 1) := by decide +kernel
theorem dX1_letGrow_52 : decode cX1_letGrow 52 = .ok (.istore_n 3, 1) := by decide +kernel
theorem dX1_letGrow_53 : decode cX1_letGrow 53 = .ok (.goto (-48), 3) := by decide +kernel
theorem dX1_letGrow_56 : decode cX1_letGrow 56 = .ok (.iload 4, 2) := by decide +kernel
theorem dX1_letGrow_58 : decode cX1_letGrow 58 = .ok (.ireturn, 1) := by decide +kernel
theorem dX1_choicesFor_0 : decode cX1_choicesFor 0 = .ok (.aload_n 0, 1) := by decide +kernel
theorem dX1_choicesFor_1 : decode cX1_choicesFor 1 = .ok (.aload_n 1, 1) := by decide +kernel
theorem dX1_choicesFor_2 : decode cX1_choicesFor 2 = .ok (.iload_n 2, 1) := by decide +kernel
theorem dX1_choicesFor_3 : decode cX1_choicesFor 3 = .ok (.invokevirtual 39, 3) := by decide +kernel
theorem dX1_choicesFor_6 : decode cX1_choicesFor 6 = .ok (.pop, 1) := by decide +kernel
theorem dX1_choicesFor_7 : decode cX1_choicesFor 7 = .ok (.iconst 0, 1) := by decide +kernel
theorem dX1_choicesFor_8 : decode cX1_choicesFor 8 = .ok (.istore_n 3, 1) := by decide +kernel
theorem dX1_choicesFor_9 : decode cX1_choicesFor 9 = .ok (.iconst 0, 1) := by decide +kernel
theorem dX1_choicesFor_10 : decode cX1_choicesFor 10 = .ok (.istore 4, 2) := by decide +kernel
theorem dX1_choicesFor_12 : decode cX1_choicesFor 12 = .ok (.iload 4, 2) := by decide +kernel
theorem dX1_choicesFor_14 : decode cX1_choicesFor 14 = .ok (.aload_n 1, 1) := by decide +kernel
theorem dX1_choicesFor_15 : decode cX1_choicesFor 15 = .ok (.getfield 42, 3) := by decide +kernel
theorem dX1_choicesFor_18 : decode cX1_choicesFor 18 = .ok (.iconst 4, 1) := by decide +kernel
theorem dX1_choicesFor_19 : decode cX1_choicesFor 19 = .ok (.imul, 1) := by decide +kernel
theorem dX1_choicesFor_20 : decode cX1_choicesFor 20 = .ok (.if_icmp .ge 26, 3) := by decide +kernel
theorem dX1_choicesFor_23 : decode cX1_choicesFor 23 = .ok (.aload_n 0, 1) := by decide +kernel
theorem dX1_choicesFor_24 : decode cX1_choicesFor 24 = .ok (.aload_n 1, 1) := by decide +kernel
theorem dX1_choicesFor_25 : decode cX1_choicesFor 25 = .ok (.iload 4, 2) := by decide +kernel
theorem dX1_choicesFor_27 : decode cX1_choicesFor 27 = .ok (.invokevirtual 45, 3) := by decide +kernel
theorem dX1_choicesFor_30 : decode cX1_choicesFor 30 = .ok (.aload_n 1, 1) := by decide +kernel
theorem dX1_choicesFor_31 : decode cX1_choicesFor 31 = .ok (.getfield 48, 3) := by decide +kernel
theorem dX1_choicesFor_34 : decode cX1_choicesFor 34 = .ok (.if_icmp .lt 6, 3) := by decide +kernel
theorem dX1_choicesFor_37 : decode cX1_choicesFor 37 = .ok (.iinc 3 1, 3) := by decide +kernel
theorem dX1_choicesFor_40 : decode cX1_choicesFor 40 = .ok (.iinc 4 1, 3) := by decide +kernel
theorem dX1_choicesFor_43 : decode cX1_choicesFor 43 = .ok (.goto (-31), 3) := by decide +kernel
theorem dX1_choicesFor_46 : decode cX1_choicesFor 46 = .ok (.iload_n 3, 1) := by decide +kernel
theorem dX1_choicesFor_47 : decode cX1_choicesFor 47 = .ok (.ireturn, 1) := by decide +kernel
theorem dX1_stuckPlaces_0 : decode cX1_stuckPlaces 0 = .ok (.iconst 0, 1) := by decide +kernel
theorem dX1_stuckPlaces_1 : decode cX1_stuckPlaces 1 = .ok (.istore_n 2, 1) := by decide +kernel
theorem dX1_stuckPlaces_2 : decode cX1_stuckPlaces 2 = .ok (.iconst 0, 1) := by decide +kernel
theorem dX1_stuckPlaces_3 : decode cX1_stuckPlaces 3 = .ok (.istore_n 3, 1) := by decide +kernel
theorem dX1_stuckPlaces_4 : decode cX1_stuckPlaces 4 = .ok (.iload_n 3, 1) := by decide +kernel
theorem dX1_stuckPlaces_5 : decode cX1_stuckPlaces 5 = .ok (.bipush 42, 2) := by decide +kernel
theorem dX1_stuckPlaces_7 : decode cX1_stuckPlaces 7 = .ok (.if_icmp .ge 39, 3) := by decide +kernel
theorem dX1_stuckPlaces_10 : decode cX1_stuckPlaces 10 = .ok (.aload_n 1, 1) := by decide +kernel
theorem dX1_stuckPlaces_11 : decode cX1_stuckPlaces 11 = .ok (.iload_n 3, 1) := by decide +kernel
theorem dX1_stuckPlaces_12 : decode cX1_stuckPlaces 12 = .ok (.invokevirtual 51, 3) := by decide +kernel
theorem dX1_stuckPlaces_15 : decode cX1_stuckPlaces 15 = .ok (.ifCond .eq 25, 3) := by decide +kernel
theorem dX1_stuckPlaces_18 : decode cX1_stuckPlaces 18 = .ok (.aload_n 0, 1) := by decide +kernel
theorem dX1_stuckPlaces_19 : decode cX1_stuckPlaces 19 = .ok (.aload_n 1, 1) := by decide +kernel
theorem dX1_stuckPlaces_20 : decode cX1_stuckPlaces 20 = .ok (.iload_n 3, 1) := by decide +kernel
theorem dX1_stuckPlaces_21 : decode cX1_stuckPlaces 21 = .ok (.invokevirtual 39, 3) := by decide +kernel
theorem dX1_stuckPlaces_24 : decode cX1_stuckPlaces 24 = .ok (.ifCond .eq 16, 3) := by decide +kernel
theorem dX1_stuckPlaces_27 : decode cX1_stuckPlaces 27 = .ok (.aload_n 0, 1) := by decide +kernel
theorem dX1_stuckPlaces_28 : decode cX1_stuckPlaces 28 = .ok (.aload_n 1, 1) := by decide +kernel
theorem dX1_stuckPlaces_29 : decode cX1_stuckPlaces 29 = .ok (.iload_n 3, 1) := by decide +kernel
theorem dX1_stuckPlaces_30 : decode cX1_stuckPlaces 30 = .ok (.invokevirtual 22, 3) := by decide +kernel
theorem dX1_stuckPlaces_33 : decode cX1_stuckPlaces 33 = .ok (.iconst (-1), 1) := by decide +kernel
theorem dX1_stuckPlaces_34 : decode cX1_stuckPlaces 34 = .ok (.if_icmp .ne 6, 3) := by decide +kernel
theorem dX1_stuckPlaces_37 : decode cX1_stuckPlaces 37 = .ok (.iinc 2 1, 3) := by decide +kernel
theorem dX1_stuckPlaces_40 : decode cX1_stuckPlaces 40 = .ok (.iinc 3 1, 3) := by decide +kernel
theorem dX1_stuckPlaces_43 : decode cX1_stuckPlaces 43 = .ok (.goto (-39), 3) := by decide +kernel
theorem dX1_stuckPlaces_46 : decode cX1_stuckPlaces 46 = .ok (.iload_n 2, 1) := by decide +kernel
theorem dX1_stuckPlaces_47 : decode cX1_stuckPlaces 47 = .ok (.ireturn, 1) := by decide +kernel
theorem dX1_bestFor_0 : decode cX1_bestFor 0 = .ok (.aload_n 1, 1) := by decide +kernel
theorem dX1_bestFor_1 : decode cX1_bestFor 1 = .ok (.iload_n 2, 1) := by decide +kernel
theorem dX1_bestFor_2 : decode cX1_bestFor 2 = .ok (.invokevirtual 51, 3) := by decide +kernel
theorem dX1_bestFor_5 : decode cX1_bestFor 5 = .ok (.ifCond .eq 12, 3) := by decide +kernel
theorem dX1_bestFor_8 : decode cX1_bestFor 8 = .ok (.aload_n 0, 1) := by decide +kernel
theorem dX1_bestFor_9 : decode cX1_bestFor 9 = .ok (.aload_n 1, 1) := by decide +kernel
theorem dX1_bestFor_10 : decode cX1_bestFor 10 = .ok (.iload_n 2, 1) := by decide +kernel
theorem dX1_bestFor_11 : decode cX1_bestFor 11 = .ok (.invokevirtual 39, 3) := by decide +kernel
theorem dX1_bestFor_14 : decode cX1_bestFor 14 = .ok (.ifCond .ne 5, 3) := by decide +kernel
theorem dX1_bestFor_17 : decode cX1_bestFor 17 = .ok (.iconst (-1), 1) := by decide +kernel
theorem dX1_bestFor_18 : decode cX1_bestFor 18 = .ok (.ireturn, 1) := by decide +kernel
theorem dX1_bestFor_19 : decode cX1_bestFor 19 = .ok (.iconst (-1), 1) := by decide +kernel
theorem dX1_bestFor_20 : decode cX1_bestFor 20 = .ok (.istore_n 3, 1) := by decide +kernel
theorem dX1_bestFor_21 : decode cX1_bestFor 21 = .ok (.aload_n 1, 1) := by decide +kernel
theorem dX1_bestFor_22 : decode cX1_bestFor 22 = .ok (.getfield 48, 3) := by decide +kernel
theorem dX1_bestFor_25 : decode cX1_bestFor 25 = .ok (.iconst 1, 1) := by decide +kernel
theorem dX1_bestFor_26 : decode cX1_bestFor 26 = .ok (.isub, 1) := by decide +kernel
theorem dX1_bestFor_27 : decode cX1_bestFor 27 = .ok (.istore 4, 2) := by decide +kernel
theorem dX1_bestFor_29 : decode cX1_bestFor 29 = .ok (.iconst 0, 1) := by decide +kernel
theorem dX1_bestFor_30 : decode cX1_bestFor 30 = .ok (.istore 5, 2) := by decide +kernel
theorem dX1_bestFor_32 : decode cX1_bestFor 32 = .ok (.iload 5, 2) := by decide +kernel
theorem dX1_bestFor_34 : decode cX1_bestFor 34 = .ok (.aload_n 1, 1) := by decide +kernel
theorem dX1_bestFor_35 : decode cX1_bestFor 35 = .ok (.getfield 42, 3) := by decide +kernel
theorem dX1_bestFor_38 : decode cX1_bestFor 38 = .ok (.iconst 4, 1) := by decide +kernel
theorem dX1_bestFor_39 : decode cX1_bestFor 39 = .ok (.imul, 1) := by decide +kernel
theorem dX1_bestFor_40 : decode cX1_bestFor 40 = .ok (.if_icmp .ge 32, 3) := by decide +kernel
theorem dX1_bestFor_43 : decode cX1_bestFor 43 = .ok (.aload_n 0, 1) := by decide +kernel
theorem dX1_bestFor_44 : decode cX1_bestFor 44 = .ok (.aload_n 1, 1) := by decide +kernel
theorem dX1_bestFor_45 : decode cX1_bestFor 45 = .ok (.iload 5, 2) := by decide +kernel
theorem dX1_bestFor_47 : decode cX1_bestFor 47 = .ok (.invokevirtual 45, 3) := by decide +kernel
theorem dX1_bestFor_50 : decode cX1_bestFor 50 = .ok (.istore 6, 2) := by decide +kernel
theorem dX1_bestFor_52 : decode cX1_bestFor 52 = .ok (.iload 6, 2) := by decide +kernel
theorem dX1_bestFor_54 : decode cX1_bestFor 54 = .ok (.iload 4, 2) := by decide +kernel
theorem dX1_bestFor_56 : decode cX1_bestFor 56 = .ok (.if_icmp .le 10, 3) := by decide +kernel
theorem dX1_bestFor_59 : decode cX1_bestFor 59 = .ok (.iload 5, 2) := by decide +kernel
theorem dX1_bestFor_61 : decode cX1_bestFor 61 = .ok (.istore_n 3, 1) := by decide +kernel
theorem dX1_bestFor_62 : decode cX1_bestFor 62 = .ok (.iload 6, 2) := by decide +kernel
theorem dX1_bestFor_64 : decode cX1_bestFor 64 = .ok (.istore 4, 2) := by decide +kernel
theorem dX1_bestFor_66 : decode cX1_bestFor 66 = .ok (.iinc 5 1, 3) := by decide +kernel
theorem dX1_bestFor_69 : decode cX1_bestFor 69 = .ok (.goto (-37), 3) := by decide +kernel
theorem dX1_bestFor_72 : decode cX1_bestFor 72 = .ok (.iload_n 3, 1) := by decide +kernel
theorem dX1_bestFor_73 : decode cX1_bestFor 73 = .ok (.ireturn, 1) := by decide +kernel
theorem dX1_lookAround_0 : decode cX1_lookAround 0 = .ok (.iconst 0, 1) := by decide +kernel
theorem dX1_lookAround_1 : decode cX1_lookAround 1 = .ok (.istore_n 3, 1) := by decide +kernel
theorem dX1_lookAround_2 : decode cX1_lookAround 2 = .ok (.iconst 0, 1) := by decide +kernel
theorem dX1_lookAround_3 : decode cX1_lookAround 3 = .ok (.istore 4, 2) := by decide +kernel
theorem dX1_lookAround_5 : decode cX1_lookAround 5 = .ok (.iload 4, 2) := by decide +kernel
theorem dX1_lookAround_7 : decode cX1_lookAround 7 = .ok (.iconst 4, 1) := by decide +kernel
theorem dX1_lookAround_8 : decode cX1_lookAround 8 = .ok (.if_icmp .ge 55, 3) := by decide +kernel
theorem dX1_lookAround_11 : decode cX1_lookAround 11 = .ok (.aload_n 1, 1) := by decide +kernel
theorem dX1_lookAround_12 : decode cX1_lookAround 12 = .ok (.iload_n 2, 1) := by decide +kernel
theorem dX1_lookAround_13 : decode cX1_lookAround 13 = .ok (.iload 4, 2) := by decide +kernel
theorem dX1_lookAround_15 : decode cX1_lookAround 15 = .ok (.invokestatic 55, 3) := by decide +kernel
theorem dX1_lookAround_18 : decode cX1_lookAround 18 = .ok (.invokevirtual 59, 3) := by decide +kernel
theorem dX1_lookAround_21 : decode cX1_lookAround 21 = .ok (.istore 5, 2) := by decide +kernel
theorem dX1_lookAround_23 : decode cX1_lookAround 23 = .ok (.aload_n 0, 1) := by decide +kernel
theorem dX1_lookAround_24 : decode cX1_lookAround 24 = .ok (.getfield 9, 3) := by decide +kernel
theorem dX1_lookAround_27 : decode cX1_lookAround 27 = .ok (.iload 4, 2) := by decide +kernel
theorem dX1_lookAround_29 : decode cX1_lookAround 29 = .ok (.aload_n 1, 1) := by decide +kernel
theorem dX1_lookAround_30 : decode cX1_lookAround 30 = .ok (.iload 5, 2) := by decide +kernel
theorem dX1_lookAround_32 : decode cX1_lookAround 32 = .ok (.iload 4, 2) := by decide +kernel
theorem dX1_lookAround_34 : decode cX1_lookAround 34 = .ok (.invokestatic 63, 3) := by decide +kernel
theorem dX1_lookAround_37 : decode cX1_lookAround 37 = .ok (.invokevirtual 66, 3) := by decide +kernel
theorem dX1_lookAround_40 : decode cX1_lookAround 40 = .ok (.iastore, 1) := by decide +kernel
theorem dX1_lookAround_41 : decode cX1_lookAround 41 = .ok (.iload_n 3, 1) := by decide +kernel
theorem dX1_lookAround_42 : decode cX1_lookAround 42 = .ok (.ifCond .ne 9, 3) := by decide +kernel
theorem dX1_lookAround_45 : decode cX1_lookAround 45 = .ok (.iload 5, 2) := by decide +kernel
theorem dX1_lookAround_47 : decode cX1_lookAround 47 = .ok (.iconst (-1), 1) := by decide +kernel
theorem dX1_lookAround_48 : decode cX1_lookAround 48 = .ok (.if_icmp .eq 7, 3) := by decide +kernel
theorem dX1_lookAround_51 : decode cX1_lookAround 51 = .ok (.iconst 1, 1) := by decide +kernel
theorem dX1_lookAround_52 : decode cX1_lookAround 52 = .ok (.goto 4, 3) := by decide +kernel
theorem dX1_lookAround_55 : decode cX1_lookAround 55 = .ok (.iconst 0, 1) := by decide +kernel
theorem dX1_lookAround_56 : decode cX1_lookAround 56 = .ok (.istore_n 3, 1) := by decide +kernel
theorem dX1_lookAround_57 : decode cX1_lookAround 57 = .ok (.iinc 4 1, 3) := by decide +kernel
theorem dX1_lookAround_60 : decode cX1_lookAround 60 = .ok (.goto (-55), 3) := by decide +kernel
theorem dX1_lookAround_63 : decode cX1_lookAround 63 = .ok (.iload_n 3, 1) := by decide +kernel
theorem dX1_lookAround_64 : decode cX1_lookAround 64 = .ok (.ireturn, 1) := by decide +kernel
theorem dX1_holdIfFit_0 : decode cX1_holdIfFit 0 = .ok (.iconst 0, 1) := by decide +kernel
theorem dX1_holdIfFit_1 : decode cX1_holdIfFit 1 = .ok (.istore_n 3, 1) := by decide +kernel
theorem dX1_holdIfFit_2 : decode cX1_holdIfFit 2 = .ok (.iconst 0, 1) := by decide +kernel
theorem dX1_holdIfFit_3 : decode cX1_holdIfFit 3 = .ok (.istore 4, 2) := by decide +kernel
theorem dX1_holdIfFit_5 : decode cX1_holdIfFit 5 = .ok (.iload 4, 2) := by decide +kernel
theorem dX1_holdIfFit_7 : decode cX1_holdIfFit 7 = .ok (.iconst 4, 1) := by decide +kernel
theorem dX1_holdIfFit_8 : decode cX1_holdIfFit 8 = .ok (.if_icmp .ge 62, 3) := by decide +kernel
theorem dX1_holdIfFit_11 : decode cX1_holdIfFit 11 = .ok (.aload_n 0, 1) := by decide +kernel
theorem dX1_holdIfFit_12 : decode cX1_holdIfFit 12 = .ok (.getfield 9, 3) := by decide +kernel
theorem dX1_holdIfFit_15 : decode cX1_holdIfFit 15 = .ok (.iload 4, 2) := by decide +kernel
theorem dX1_holdIfFit_17 : decode cX1_holdIfFit 17 = .ok (.iaload, 1) := by decide +kernel
theorem dX1_holdIfFit_18 : decode cX1_holdIfFit 18 = .ok (.iconst (-1), 1) := by decide +kernel
theorem dX1_holdIfFit_19 : decode cX1_holdIfFit 19 = .ok (.if_icmp .eq 45, 3) := by decide +kernel
theorem dX1_holdIfFit_22 : decode cX1_holdIfFit 22 = .ok (.aload_n 1, 1) := by decide +kernel
theorem dX1_holdIfFit_23 : decode cX1_holdIfFit 23 = .ok (.iload_n 2, 1) := by decide +kernel
theorem dX1_holdIfFit_24 : decode cX1_holdIfFit 24 = .ok (.iload 4, 2) := by decide +kernel
theorem dX1_holdIfFit_26 : decode cX1_holdIfFit 26 = .ok (.invokevirtual 66, 3) := by decide +kernel
theorem dX1_holdIfFit_29 : decode cX1_holdIfFit 29 = .ok (.istore 5, 2) := by decide +kernel
theorem dX1_holdIfFit_31 : decode cX1_holdIfFit 31 = .ok (.iload 5, 2) := by decide +kernel
theorem dX1_holdIfFit_33 : decode cX1_holdIfFit 33 = .ok (.aload_n 0, 1) := by decide +kernel
theorem dX1_holdIfFit_34 : decode cX1_holdIfFit 34 = .ok (.getfield 9, 3) := by decide +kernel
theorem dX1_holdIfFit_37 : decode cX1_holdIfFit 37 = .ok (.iload 4, 2) := by decide +kernel
theorem dX1_holdIfFit_39 : decode cX1_holdIfFit 39 = .ok (.iaload, 1) := by decide +kernel
theorem dX1_holdIfFit_40 : decode cX1_holdIfFit 40 = .ok (.invokestatic 69, 3) := by decide +kernel
theorem dX1_holdIfFit_43 : decode cX1_holdIfFit 43 = .ok (.ifCond .eq 5, 3) := by decide +kernel
theorem dX1_holdIfFit_46 : decode cX1_holdIfFit 46 = .ok (.iconst (-1), 1) := by decide +kernel
theorem dX1_holdIfFit_47 : decode cX1_holdIfFit 47 = .ok (.ireturn, 1) := by decide +kernel
theorem dX1_holdIfFit_48 : decode cX1_holdIfFit 48 = .ok (.iload_n 3, 1) := by decide +kernel
theorem dX1_holdIfFit_49 : decode cX1_holdIfFit 49 = .ok (.aload_n 1, 1) := by decide +kernel
theorem dX1_holdIfFit_50 : decode cX1_holdIfFit 50 = .ok (.iload 5, 2) := by decide +kernel
theorem dX1_holdIfFit_52 : decode cX1_holdIfFit 52 = .ok (.aload_n 0, 1) := by decide +kernel
theorem dX1_holdIfFit_53 : decode cX1_holdIfFit 53 = .ok (.getfield 9, 3) := by decide +kernel
theorem dX1_holdIfFit_56 : decode cX1_holdIfFit 56 = .ok (.iload 4, 2) := by decide +kernel
theorem dX1_holdIfFit_58 : decode cX1_holdIfFit 58 = .ok (.iaload, 1) := by decide +kernel
theorem dX1_holdIfFit_59 : decode cX1_holdIfFit 59 = .ok (.invokevirtual 73, 3) := by decide +kernel
theorem dX1_holdIfFit_62 : decode cX1_holdIfFit 62 = .ok (.iadd, 1) := by decide +kernel
theorem dX1_holdIfFit_63 : decode cX1_holdIfFit 63 = .ok (.istore_n 3, 1) := by decide +kernel
theorem dX1_holdIfFit_64 : decode cX1_holdIfFit 64 = .ok (.iinc 4 1, 3) := by decide +kernel
theorem dX1_holdIfFit_67 : decode cX1_holdIfFit 67 = .ok (.goto (-62), 3) := by decide +kernel
theorem dX1_holdIfFit_70 : decode cX1_holdIfFit 70 = .ok (.iload_n 3, 1) := by decide +kernel
theorem dX1_holdIfFit_71 : decode cX1_holdIfFit 71 = .ok (.ireturn, 1) := by decide +kernel
theorem dX2_init_0 : decode cX2_init 0 = .ok (.aload_n 0, 1) := by decide +kernel
theorem dX2_init_1 : decode cX2_init 1 = .ok (.invokespecial 3, 3) := by decide +kernel
theorem dX2_init_4 : decode cX2_init 4 = .ok (.aload_n 0, 1) := by decide +kernel
theorem dX2_init_5 : decode cX2_init 5 = .ok (.bipush 8, 2) := by decide +kernel
theorem dX2_init_7 : decode cX2_init 7 = .ok (.anewarray 9, 3) := by decide +kernel
theorem dX2_init_10 : decode cX2_init 10 = .ok (.putfield 11, 3) := by decide +kernel
theorem dX2_init_13 : decode cX2_init 13 = .ok (.aload_n 0, 1) := by decide +kernel
theorem dX2_init_14 : decode cX2_init 14 = .ok (.iconst 0, 1) := by decide +kernel
theorem dX2_init_15 : decode cX2_init 15 = .ok (.putfield 17, 3) := by decide +kernel
theorem dX2_init_18 : decode cX2_init 18 = .ok (.aload_n 0, 1) := by decide +kernel
theorem dX2_init_19 : decode cX2_init 19 = .ok (.iconst 0, 1) := by decide +kernel
theorem dX2_init_20 : decode cX2_init 20 = .ok (.putfield 21, 3) := by decide +kernel
theorem dX2_init_23 : decode cX2_init 23 = .ok (.iconst 0, 1) := by decide +kernel
theorem dX2_init_24 : decode cX2_init 24 = .ok (.istore_n 1, 1) := by decide +kernel
theorem dX2_init_25 : decode cX2_init 25 = .ok (.iload_n 1, 1) := by decide +kernel
theorem dX2_init_26 : decode cX2_init 26 = .ok (.bipush 8, 2) := by decide +kernel
theorem dX2_init_28 : decode cX2_init 28 = .ok (.if_icmp .ge 22, 3) := by decide +kernel
theorem dX2_init_31 : decode cX2_init 31 = .ok (.aload_n 0, 1) := by decide +kernel
theorem dX2_init_32 : decode cX2_init 32 = .ok (.getfield 11, 3) := by decide +kernel
theorem dX2_init_35 : decode cX2_init 35 = .ok (.iload_n 1, 1) := by decide +kernel
theorem dX2_init_36 : decode cX2_init 36 = .ok (.new 9, 3) := by decide +kernel
theorem dX2_init_39 : decode cX2_init 39 = .ok (.dup, 1) := by decide +kernel
theorem dX2_init_40 : decode cX2_init 40 = .ok (.invokespecial 24, 3) := by decide +kernel
theorem dX2_init_43 : decode cX2_init 43 = .ok (.aastore, 1) := by decide +kernel
theorem dX2_init_44 : decode cX2_init 44 = .ok (.iinc 1 1, 3) := by decide +kernel
theorem dX2_init_47 : decode cX2_init 47 = .ok (.goto (-22), 3) := by decide +kernel
theorem dX2_init_50 : decode cX2_init 50 = .ok (.return_, 1) := by decide +kernel
theorem dX2_push_0 : decode cX2_push 0 = .ok (.aload_n 0, 1) := by decide +kernel
theorem dX2_push_1 : decode cX2_push 1 = .ok (.getfield 11, 3) := by decide +kernel
theorem dX2_push_4 : decode cX2_push 4 = .ok (.aload_n 0, 1) := by decide +kernel
theorem dX2_push_5 : decode cX2_push 5 = .ok (.getfield 17, 3) := by decide +kernel
theorem dX2_push_8 : decode cX2_push 8 = .ok (.aaload, 1) := by decide +kernel
theorem dX2_push_9 : decode cX2_push 9 = .ok (.aload_n 1, 1) := by decide +kernel
theorem dX2_push_10 : decode cX2_push 10 = .ok (.invokevirtual 25, 3) := by decide +kernel
theorem dX2_push_13 : decode cX2_push 13 = .ok (.aload_n 0, 1) := by decide +kernel
theorem dX2_push_14 : decode cX2_push 14 = .ok (.aload_n 0, 1) := by decide +kernel
theorem dX2_push_15 : decode cX2_push 15 = .ok (.getfield 17, 3) := by decide +kernel
theorem dX2_push_18 : decode cX2_push 18 = .ok (.iconst 1, 1) := by decide +kernel
theorem dX2_push_19 : decode cX2_push 19 = .ok (.iadd, 1) := by decide +kernel
theorem dX2_push_20 : decode cX2_push 20 = .ok (.bipush 8, 2) := by decide +kernel
theorem dX2_push_22 : decode cX2_push 22 = .ok (.irem, 1) := by decide +kernel
theorem dX2_push_23 : decode cX2_push 23 = .ok (.putfield 17, 3) := by decide +kernel
theorem dX2_push_26 : decode cX2_push 26 = .ok (.aload_n 0, 1) := by decide +kernel
theorem dX2_push_27 : decode cX2_push 27 = .ok (.aload_n 0, 1) := by decide +kernel
theorem dX2_push_28 : decode cX2_push 28 = .ok (.getfield 21, 3) := by decide +kernel
theorem dX2_push_31 : decode cX2_push 31 = .ok (.iconst 1, 1) := by decide +kernel
theorem dX2_push_32 : decode cX2_push 32 = .ok (.iadd, 1) := by decide +kernel
theorem dX2_push_33 : decode cX2_push 33 = .ok (.bipush 8, 2) := by decide +kernel
theorem dX2_push_35 : decode cX2_push 35 = .ok (.invokestatic 29, 3) := by decide +kernel
theorem dX2_push_38 : decode cX2_push 38 = .ok (.putfield 21, 3) := by decide +kernel
theorem dX2_push_41 : decode cX2_push 41 = .ok (.return_, 1) := by decide +kernel
theorem dX2_popInto_0 : decode cX2_popInto 0 = .ok (.aload_n 0, 1) := by decide +kernel
theorem dX2_popInto_1 : decode cX2_popInto 1 = .ok (.getfield 21, 3) := by decide +kernel
theorem dX2_popInto_4 : decode cX2_popInto 4 = .ok (.ifCond .le 42, 3) := by decide +kernel
theorem dX2_popInto_7 : decode cX2_popInto 7 = .ok (.aload_n 0, 1) := by decide +kernel
theorem dX2_popInto_8 : decode cX2_popInto 8 = .ok (.aload_n 0, 1) := by decide +kernel
theorem dX2_popInto_9 : decode cX2_popInto 9 = .ok (.getfield 17, 3) := by decide +kernel
theorem dX2_popInto_12 : decode cX2_popInto 12 = .ok (.bipush 8, 2) := by decide +kernel
theorem dX2_popInto_14 : decode cX2_popInto 14 = .ok (.iadd, 1) := by decide +kernel
theorem dX2_popInto_15 : decode cX2_popInto 15 = .ok (.iconst 1, 1) := by decide +kernel
theorem dX2_popInto_16 : decode cX2_popInto 16 = .ok (.isub, 1) := by decide +kernel
theorem dX2_popInto_17 : decode cX2_popInto 17 = .ok (.bipush 8, 2) := by decide +kernel
theorem dX2_popInto_19 : decode cX2_popInto 19 = .ok (.irem, 1) := by decide +kernel
theorem dX2_popInto_20 : decode cX2_popInto 20 = .ok (.putfield 17, 3) := by decide +kernel
theorem dX2_popInto_23 : decode cX2_popInto 23 = .ok (.aload_n 0, 1) := by decide +kernel
theorem dX2_popInto_24 : decode cX2_popInto 24 = .ok (.dup, 1) := by decide +kernel
theorem dX2_popInto_25 : decode cX2_popInto 25 = .ok (.getfield 21, 3) := by decide +kernel
theorem dX2_popInto_28 : decode cX2_popInto 28 = .ok (.iconst 1, 1) := by decide +kernel
theorem dX2_popInto_29 : decode cX2_popInto 29 = .ok (.isub, 1) := by decide +kernel
theorem dX2_popInto_30 : decode cX2_popInto 30 = .ok (.putfield 21, 3) := by decide +kernel
theorem dX2_popInto_33 : decode cX2_popInto 33 = .ok (.aload_n 1, 1) := by decide +kernel
theorem dX2_popInto_34 : decode cX2_popInto 34 = .ok (.aload_n 0, 1) := by decide +kernel
theorem dX2_popInto_35 : decode cX2_popInto 35 = .ok (.getfield 11, 3) := by decide +kernel
theorem dX2_popInto_38 : decode cX2_popInto 38 = .ok (.aload_n 0, 1) := by decide +kernel
theorem dX2_popInto_39 : decode cX2_popInto 39 = .ok (.getfield 17, 3) := by decide +kernel
theorem dX2_popInto_42 : decode cX2_popInto 42 = .ok (.aaload, 1) := by decide +kernel
theorem dX2_popInto_43 : decode cX2_popInto 43 = .ok (.invokevirtual 25, 3) := by decide +kernel
theorem dX2_popInto_46 : decode cX2_popInto 46 = .ok (.return_, 1) := by decide +kernel
theorem dX2_forget_0 : decode cX2_forget 0 = .ok (.aload_n 0, 1) := by decide +kernel
theorem dX2_forget_1 : decode cX2_forget 1 = .ok (.iconst 0, 1) := by decide +kernel
theorem dX2_forget_2 : decode cX2_forget 2 = .ok (.putfield 21, 3) := by decide +kernel
theorem dX2_forget_5 : decode cX2_forget 5 = .ok (.return_, 1) := by decide +kernel
theorem dX3_init_0 : decode cX3_init 0 = .ok (.aload_n 0, 1) := by decide +kernel
theorem dX3_init_1 : decode cX3_init 1 = .ok (.invokespecial 3, 3) := by decide +kernel
theorem dX3_init_4 : decode cX3_init 4 = .ok (.aload_n 0, 1) := by decide +kernel
theorem dX3_init_5 : decode cX3_init 5 = .ok (.iconst 0, 1) := by decide +kernel
theorem dX3_init_6 : decode cX3_init 6 = .ok (.putfield 9, 3) := by decide +kernel
theorem dX3_init_9 : decode cX3_init 9 = .ok (.aload_n 0, 1) := by decide +kernel
theorem dX3_init_10 : decode cX3_init 10 = .ok (.iconst 0, 1) := by decide +kernel
theorem dX3_init_11 : decode cX3_init 11 = .ok (.putfield 15, 3) := by decide +kernel
theorem dX3_init_14 : decode cX3_init 14 = .ok (.aload_n 0, 1) := by decide +kernel
theorem dX3_init_15 : decode cX3_init 15 = .ok (.aload_n 1, 1) := by decide +kernel
theorem dX3_init_16 : decode cX3_init 16 = .ok (.putfield 18, 3) := by decide +kernel
theorem dX3_init_19 : decode cX3_init 19 = .ok (.aload_n 0, 1) := by decide +kernel
theorem dX3_init_20 : decode cX3_init 20 = .ok (.aload_n 2, 1) := by decide +kernel
theorem dX3_init_21 : decode cX3_init 21 = .ok (.putfield 22, 3) := by decide +kernel
theorem dX3_init_24 : decode cX3_init 24 = .ok (.return_, 1) := by decide +kernel
theorem dX3_tellKind_0 : decode cX3_tellKind 0 = .ok (.iload_n 2, 1) := by decide +kernel
theorem dX3_tellKind_1 : decode cX3_tellKind 1 = .ok (.invokestatic 26, 3) := by decide +kernel
theorem dX3_tellKind_4 : decode cX3_tellKind 4 = .ok (.ifCond .eq 26, 3) := by decide +kernel
theorem dX3_tellKind_7 : decode cX3_tellKind 7 = .ok (.iload_n 3, 1) := by decide +kernel
theorem dX3_tellKind_8 : decode cX3_tellKind 8 = .ok (.invokestatic 26, 3) := by decide +kernel
theorem dX3_tellKind_11 : decode cX3_tellKind 11 = .ok (.ifCond .eq 19, 3) := by decide +kernel
theorem dX3_tellKind_14 : decode cX3_tellKind 14 = .ok (.iload 4, 2) := by decide +kernel
theorem dX3_tellKind_16 : decode cX3_tellKind 16 = .ok (.invokestatic 26, 3) := by decide +kernel
theorem dX3_tellKind_19 : decode cX3_tellKind 19 = .ok (.ifCond .eq 11, 3) := by decide +kernel
theorem dX3_tellKind_22 : decode cX3_tellKind 22 = .ok (.iload 5, 2) := by decide +kernel
theorem dX3_tellKind_24 : decode cX3_tellKind 24 = .ok (.invokestatic 26, 3) := by decide +kernel
theorem dX3_tellKind_27 : decode cX3_tellKind 27 = .ok (.ifCond .ne 10, 3) := by decide +kernel
theorem dX3_tellKind_30 : decode cX3_tellKind 30 = .ok (.aload_n 0, 1) := by decide +kernel
theorem dX3_tellKind_31 : decode cX3_tellKind 31 = .ok (.iconst 1, 1) := by decide +kernel
theorem dX3_tellKind_32 : decode cX3_tellKind 32 = .ok (.iconst 0, 1) := by decide +kernel
theorem dX3_tellKind_33 : decode cX3_tellKind 33 = .ok (.invokevirtual 30, 3) := by decide +kernel
theorem dX3_tellKind_36 : decode cX3_tellKind 36 = .ok (.ireturn, 1) := by decide +kernel
theorem dX3_tellKind_37 : decode cX3_tellKind 37 = .ok (.aload_n 1, 1) := by decide +kernel
theorem dX3_tellKind_38 : decode cX3_tellKind 38 = .ok (.getfield 34, 3) := by decide +kernel
theorem dX3_tellKind_41 : decode cX3_tellKind 41 = .ok (.bipush 8, 2) := by decide +kernel
theorem dX3_tellKind_43 : decode cX3_tellKind 43 = .ok (.if_icmp .lt 11, 3) := by decide +kernel
theorem dX3_tellKind_46 : decode cX3_tellKind 46 = .ok (.aload_n 0, 1) := by decide +kernel
theorem dX3_tellKind_47 : decode cX3_tellKind 47 = .ok (.iconst 2, 1) := by decide +kernel
theorem dX3_tellKind_48 : decode cX3_tellKind 48 = .ok (.bipush 8, 2) := by decide +kernel
theorem dX3_tellKind_50 : decode cX3_tellKind 50 = .ok (.invokevirtual 30, 3) := by decide +kernel
theorem dX3_tellKind_53 : decode cX3_tellKind 53 = .ok (.ireturn, 1) := by decide +kernel
theorem dX3_tellKind_54 : decode cX3_tellKind 54 = .ok (.aload_n 1, 1) := by decide +kernel
theorem dX3_tellKind_55 : decode cX3_tellKind 55 = .ok (.getfield 34, 3) := by decide +kernel
theorem dX3_tellKind_58 : decode cX3_tellKind 58 = .ok (.iconst 4, 1) := by decide +kernel
theorem dX3_tellKind_59 : decode cX3_tellKind 59 = .ok (.imul, 1) := by decide +kernel
theorem dX3_tellKind_60 : decode cX3_tellKind 60 = .ok (.istore 6, 2) := by decide +kernel
theorem dX3_tellKind_62 : decode cX3_tellKind 62 = .ok (.aload_n 1, 1) := by decide +kernel
theorem dX3_tellKind_63 : decode cX3_tellKind 63 = .ok (.getfield 39, 3) := by decide +kernel
theorem dX3_tellKind_66 : decode cX3_tellKind 66 = .ok (.iload 6, 2) := by decide +kernel
theorem dX3_tellKind_68 : decode cX3_tellKind 68 = .ok (.iload_n 2, 1) := by decide +kernel
theorem dX3_tellKind_69 : decode cX3_tellKind 69 = .ok (.iastore, 1) := by decide +kernel
theorem dX3_tellKind_70 : decode cX3_tellKind 70 = .ok (.aload_n 1, 1) := by decide +kernel
theorem dX3_tellKind_71 : decode cX3_tellKind 71 = .ok (.getfield 39, 3) := by decide +kernel
theorem dX3_tellKind_74 : decode cX3_tellKind 74 = .ok (.iload 6, 2) := by decide +kernel
theorem dX3_tellKind_76 : decode cX3_tellKind 76 = .ok (.iconst 1, 1) := by decide +kernel
theorem dX3_tellKind_77 : decode cX3_tellKind 77 = .ok (.iadd, 1) := by decide +kernel
theorem dX3_tellKind_78 : decode cX3_tellKind 78 = .ok (.iload_n 3, 1) := by decide +kernel
theorem dX3_tellKind_79 : decode cX3_tellKind 79 = .ok (.iastore, 1) := by decide +kernel
theorem dX3_tellKind_80 : decode cX3_tellKind 80 = .ok (.aload_n 1, 1) := by decide +kernel
theorem dX3_tellKind_81 : decode cX3_tellKind 81 = .ok (.getfield 39, 3) := by decide +kernel
theorem dX3_tellKind_84 : decode cX3_tellKind 84 = .ok (.iload 6, 2) := by decide +kernel
theorem dX3_tellKind_86 : decode cX3_tellKind 86 = .ok (.iconst 2, 1) := by decide +kernel
theorem dX3_tellKind_87 : decode cX3_tellKind 87 = .ok (.iadd, 1) := by decide +kernel
theorem dX3_tellKind_88 : decode cX3_tellKind 88 = .ok (.iload 4, 2) := by decide +kernel
theorem dX3_tellKind_90 : decode cX3_tellKind 90 = .ok (.iastore, 1) := by decide +kernel
theorem dX3_tellKind_91 : decode cX3_tellKind 91 = .ok (.aload_n 1, 1) := by decide +kernel
theorem dX3_tellKind_92 : decode cX3_tellKind 92 = .ok (.getfield 39, 3) := by decide +kernel
theorem dX3_tellKind_95 : decode cX3_tellKind 95 = .ok (.iload 6, 2) := by decide +kernel
theorem dX3_tellKind_97 : decode cX3_tellKind 97 = .ok (.iconst 3, 1) := by decide +kernel
theorem dX3_tellKind_98 : decode cX3_tellKind 98 = .ok (.iadd, 1) := by decide +kernel
theorem dX3_tellKind_99 : decode cX3_tellKind 99 = .ok (.iload 5, 2) := by decide +kernel
theorem dX3_tellKind_101 : decode cX3_tellKind 101 = .ok (.iastore, 1) := by decide +kernel
theorem dX3_tellKind_102 : decode cX3_tellKind 102 = .ok (.aload_n 1, 1) := by decide +kernel
theorem dX3_tellKind_103 : decode cX3_tellKind 103 = .ok (.dup, 1) := by decide +kernel
theorem dX3_tellKind_104 : decode cX3_tellKind 104 = .ok (.getfield 34, 3) := by decide +kernel
theorem dX3_tellKind_107 : decode cX3_tellKind 107 = .ok (.iconst 1, 1) := by decide +kernel
theorem dX3_tellKind_108 : decode cX3_tellKind 108 = .ok (.iadd, 1) := by decide +kernel
theorem dX3_tellKind_109 : decode cX3_tellKind 109 = .ok (.putfield 34, 3) := by decide +kernel
theorem dX3_tellKind_112 : decode cX3_tellKind 112 = .ok (.aload_n 1, 1) := by decide +kernel
theorem dX3_tellKind_113 : decode cX3_tellKind 113 = .ok (.getfield 34, 3) := by decide +kernel
theorem dX3_tellKind_116 : decode cX3_tellKind 116 = .ok (.iconst 1, 1) := by decide +kernel
theorem dX3_tellKind_117 : decode cX3_tellKind 117 = .ok (.isub, 1) := by decide +kernel
theorem dX3_tellKind_118 : decode cX3_tellKind 118 = .ok (.ireturn, 1) := by decide +kernel
theorem dX3_layBrick_0 : decode cX3_layBrick 0 = .ok (.iload_n 2, 1) := by decide +kernel
theorem dX3_layBrick_1 : decode cX3_layBrick 1 = .ok (.invokestatic 43, 3) := by decide +kernel
theorem dX3_layBrick_4 : decode cX3_layBrick 4 = .ok (.ifCond .eq 11, 3) := by decide +kernel
theorem dX3_layBrick_7 : decode cX3_layBrick 7 = .ok (.iload 4, 2) := by decide +kernel
theorem dX3_layBrick_9 : decode cX3_layBrick 9 = .ok (.invokestatic 46, 3) := by decide +kernel
theorem dX3_layBrick_12 : decode cX3_layBrick 12 = .ok (.ifCond .ne 10, 3) := by decide +kernel
theorem dX3_layBrick_15 : decode cX3_layBrick 15 = .ok (.aload_n 0, 1) := by decide +kernel
theorem dX3_layBrick_16 : decode cX3_layBrick 16 = .ok (.iconst 1, 1) := by decide +kernel
theorem dX3_layBrick_17 : decode cX3_layBrick 17 = .ok (.iconst 0, 1) := by decide +kernel
theorem dX3_layBrick_18 : decode cX3_layBrick 18 = .ok (.invokevirtual 30, 3) := by decide +kernel
theorem dX3_layBrick_21 : decode cX3_layBrick 21 = .ok (.ireturn, 1) := by decide +kernel
theorem dX3_layBrick_22 : decode cX3_layBrick 22 = .ok (.aload_n 1, 1) := by decide +kernel
theorem dX3_layBrick_23 : decode cX3_layBrick 23 = .ok (.iload_n 3, 1) := by decide +kernel
theorem dX3_layBrick_24 : decode cX3_layBrick 24 = .ok (.invokevirtual 49, 3) := by decide +kernel
theorem dX3_layBrick_27 : decode cX3_layBrick 27 = .ok (.ifCond .ne 10, 3) := by decide +kernel
theorem dX3_layBrick_30 : decode cX3_layBrick 30 = .ok (.aload_n 0, 1) := by decide +kernel
theorem dX3_layBrick_31 : decode cX3_layBrick 31 = .ok (.iconst 3, 1) := by decide +kernel
theorem dX3_layBrick_32 : decode cX3_layBrick 32 = .ok (.iload_n 3, 1) := by decide +kernel
theorem dX3_layBrick_33 : decode cX3_layBrick 33 = .ok (.invokevirtual 30, 3) := by decide +kernel
theorem dX3_layBrick_36 : decode cX3_layBrick 36 = .ok (.ireturn, 1) := by decide +kernel
theorem dX3_layBrick_37 : decode cX3_layBrick 37 = .ok (.aload_n 1, 1) := by decide +kernel
theorem dX3_layBrick_38 : decode cX3_layBrick 38 = .ok (.iload_n 2, 1) := by decide +kernel
theorem dX3_layBrick_39 : decode cX3_layBrick 39 = .ok (.invokevirtual 52, 3) := by decide +kernel
theorem dX3_layBrick_42 : decode cX3_layBrick 42 = .ok (.ifCond .ne 17, 3) := by decide +kernel
theorem dX3_layBrick_45 : decode cX3_layBrick 45 = .ok (.aload_n 0, 1) := by decide +kernel
theorem dX3_layBrick_46 : decode cX3_layBrick 46 = .ok (.iconst 4, 1) := by decide +kernel
theorem dX3_layBrick_47 : decode cX3_layBrick 47 = .ok (.aload_n 1, 1) := by decide +kernel
theorem dX3_layBrick_48 : decode cX3_layBrick 48 = .ok (.iload_n 2, 1) := by decide +kernel
theorem dX3_layBrick_49 : decode cX3_layBrick 49 = .ok (.invokevirtual 55, 3) := by decide +kernel
theorem dX3_layBrick_52 : decode cX3_layBrick 52 = .ok (.invokestatic 59, 3) := by decide +kernel
theorem dX3_layBrick_55 : decode cX3_layBrick 55 = .ok (.invokevirtual 30, 3) := by decide +kernel
theorem dX3_layBrick_58 : decode cX3_layBrick 58 = .ok (.ireturn, 1) := by decide +kernel
theorem dX3_layBrick_59 : decode cX3_layBrick 59 = .ok (.iload_n 3, 1) := by decide +kernel
theorem dX3_layBrick_60 : decode cX3_layBrick 60 = .ok (.iload 4, 2) := by decide +kernel
theorem dX3_layBrick_62 : decode cX3_layBrick 62 = .ok (.invokestatic 62, 3) := by decide +kernel
theorem dX3_layBrick_65 : decode cX3_layBrick 65 = .ok (.istore 5, 2) := by decide +kernel
theorem dX3_layBrick_67 : decode cX3_layBrick 67 = .ok (.aload_n 1, 1) := by decide +kernel
theorem dX3_layBrick_68 : decode cX3_layBrick 68 = .ok (.getfield 65, 3) := by decide +kernel
theorem dX3_layBrick_71 : decode cX3_layBrick 71 = .ok (.iconst (-1), 1) := by decide +kernel
theorem dX3_layBrick_72 : decode cX3_layBrick 72 = .ok (.if_icmp .ne 17, 3) := by decide +kernel
theorem dX3_layBrick_75 : decode cX3_layBrick 75 = .ok (.aload_n 1, 1) := by decide +kernel
theorem dX3_layBrick_76 : decode cX3_layBrick 76 = .ok (.iload_n 2, 1) := by decide +kernel
theorem dX3_layBrick_77 : decode cX3_layBrick 77 = .ok (.iload 5, 2) := by decide +kernel
theorem dX3_layBrick_79 : decode cX3_layBrick 79 = .ok (.invokevirtual 68, 3) := by decide +kernel
theorem dX3_layBrick_82 : decode cX3_layBrick 82 = .ok (.aload_n 1, 1) := by decide +kernel
theorem dX3_layBrick_83 : decode cX3_layBrick 83 = .ok (.iload_n 2, 1) := by decide +kernel
theorem dX3_layBrick_84 : decode cX3_layBrick 84 = .ok (.putfield 65, 3) := by decide +kernel
theorem dX3_layBrick_87 : decode cX3_layBrick 87 = .ok (.iconst 0, 1) := by decide +kernel
theorem dX3_layBrick_88 : decode cX3_layBrick 88 = .ok (.ireturn, 1) := by decide +kernel
theorem dX3_layBrick_89 : decode cX3_layBrick 89 = .ok (.aload_n 1, 1) := by decide +kernel
theorem dX3_layBrick_90 : decode cX3_layBrick 90 = .ok (.iload 5, 2) := by decide +kernel
theorem dX3_layBrick_92 : decode cX3_layBrick 92 = .ok (.iload_n 2, 1) := by decide +kernel
theorem dX3_layBrick_93 : decode cX3_layBrick 93 = .ok (.invokevirtual 72, 3) := by decide +kernel
theorem dX3_layBrick_96 : decode cX3_layBrick 96 = .ok (.istore 6, 2) := by decide +kernel
theorem dX3_layBrick_98 : decode cX3_layBrick 98 = .ok (.iload 6, 2) := by decide +kernel
theorem dX3_layBrick_100 : decode cX3_layBrick 100 = .ok (.aload_n 1, 1) := by decide +kernel
theorem dX3_layBrick_101 : decode cX3_layBrick 101 = .ok (.getfield 75, 3) := by decide +kernel
theorem dX3_layBrick_104 : decode cX3_layBrick 104 = .ok (.if_icmp .ge 16, 3) := by decide +kernel
theorem dX3_layBrick_107 : decode cX3_layBrick 107 = .ok (.aload_n 0, 1) := by decide +kernel
theorem dX3_layBrick_108 : decode cX3_layBrick 108 = .ok (.iconst 5, 1) := by decide +kernel
theorem dX3_layBrick_109 : decode cX3_layBrick 109 = .ok (.aload_n 1, 1) := by decide +kernel
theorem dX3_layBrick_110 : decode cX3_layBrick 110 = .ok (.getfield 75, 3) := by decide +kernel
theorem dX3_layBrick_113 : decode cX3_layBrick 113 = .ok (.iload 6, 2) := by decide +kernel
theorem dX3_layBrick_115 : decode cX3_layBrick 115 = .ok (.isub, 1) := by decide +kernel
theorem dX3_layBrick_116 : decode cX3_layBrick 116 = .ok (.invokevirtual 30, 3) := by decide +kernel
theorem dX3_layBrick_119 : decode cX3_layBrick 119 = .ok (.ireturn, 1) := by decide +kernel
theorem dX3_layBrick_120 : decode cX3_layBrick 120 = .ok (.aload_n 1, 1) := by decide +kernel
theorem dX3_layBrick_121 : decode cX3_layBrick 121 = .ok (.iload_n 2, 1) := by decide +kernel
theorem dX3_layBrick_122 : decode cX3_layBrick 122 = .ok (.iload 5, 2) := by decide +kernel
theorem dX3_layBrick_124 : decode cX3_layBrick 124 = .ok (.invokevirtual 68, 3) := by decide +kernel
theorem dX3_layBrick_127 : decode cX3_layBrick 127 = .ok (.iload 6, 2) := by decide +kernel
theorem dX3_layBrick_129 : decode cX3_layBrick 129 = .ok (.ireturn, 1) := by decide +kernel
theorem dX3_takeBrick_0 : decode cX3_takeBrick 0 = .ok (.iload_n 2, 1) := by decide +kernel
theorem dX3_takeBrick_1 : decode cX3_takeBrick 1 = .ok (.invokestatic 43, 3) := by decide +kernel
theorem dX3_takeBrick_4 : decode cX3_takeBrick 4 = .ok (.ifCond .ne 10, 3) := by decide +kernel
theorem dX3_takeBrick_7 : decode cX3_takeBrick 7 = .ok (.aload_n 0, 1) := by decide +kernel
theorem dX3_takeBrick_8 : decode cX3_takeBrick 8 = .ok (.iconst 1, 1) := by decide +kernel
theorem dX3_takeBrick_9 : decode cX3_takeBrick 9 = .ok (.iconst 0, 1) := by decide +kernel
theorem dX3_takeBrick_10 : decode cX3_takeBrick 10 = .ok (.invokevirtual 30, 3) := by decide +kernel
theorem dX3_takeBrick_13 : decode cX3_takeBrick 13 = .ok (.ireturn, 1) := by decide +kernel
theorem dX3_takeBrick_14 : decode cX3_takeBrick 14 = .ok (.aload_n 1, 1) := by decide +kernel
theorem dX3_takeBrick_15 : decode cX3_takeBrick 15 = .ok (.iload_n 2, 1) := by decide +kernel
theorem dX3_takeBrick_16 : decode cX3_takeBrick 16 = .ok (.invokevirtual 52, 3) := by decide +kernel
theorem dX3_takeBrick_19 : decode cX3_takeBrick 19 = .ok (.ifCond .eq 11, 3) := by decide +kernel
theorem dX3_takeBrick_22 : decode cX3_takeBrick 22 = .ok (.aload_n 0, 1) := by decide +kernel
theorem dX3_takeBrick_23 : decode cX3_takeBrick 23 = .ok (.bipush 6, 2) := by decide +kernel
theorem dX3_takeBrick_25 : decode cX3_takeBrick 25 = .ok (.iload_n 2, 1) := by decide +kernel
theorem dX3_takeBrick_26 : decode cX3_takeBrick 26 = .ok (.invokevirtual 30, 3) := by decide +kernel
theorem dX3_takeBrick_29 : decode cX3_takeBrick 29 = .ok (.ireturn, 1) := by decide +kernel
theorem dX3_takeBrick_30 : decode cX3_takeBrick 30 = .ok (.aload_n 0, 1) := by decide +kernel
theorem dX3_takeBrick_31 : decode cX3_takeBrick 31 = .ok (.getfield 18, 3) := by decide +kernel
theorem dX3_takeBrick_34 : decode cX3_takeBrick 34 = .ok (.aload_n 1, 1) := by decide +kernel
theorem dX3_takeBrick_35 : decode cX3_takeBrick 35 = .ok (.iload_n 2, 1) := by decide +kernel
theorem dX3_takeBrick_36 : decode cX3_takeBrick 36 = .ok (.invokevirtual 78, 3) := by decide +kernel
theorem dX3_takeBrick_39 : decode cX3_takeBrick 39 = .ok (.istore_n 3, 1) := by decide +kernel
theorem dX3_takeBrick_40 : decode cX3_takeBrick 40 = .ok (.iload_n 3, 1) := by decide +kernel
theorem dX3_takeBrick_41 : decode cX3_takeBrick 41 = .ok (.ifCond .le 11, 3) := by decide +kernel
theorem dX3_takeBrick_44 : decode cX3_takeBrick 44 = .ok (.aload_n 0, 1) := by decide +kernel
theorem dX3_takeBrick_45 : decode cX3_takeBrick 45 = .ok (.bipush 7, 2) := by decide +kernel
theorem dX3_takeBrick_47 : decode cX3_takeBrick 47 = .ok (.iload_n 3, 1) := by decide +kernel
theorem dX3_takeBrick_48 : decode cX3_takeBrick 48 = .ok (.invokevirtual 30, 3) := by decide +kernel
theorem dX3_takeBrick_51 : decode cX3_takeBrick 51 = .ok (.ireturn, 1) := by decide +kernel
theorem dX3_takeBrick_52 : decode cX3_takeBrick 52 = .ok (.aload_n 1, 1) := by decide +kernel
theorem dX3_takeBrick_53 : decode cX3_takeBrick 53 = .ok (.iload_n 2, 1) := by decide +kernel
theorem dX3_takeBrick_54 : decode cX3_takeBrick 54 = .ok (.invokevirtual 55, 3) := by decide +kernel
theorem dX3_takeBrick_57 : decode cX3_takeBrick 57 = .ok (.invokestatic 59, 3) := by decide +kernel
theorem dX3_takeBrick_60 : decode cX3_takeBrick 60 = .ok (.istore 4, 2) := by decide +kernel
theorem dX3_takeBrick_62 : decode cX3_takeBrick 62 = .ok (.aload_n 1, 1) := by decide +kernel
theorem dX3_takeBrick_63 : decode cX3_takeBrick 63 = .ok (.iload_n 2, 1) := by decide +kernel
theorem dX3_takeBrick_64 : decode cX3_takeBrick 64 = .ok (.invokevirtual 84, 3) := by decide +kernel
theorem dX3_takeBrick_67 : decode cX3_takeBrick 67 = .ok (.iload 4, 2) := by decide +kernel
theorem dX3_takeBrick_69 : decode cX3_takeBrick 69 = .ok (.ireturn, 1) := by decide +kernel
theorem dX3_growBricks_0 : decode cX3_growBricks 0 = .ok (.iload_n 2, 1) := by decide +kernel
theorem dX3_growBricks_1 : decode cX3_growBricks 1 = .ok (.iconst 1, 1) := by decide +kernel
theorem dX3_growBricks_2 : decode cX3_growBricks 2 = .ok (.if_icmp .lt 9, 3) := by decide +kernel
theorem dX3_growBricks_5 : decode cX3_growBricks 5 = .ok (.iload_n 2, 1) := by decide +kernel
theorem dX3_growBricks_6 : decode cX3_growBricks 6 = .ok (.bipush 42, 2) := by decide +kernel
theorem dX3_growBricks_8 : decode cX3_growBricks 8 = .ok (.if_icmp .le 10, 3) := by decide +kernel
theorem dX3_growBricks_11 : decode cX3_growBricks 11 = .ok (.aload_n 0, 1) := by decide +kernel
theorem dX3_growBricks_12 : decode cX3_growBricks 12 = .ok (.iconst 1, 1) := by decide +kernel
theorem dX3_growBricks_13 : decode cX3_growBricks 13 = .ok (.iconst 0, 1) := by decide +kernel
theorem dX3_growBricks_14 : decode cX3_growBricks 14 = .ok (.invokevirtual 30, 3) := by decide +kernel
theorem dX3_growBricks_17 : decode cX3_growBricks 17 = .ok (.ireturn, 1) := by decide +kernel
theorem dX3_growBricks_18 : decode cX3_growBricks 18 = .ok (.aload_n 0, 1) := by decide +kernel
theorem dX3_growBricks_19 : decode cX3_growBricks 19 = .ok (.getfield 22, 3) := by decide +kernel
theorem dX3_growBricks_22 : decode cX3_growBricks 22 = .ok (.aload_n 1, 1) := by decide +kernel
theorem dX3_growBricks_23 : decode cX3_growBricks 23 = .ok (.iload_n 2, 1) := by decide +kernel
theorem dX3_growBricks_24 : decode cX3_growBricks 24 = .ok (.invokevirtual 88, 3) := by decide +kernel
theorem dX3_growBricks_27 : decode cX3_growBricks 27 = .ok (.istore_n 3, 1) := by decide +kernel
theorem dX3_growBricks_28 : decode cX3_growBricks 28 = .ok (.iload_n 3, 1) := by decide +kernel
theorem dX3_growBricks_29 : decode cX3_growBricks 29 = .ok (.ifCond .ne 18, 3) := by decide +kernel
theorem dX3_growBricks_32 : decode cX3_growBricks 32 = .ok (.aload_n 0, 1) := by decide +kernel
theorem dX3_growBricks_33 : decode cX3_growBricks 33 = .ok (.bipush 8, 2) := by decide +kernel
theorem dX3_growBricks_35 : decode cX3_growBricks 35 = .ok (.aload_n 0, 1) := by decide +kernel
theorem dX3_growBricks_36 : decode cX3_growBricks 36 = .ok (.getfield 22, 3) := by decide +kernel
theorem dX3_growBricks_39 : decode cX3_growBricks 39 = .ok (.aload_n 1, 1) := by decide +kernel
theorem dX3_growBricks_40 : decode cX3_growBricks 40 = .ok (.invokevirtual 93, 3) := by decide +kernel
theorem dX3_growBricks_43 : decode cX3_growBricks 43 = .ok (.invokevirtual 30, 3) := by decide +kernel
theorem dX3_growBricks_46 : decode cX3_growBricks 46 = .ok (.ireturn, 1) := by decide +kernel
theorem dX3_growBricks_47 : decode cX3_growBricks 47 = .ok (.iload_n 3, 1) := by decide +kernel
theorem dX3_growBricks_48 : decode cX3_growBricks 48 = .ok (.ireturn, 1) := by decide +kernel
theorem dX3_setStrength_0 : decode cX3_setStrength 0 = .ok (.iload_n 2, 1) := by decide +kernel
theorem dX3_setStrength_1 : decode cX3_setStrength 1 = .ok (.iconst 1, 1) := by decide +kernel
theorem dX3_setStrength_2 : decode cX3_setStrength 2 = .ok (.if_icmp .lt 18, 3) := by decide +kernel
theorem dX3_setStrength_5 : decode cX3_setStrength 5 = .ok (.iload_n 2, 1) := by decide +kernel
theorem dX3_setStrength_6 : decode cX3_setStrength 6 = .ok (.bipush 6, 2) := by decide +kernel
theorem dX3_setStrength_8 : decode cX3_setStrength 8 = .ok (.if_icmp .gt 12, 3) := by decide +kernel
theorem dX3_setStrength_11 : decode cX3_setStrength 11 = .ok (.iload_n 3, 1) := by decide +kernel
theorem dX3_setStrength_12 : decode cX3_setStrength 12 = .ok (.ifCond .lt 8, 3) := by decide +kernel
theorem dX3_setStrength_15 : decode cX3_setStrength 15 = .ok (.iload_n 3, 1) := by decide +kernel
theorem dX3_setStrength_16 : decode cX3_setStrength 16 = .ok (.iconst 3, 1) := by decide +kernel
theorem dX3_setStrength_17 : decode cX3_setStrength 17 = .ok (.if_icmp .le 10, 3) := by decide +kernel
theorem dX3_setStrength_20 : decode cX3_setStrength 20 = .ok (.aload_n 0, 1) := by decide +kernel
theorem dX3_setStrength_21 : decode cX3_setStrength 21 = .ok (.iconst 1, 1) := by decide +kernel
theorem dX3_setStrength_22 : decode cX3_setStrength 22 = .ok (.iconst 0, 1) := by decide +kernel
theorem dX3_setStrength_23 : decode cX3_setStrength 23 = .ok (.invokevirtual 30, 3) := by decide +kernel
theorem dX3_setStrength_26 : decode cX3_setStrength 26 = .ok (.ireturn, 1) := by decide +kernel
theorem dX3_setStrength_27 : decode cX3_setStrength 27 = .ok (.aload_n 1, 1) := by decide +kernel
theorem dX3_setStrength_28 : decode cX3_setStrength 28 = .ok (.getfield 97, 3) := by decide +kernel
theorem dX3_setStrength_31 : decode cX3_setStrength 31 = .ok (.iload_n 2, 1) := by decide +kernel
theorem dX3_setStrength_32 : decode cX3_setStrength 32 = .ok (.iaload, 1) := by decide +kernel
theorem dX3_setStrength_33 : decode cX3_setStrength 33 = .ok (.istore 4, 2) := by decide +kernel
theorem dX3_setStrength_35 : decode cX3_setStrength 35 = .ok (.iload 4, 2) := by decide +kernel
theorem dX3_setStrength_37 : decode cX3_setStrength 37 = .ok (.iload_n 3, 1) := by decide +kernel
theorem dX3_setStrength_38 : decode cX3_setStrength 38 = .ok (.if_icmp .ne 11, 3) := by decide +kernel
theorem dX3_setStrength_41 : decode cX3_setStrength 41 = .ok (.aload_n 0, 1) := by decide +kernel
theorem dX3_setStrength_42 : decode cX3_setStrength 42 = .ok (.bipush 9, 2) := by decide +kernel
theorem dX3_setStrength_44 : decode cX3_setStrength 44 = .ok (.iconst 0, 1) := by decide +kernel
theorem dX3_setStrength_45 : decode cX3_setStrength 45 = .ok (.invokevirtual 30, 3) := by decide +kernel
theorem dX3_setStrength_48 : decode cX3_setStrength 48 = .ok (.ireturn, 1) := by decide +kernel
theorem dX3_setStrength_49 : decode cX3_setStrength 49 = .ok (.aload_n 1, 1) := by decide +kernel
theorem dX3_setStrength_50 : decode cX3_setStrength 50 = .ok (.getfield 97, 3) := by decide +kernel
theorem dX3_setStrength_53 : decode cX3_setStrength 53 = .ok (.iload_n 2, 1) := by decide +kernel
theorem dX3_setStrength_54 : decode cX3_setStrength 54 = .ok (.iload_n 3, 1) := by decide +kernel
theorem dX3_setStrength_55 : decode cX3_setStrength 55 = .ok (.iastore, 1) := by decide +kernel
theorem dX3_setStrength_56 : decode cX3_setStrength 56 = .ok (.iload 4, 2) := by decide +kernel
theorem dX3_setStrength_58 : decode cX3_setStrength 58 = .ok (.ireturn, 1) := by decide +kernel
theorem dX3_setNeed_0 : decode cX3_setNeed 0 = .ok (.iload_n 2, 1) := by decide +kernel
theorem dX3_setNeed_1 : decode cX3_setNeed 1 = .ok (.iconst 1, 1) := by decide +kernel
theorem dX3_setNeed_2 : decode cX3_setNeed 2 = .ok (.if_icmp .lt 9, 3) := by decide +kernel
theorem dX3_setNeed_5 : decode cX3_setNeed 5 = .ok (.iload_n 2, 1) := by decide +kernel
theorem dX3_setNeed_6 : decode cX3_setNeed 6 = .ok (.bipush 6, 2) := by decide +kernel
theorem dX3_setNeed_8 : decode cX3_setNeed 8 = .ok (.if_icmp .le 10, 3) := by decide +kernel
theorem dX3_setNeed_11 : decode cX3_setNeed 11 = .ok (.aload_n 0, 1) := by decide +kernel
theorem dX3_setNeed_12 : decode cX3_setNeed 12 = .ok (.iconst 1, 1) := by decide +kernel
theorem dX3_setNeed_13 : decode cX3_setNeed 13 = .ok (.iconst 0, 1) := by decide +kernel
theorem dX3_setNeed_14 : decode cX3_setNeed 14 = .ok (.invokevirtual 30, 3) := by decide +kernel
theorem dX3_setNeed_17 : decode cX3_setNeed 17 = .ok (.ireturn, 1) := by decide +kernel
theorem dX3_setNeed_18 : decode cX3_setNeed 18 = .ok (.aload_n 1, 1) := by decide +kernel
theorem dX3_setNeed_19 : decode cX3_setNeed 19 = .ok (.getfield 75, 3) := by decide +kernel
theorem dX3_setNeed_22 : decode cX3_setNeed 22 = .ok (.istore_n 3, 1) := by decide +kernel
theorem dX3_setNeed_23 : decode cX3_setNeed 23 = .ok (.iload_n 3, 1) := by decide +kernel
theorem dX3_setNeed_24 : decode cX3_setNeed 24 = .ok (.iload_n 2, 1) := by decide +kernel
theorem dX3_setNeed_25 : decode cX3_setNeed 25 = .ok (.if_icmp .ne 11, 3) := by decide +kernel
theorem dX3_setNeed_28 : decode cX3_setNeed 28 = .ok (.aload_n 0, 1) := by decide +kernel
theorem dX3_setNeed_29 : decode cX3_setNeed 29 = .ok (.bipush 9, 2) := by decide +kernel
theorem dX3_setNeed_31 : decode cX3_setNeed 31 = .ok (.iconst 0, 1) := by decide +kernel
theorem dX3_setNeed_32 : decode cX3_setNeed 32 = .ok (.invokevirtual 30, 3) := by decide +kernel
theorem dX3_setNeed_35 : decode cX3_setNeed 35 = .ok (.ireturn, 1) := by decide +kernel
theorem dX3_setNeed_36 : decode cX3_setNeed 36 = .ok (.aload_n 1, 1) := by decide +kernel
theorem dX3_setNeed_37 : decode cX3_setNeed 37 = .ok (.iload_n 2, 1) := by decide +kernel
theorem dX3_setNeed_38 : decode cX3_setNeed 38 = .ok (.putfield 75, 3) := by decide +kernel
theorem dX3_setNeed_41 : decode cX3_setNeed 41 = .ok (.iload_n 3, 1) := by decide +kernel
theorem dX3_setNeed_42 : decode cX3_setNeed 42 = .ok (.ireturn, 1) := by decide +kernel
theorem dX3_refuse_0 : decode cX3_refuse 0 = .ok (.aload_n 0, 1) := by decide +kernel
theorem dX3_refuse_1 : decode cX3_refuse 1 = .ok (.iload_n 1, 1) := by decide +kernel
theorem dX3_refuse_2 : decode cX3_refuse 2 = .ok (.putfield 9, 3) := by decide +kernel
theorem dX3_refuse_5 : decode cX3_refuse 5 = .ok (.aload_n 0, 1) := by decide +kernel
theorem dX3_refuse_6 : decode cX3_refuse 6 = .ok (.iload_n 2, 1) := by decide +kernel
theorem dX3_refuse_7 : decode cX3_refuse 7 = .ok (.putfield 15, 3) := by decide +kernel
theorem dX3_refuse_10 : decode cX3_refuse 10 = .ok (.iconst (-1), 1) := by decide +kernel
theorem dX3_refuse_11 : decode cX3_refuse 11 = .ok (.ireturn, 1) := by decide +kernel
theorem dX3_isGlue_0 : decode cX3_isGlue 0 = .ok (.iload_n 0, 1) := by decide +kernel
theorem dX3_isGlue_1 : decode cX3_isGlue 1 = .ok (.ifCond .lt 13, 3) := by decide +kernel
theorem dX3_isGlue_4 : decode cX3_isGlue 4 = .ok (.iload_n 0, 1) := by decide +kernel
theorem dX3_isGlue_5 : decode cX3_isGlue 5 = .ok (.bipush 6, 2) := by decide +kernel
theorem dX3_isGlue_7 : decode cX3_isGlue 7 = .ok (.if_icmp .gt 7, 3) := by decide +kernel
theorem dX3_isGlue_10 : decode cX3_isGlue 10 = .ok (.iconst 1, 1) := by decide +kernel
theorem dX3_isGlue_11 : decode cX3_isGlue 11 = .ok (.goto 4, 3) := by decide +kernel
theorem dX3_isGlue_14 : decode cX3_isGlue 14 = .ok (.iconst 0, 1) := by decide +kernel
theorem dX3_isGlue_15 : decode cX3_isGlue 15 = .ok (.ireturn, 1) := by decide +kernel
theorem dX4_init_0 : decode cX4_init 0 = .ok (.aload_n 0, 1) := by decide +kernel
theorem dX4_init_1 : decode cX4_init 1 = .ok (.invokespecial 3, 3) := by decide +kernel
theorem dX4_init_4 : decode cX4_init 4 = .ok (.aload_n 0, 1) := by decide +kernel
theorem dX4_init_5 : decode cX4_init 5 = .ok (.bipush 60, 2) := by decide +kernel
theorem dX4_init_7 : decode cX4_init 7 = .ok (.newarray .char, 2) := by decide +kernel
theorem dX4_init_9 : decode cX4_init 9 = .ok (.putfield 9, 3) := by decide +kernel
theorem dX4_init_12 : decode cX4_init 12 = .ok (.aload_n 0, 1) := by decide +kernel
theorem dX4_init_13 : decode cX4_init 13 = .ok (.bipush 30, 2) := by decide +kernel
theorem dX4_init_15 : decode cX4_init 15 = .ok (.newarray .char, 2) := by decide +kernel
theorem dX4_init_17 : decode cX4_init 17 = .ok (.putfield 15, 3) := by decide +kernel
theorem dX4_init_20 : decode cX4_init 20 = .ok (.aload_n 0, 1) := by decide +kernel
theorem dX4_init_21 : decode cX4_init 21 = .ok (.bipush 120, 2) := by decide +kernel
theorem dX4_init_23 : decode cX4_init 23 = .ok (.newarray .int, 2) := by decide +kernel
theorem dX4_init_25 : decode cX4_init 25 = .ok (.putfield 18, 3) := by decide +kernel
theorem dX4_init_28 : decode cX4_init 28 = .ok (.aload_n 0, 1) := by decide +kernel
theorem dX4_init_29 : decode cX4_init 29 = .ok (.iconst 0, 1) := by decide +kernel
theorem dX4_init_30 : decode cX4_init 30 = .ok (.putfield 22, 3) := by decide +kernel
theorem dX4_init_33 : decode cX4_init 33 = .ok (.aload_n 0, 1) := by decide +kernel
theorem dX4_init_34 : decode cX4_init 34 = .ok (.iconst 0, 1) := by decide +kernel
theorem dX4_init_35 : decode cX4_init 35 = .ok (.putfield 26, 3) := by decide +kernel
theorem dX4_init_38 : decode cX4_init 38 = .ok (.aload_n 0, 1) := by decide +kernel
theorem dX4_init_39 : decode cX4_init 39 = .ok (.iconst 0, 1) := by decide +kernel
theorem dX4_init_40 : decode cX4_init 40 = .ok (.putfield 29, 3) := by decide +kernel
theorem dX4_init_43 : decode cX4_init 43 = .ok (.return_, 1) := by decide +kernel
theorem dX4_isFull_0 : decode cX4_isFull 0 = .ok (.aload_n 0, 1) := by decide +kernel
theorem dX4_isFull_1 : decode cX4_isFull 1 = .ok (.getfield 26, 3) := by decide +kernel
theorem dX4_isFull_4 : decode cX4_isFull 4 = .ok (.bipush 60, 2) := by decide +kernel
theorem dX4_isFull_6 : decode cX4_isFull 6 = .ok (.if_icmp .lt 7, 3) := by decide +kernel
theorem dX4_isFull_9 : decode cX4_isFull 9 = .ok (.iconst 1, 1) := by decide +kernel
theorem dX4_isFull_10 : decode cX4_isFull 10 = .ok (.goto 4, 3) := by decide +kernel
theorem dX4_isFull_13 : decode cX4_isFull 13 = .ok (.iconst 0, 1) := by decide +kernel
theorem dX4_isFull_14 : decode cX4_isFull 14 = .ok (.ireturn, 1) := by decide +kernel
theorem dX4_add_0 : decode cX4_add 0 = .ok (.aload_n 0, 1) := by decide +kernel
theorem dX4_add_1 : decode cX4_add 1 = .ok (.invokevirtual 32, 3) := by decide +kernel
theorem dX4_add_4 : decode cX4_add 4 = .ok (.ifCond .ne 23, 3) := by decide +kernel
theorem dX4_add_7 : decode cX4_add 7 = .ok (.aload_n 0, 1) := by decide +kernel
theorem dX4_add_8 : decode cX4_add 8 = .ok (.getfield 9, 3) := by decide +kernel
theorem dX4_add_11 : decode cX4_add 11 = .ok (.aload_n 0, 1) := by decide +kernel
theorem dX4_add_12 : decode cX4_add 12 = .ok (.getfield 26, 3) := by decide +kernel
theorem dX4_add_15 : decode cX4_add 15 = .ok (.iload_n 1, 1) := by decide +kernel
theorem dX4_add_16 : decode cX4_add 16 = .ok (.castore, 1) := by decide +kernel
theorem dX4_add_17 : decode cX4_add 17 = .ok (.aload_n 0, 1) := by decide +kernel
theorem dX4_add_18 : decode cX4_add 18 = .ok (.dup, 1) := by decide +kernel
theorem dX4_add_19 : decode cX4_add 19 = .ok (.getfield 26, 3) := by decide +kernel
theorem dX4_add_22 : decode cX4_add 22 = .ok (.iconst 1, 1) := by decide +kernel
theorem dX4_add_23 : decode cX4_add 23 = .ok (.iadd, 1) := by decide +kernel
theorem dX4_add_24 : decode cX4_add 24 = .ok (.putfield 26, 3) := by decide +kernel
theorem dX4_add_27 : decode cX4_add 27 = .ok (.aload_n 0, 1) := by decide +kernel
theorem dX4_add_28 : decode cX4_add 28 = .ok (.getfield 26, 3) := by decide +kernel
theorem dX4_add_31 : decode cX4_add 31 = .ok (.ireturn, 1) := by decide +kernel
theorem dX4_clear_0 : decode cX4_clear 0 = .ok (.aload_n 0, 1) := by decide +kernel
theorem dX4_clear_1 : decode cX4_clear 1 = .ok (.iconst 0, 1) := by decide +kernel
theorem dX4_clear_2 : decode cX4_clear 2 = .ok (.putfield 26, 3) := by decide +kernel
theorem dX4_clear_5 : decode cX4_clear 5 = .ok (.return_, 1) := by decide +kernel
theorem dX4_deedOf_0 : decode cX4_deedOf 0 = .ok (.iload_n 1, 1) := by decide +kernel
theorem dX4_deedOf_1 : decode cX4_deedOf 1 = .ok (.ifCond .lt 18, 3) := by decide +kernel
theorem dX4_deedOf_4 : decode cX4_deedOf 4 = .ok (.iload_n 1, 1) := by decide +kernel
theorem dX4_deedOf_5 : decode cX4_deedOf 5 = .ok (.bipush 30, 2) := by decide +kernel
theorem dX4_deedOf_7 : decode cX4_deedOf 7 = .ok (.if_icmp .ge 12, 3) := by decide +kernel
theorem dX4_deedOf_10 : decode cX4_deedOf 10 = .ok (.aload_n 0, 1) := by decide +kernel
theorem dX4_deedOf_11 : decode cX4_deedOf 11 = .ok (.getfield 15, 3) := by decide +kernel
theorem dX4_deedOf_14 : decode cX4_deedOf 14 = .ok (.iload_n 1, 1) := by decide +kernel
theorem dX4_deedOf_15 : decode cX4_deedOf 15 = .ok (.caload, 1) := by decide +kernel
theorem dX4_deedOf_16 : decode cX4_deedOf 16 = .ok (.goto 5, 3) := by decide +kernel
theorem dX4_deedOf_19 : decode cX4_deedOf 19 = .ok (.bipush 32, 2) := by decide +kernel
theorem dX4_deedOf_21 : decode cX4_deedOf 21 = .ok (.ireturn, 1) := by decide +kernel
theorem dX4_numberOf_0 : decode cX4_numberOf 0 = .ok (.iload_n 1, 1) := by decide +kernel
theorem dX4_numberOf_1 : decode cX4_numberOf 1 = .ok (.iconst 4, 1) := by decide +kernel
theorem dX4_numberOf_2 : decode cX4_numberOf 2 = .ok (.imul, 1) := by decide +kernel
theorem dX4_numberOf_3 : decode cX4_numberOf 3 = .ok (.iload_n 2, 1) := by decide +kernel
theorem dX4_numberOf_4 : decode cX4_numberOf 4 = .ok (.iadd, 1) := by decide +kernel
theorem dX4_numberOf_5 : decode cX4_numberOf 5 = .ok (.istore_n 3, 1) := by decide +kernel
theorem dX4_numberOf_6 : decode cX4_numberOf 6 = .ok (.iload_n 3, 1) := by decide +kernel
theorem dX4_numberOf_7 : decode cX4_numberOf 7 = .ok (.ifCond .lt 18, 3) := by decide +kernel
theorem dX4_numberOf_10 : decode cX4_numberOf 10 = .ok (.iload_n 3, 1) := by decide +kernel
theorem dX4_numberOf_11 : decode cX4_numberOf 11 = .ok (.bipush 120, 2) := by decide +kernel
theorem dX4_numberOf_13 : decode cX4_numberOf 13 = .ok (.if_icmp .ge 12, 3) := by decide +kernel
theorem dX4_numberOf_16 : decode cX4_numberOf 16 = .ok (.aload_n 0, 1) := by decide +kernel
theorem dX4_numberOf_17 : decode cX4_numberOf 17 = .ok (.getfield 18, 3) := by decide +kernel
theorem dX4_numberOf_20 : decode cX4_numberOf 20 = .ok (.iload_n 3, 1) := by decide +kernel
theorem dX4_numberOf_21 : decode cX4_numberOf 21 = .ok (.iaload, 1) := by decide +kernel
theorem dX4_numberOf_22 : decode cX4_numberOf 22 = .ok (.goto 4, 3) := by decide +kernel
theorem dX4_numberOf_25 : decode cX4_numberOf 25 = .ok (.iconst 0, 1) := by decide +kernel
theorem dX4_numberOf_26 : decode cX4_numberOf 26 = .ok (.ireturn, 1) := by decide +kernel
theorem dX4_read_0 : decode cX4_read 0 = .ok (.aload_n 0, 1) := by decide +kernel
theorem dX4_read_1 : decode cX4_read 1 = .ok (.iconst 0, 1) := by decide +kernel
theorem dX4_read_2 : decode cX4_read 2 = .ok (.putfield 22, 3) := by decide +kernel
theorem dX4_read_5 : decode cX4_read 5 = .ok (.aload_n 0, 1) := by decide +kernel
theorem dX4_read_6 : decode cX4_read 6 = .ok (.iconst 0, 1) := by decide +kernel
theorem dX4_read_7 : decode cX4_read 7 = .ok (.putfield 29, 3) := by decide +kernel
theorem dX4_read_10 : decode cX4_read 10 = .ok (.aload_n 0, 1) := by decide +kernel
theorem dX4_read_11 : decode cX4_read 11 = .ok (.getfield 29, 3) := by decide +kernel
theorem dX4_read_14 : decode cX4_read 14 = .ok (.bipush 30, 2) := by decide +kernel
theorem dX4_read_16 : decode cX4_read 16 = .ok (.if_icmp .ge 52, 3) := by decide +kernel
theorem dX4_read_19 : decode cX4_read 19 = .ok (.aload_n 0, 1) := by decide +kernel
theorem dX4_read_20 : decode cX4_read 20 = .ok (.invokevirtual 36, 3) := by decide +kernel
theorem dX4_read_23 : decode cX4_read 23 = .ok (.ifCond .ne 8, 3) := by decide +kernel
theorem dX4_read_26 : decode cX4_read 26 = .ok (.aload_n 0, 1) := by decide +kernel
theorem dX4_read_27 : decode cX4_read 27 = .ok (.getfield 22, 3) := by decide +kernel
theorem dX4_read_30 : decode cX4_read 30 = .ok (.ireturn, 1) := by decide +kernel
theorem dX4_read_31 : decode cX4_read 31 = .ok (.aload_n 0, 1) := by decide +kernel
theorem dX4_read_32 : decode cX4_read 32 = .ok (.dup, 1) := by decide +kernel
theorem dX4_read_33 : decode cX4_read 33 = .ok (.getfield 29, 3) := by decide +kernel
theorem dX4_read_36 : decode cX4_read 36 = .ok (.iconst 1, 1) := by decide +kernel
theorem dX4_read_37 : decode cX4_read 37 = .ok (.iadd, 1) := by decide +kernel
theorem dX4_read_38 : decode cX4_read 38 = .ok (.putfield 29, 3) := by decide +kernel
theorem dX4_read_41 : decode cX4_read 41 = .ok (.aload_n 0, 1) := by decide +kernel
theorem dX4_read_42 : decode cX4_read 42 = .ok (.getfield 22, 3) := by decide +kernel
theorem dX4_read_45 : decode cX4_read 45 = .ok (.aload_n 0, 1) := by decide +kernel
theorem dX4_read_46 : decode cX4_read 46 = .ok (.getfield 26, 3) := by decide +kernel
theorem dX4_read_49 : decode cX4_read 49 = .ok (.if_icmp .ne 5, 3) := by decide +kernel
theorem dX4_read_52 : decode cX4_read 52 = .ok (.iconst (-1), 1) := by decide +kernel
theorem dX4_read_53 : decode cX4_read 53 = .ok (.ireturn, 1) := by decide +kernel
theorem dX4_read_54 : decode cX4_read 54 = .ok (.aload_n 0, 1) := by decide +kernel
theorem dX4_read_55 : decode cX4_read 55 = .ok (.bipush 59, 2) := by decide +kernel
theorem dX4_read_57 : decode cX4_read 57 = .ok (.invokevirtual 39, 3) := by decide +kernel
theorem dX4_read_60 : decode cX4_read 60 = .ok (.ifCond .ne (-50), 3) := by decide +kernel
theorem dX4_read_63 : decode cX4_read 63 = .ok (.aload_n 0, 1) := by decide +kernel
theorem dX4_read_64 : decode cX4_read 64 = .ok (.getfield 22, 3) := by decide +kernel
theorem dX4_read_67 : decode cX4_read 67 = .ok (.ireturn, 1) := by decide +kernel
theorem dX4_read_68 : decode cX4_read 68 = .ok (.aload_n 0, 1) := by decide +kernel
theorem dX4_read_69 : decode cX4_read 69 = .ok (.getfield 22, 3) := by decide +kernel
theorem dX4_read_72 : decode cX4_read 72 = .ok (.ireturn, 1) := by decide +kernel
theorem dX4_readCommand_0 : decode cX4_readCommand 0 = .ok (.aload_n 0, 1) := by decide +kernel
theorem dX4_readCommand_1 : decode cX4_readCommand 1 = .ok (.invokevirtual 43, 3) := by decide +kernel
theorem dX4_readCommand_4 : decode cX4_readCommand 4 = .ok (.istore_n 1, 1) := by decide +kernel
theorem dX4_readCommand_5 : decode cX4_readCommand 5 = .ok (.aload_n 0, 1) := by decide +kernel
theorem dX4_readCommand_6 : decode cX4_readCommand 6 = .ok (.getfield 15, 3) := by decide +kernel
theorem dX4_readCommand_9 : decode cX4_readCommand 9 = .ok (.aload_n 0, 1) := by decide +kernel
theorem dX4_readCommand_10 : decode cX4_readCommand 10 = .ok (.getfield 29, 3) := by decide +kernel
theorem dX4_readCommand_13 : decode cX4_readCommand 13 = .ok (.iload_n 1, 1) := by decide +kernel
theorem dX4_readCommand_14 : decode cX4_readCommand 14 = .ok (.castore, 1) := by decide +kernel
theorem dX4_readCommand_15 : decode cX4_readCommand 15 = .ok (.iload_n 1, 1) := by decide +kernel
theorem dX4_readCommand_16 : decode cX4_readCommand 16 = .ok (.tableswitch 151 103 116 #[103, 151, 151, 151, 72, 88, 151, 135, 151, 151, 151, 151, 119, 103], 72) := by decide +kernel
theorem dX4_readCommand_88 : decode cX4_readCommand 88 = .ok (.aload_n 0, 1) := by decide +kernel
theorem dX4_readCommand_89 : decode cX4_readCommand 89 = .ok (.dup, 1) := by decide +kernel
theorem dX4_readCommand_90 : decode cX4_readCommand 90 = .ok (.getfield 22, 3) := by decide +kernel
theorem dX4_readCommand_93 : decode cX4_readCommand 93 = .ok (.iconst 1, 1) := by decide +kernel
theorem dX4_readCommand_94 : decode cX4_readCommand 94 = .ok (.iadd, 1) := by decide +kernel
theorem dX4_readCommand_95 : decode cX4_readCommand 95 = .ok (.putfield 22, 3) := by decide +kernel
theorem dX4_readCommand_98 : decode cX4_readCommand 98 = .ok (.aload_n 0, 1) := by decide +kernel
theorem dX4_readCommand_99 : decode cX4_readCommand 99 = .ok (.iconst 4, 1) := by decide +kernel
theorem dX4_readCommand_100 : decode cX4_readCommand 100 = .ok (.invokevirtual 47, 3) := by decide +kernel
theorem dX4_readCommand_103 : decode cX4_readCommand 103 = .ok (.ireturn, 1) := by decide +kernel
theorem dX4_readCommand_104 : decode cX4_readCommand 104 = .ok (.aload_n 0, 1) := by decide +kernel
theorem dX4_readCommand_105 : decode cX4_readCommand 105 = .ok (.dup, 1) := by decide +kernel
theorem dX4_readCommand_106 : decode cX4_readCommand 106 = .ok (.getfield 22, 3) := by decide +kernel
theorem dX4_readCommand_109 : decode cX4_readCommand 109 = .ok (.iconst 1, 1) := by decide +kernel
theorem dX4_readCommand_110 : decode cX4_readCommand 110 = .ok (.iadd, 1) := by decide +kernel
theorem dX4_readCommand_111 : decode cX4_readCommand 111 = .ok (.putfield 22, 3) := by decide +kernel
theorem dX4_readCommand_114 : decode cX4_readCommand 114 = .ok (.aload_n 0, 1) := by decide +kernel
theorem dX4_readCommand_115 : decode cX4_readCommand 115 = .ok (.invokevirtual 51, 3) := by decide +kernel
theorem dX4_readCommand_118 : decode cX4_readCommand 118 = .ok (.ireturn, 1) := by decide +kernel
theorem dX4_readCommand_119 : decode cX4_readCommand 119 = .ok (.aload_n 0, 1) := by decide +kernel
theorem dX4_readCommand_120 : decode cX4_readCommand 120 = .ok (.dup, 1) := by decide +kernel
theorem dX4_readCommand_121 : decode cX4_readCommand 121 = .ok (.getfield 22, 3) := by decide +kernel
theorem dX4_readCommand_124 : decode cX4_readCommand 124 = .ok (.iconst 1, 1) := by decide +kernel
theorem dX4_readCommand_125 : decode cX4_readCommand 125 = .ok (.iadd, 1) := by decide +kernel
theorem dX4_readCommand_126 : decode cX4_readCommand 126 = .ok (.putfield 22, 3) := by decide +kernel
theorem dX4_readCommand_129 : decode cX4_readCommand 129 = .ok (.aload_n 0, 1) := by decide +kernel
theorem dX4_readCommand_130 : decode cX4_readCommand 130 = .ok (.iconst 0, 1) := by decide +kernel
theorem dX4_readCommand_131 : decode cX4_readCommand 131 = .ok (.invokevirtual 54, 3) := by decide +kernel
theorem dX4_readCommand_134 : decode cX4_readCommand 134 = .ok (.ireturn, 1) := by decide +kernel
theorem dX4_readCommand_135 : decode cX4_readCommand 135 = .ok (.aload_n 0, 1) := by decide +kernel
theorem dX4_readCommand_136 : decode cX4_readCommand 136 = .ok (.dup, 1) := by decide +kernel
theorem dX4_readCommand_137 : decode cX4_readCommand 137 = .ok (.getfield 22, 3) := by decide +kernel
theorem dX4_readCommand_140 : decode cX4_readCommand 140 = .ok (.iconst 1, 1) := by decide +kernel
theorem dX4_readCommand_141 : decode cX4_readCommand 141 = .ok (.iadd, 1) := by decide +kernel
theorem dX4_readCommand_142 : decode cX4_readCommand 142 = .ok (.putfield 22, 3) := by decide +kernel
theorem dX4_readCommand_145 : decode cX4_readCommand 145 = .ok (.aload_n 0, 1) := by decide +kernel
theorem dX4_readCommand_146 : decode cX4_readCommand 146 = .ok (.iconst 2, 1) := by decide +kernel
theorem dX4_readCommand_147 : decode cX4_readCommand 147 = .ok (.invokevirtual 47, 3) := by decide +kernel
theorem dX4_readCommand_150 : decode cX4_readCommand 150 = .ok (.ireturn, 1) := by decide +kernel
theorem dX4_readCommand_151 : decode cX4_readCommand 151 = .ok (.aload_n 0, 1) := by decide +kernel
theorem dX4_readCommand_152 : decode cX4_readCommand 152 = .ok (.dup, 1) := by decide +kernel
theorem dX4_readCommand_153 : decode cX4_readCommand 153 = .ok (.getfield 22, 3) := by decide +kernel
theorem dX4_readCommand_156 : decode cX4_readCommand 156 = .ok (.iconst 1, 1) := by decide +kernel
theorem dX4_readCommand_157 : decode cX4_readCommand 157 = .ok (.iadd, 1) := by decide +kernel
theorem dX4_readCommand_158 : decode cX4_readCommand 158 = .ok (.putfield 22, 3) := by decide +kernel
theorem dX4_readCommand_161 : decode cX4_readCommand 161 = .ok (.aload_n 0, 1) := by decide +kernel
theorem dX4_readCommand_162 : decode cX4_readCommand 162 = .ok (.iconst 1, 1) := by decide +kernel
theorem dX4_readCommand_163 : decode cX4_readCommand 163 = .ok (.invokevirtual 47, 3) := by decide +kernel
theorem dX4_readCommand_166 : decode cX4_readCommand 166 = .ok (.ireturn, 1) := by decide +kernel
theorem dX4_readCommand_167 : decode cX4_readCommand 167 = .ok (.iconst 0, 1) := by decide +kernel
theorem dX4_readCommand_168 : decode cX4_readCommand 168 = .ok (.ireturn, 1) := by decide +kernel
theorem dX4_readPlaceAndBrick_0 : decode cX4_readPlaceAndBrick 0 = .ok (.aload_n 0, 1) := by decide +kernel
theorem dX4_readPlaceAndBrick_1 : decode cX4_readPlaceAndBrick 1 = .ok (.iconst 0, 1) := by decide +kernel
theorem dX4_readPlaceAndBrick_2 : decode cX4_readPlaceAndBrick 2 = .ok (.invokevirtual 54, 3) := by decide +kernel
theorem dX4_readPlaceAndBrick_5 : decode cX4_readPlaceAndBrick 5 = .ok (.ifCond .eq 20, 3) := by decide +kernel
theorem dX4_readPlaceAndBrick_8 : decode cX4_readPlaceAndBrick 8 = .ok (.aload_n 0, 1) := by decide +kernel
theorem dX4_readPlaceAndBrick_9 : decode cX4_readPlaceAndBrick 9 = .ok (.bipush 58, 2) := by decide +kernel
theorem dX4_readPlaceAndBrick_11 : decode cX4_readPlaceAndBrick 11 = .ok (.invokevirtual 39, 3) := by decide +kernel
theorem dX4_readPlaceAndBrick_14 : decode cX4_readPlaceAndBrick 14 = .ok (.ifCond .eq 11, 3) := by decide +kernel
theorem dX4_readPlaceAndBrick_17 : decode cX4_readPlaceAndBrick 17 = .ok (.aload_n 0, 1) := by decide +kernel
theorem dX4_readPlaceAndBrick_18 : decode cX4_readPlaceAndBrick 18 = .ok (.iconst 1, 1) := by decide +kernel
theorem dX4_readPlaceAndBrick_19 : decode cX4_readPlaceAndBrick 19 = .ok (.invokevirtual 57, 3) := by decide +kernel
theorem dX4_readPlaceAndBrick_22 : decode cX4_readPlaceAndBrick 22 = .ok (.ifCond .ne 5, 3) := by decide +kernel
theorem dX4_readPlaceAndBrick_25 : decode cX4_readPlaceAndBrick 25 = .ok (.iconst 0, 1) := by decide +kernel
theorem dX4_readPlaceAndBrick_26 : decode cX4_readPlaceAndBrick 26 = .ok (.ireturn, 1) := by decide +kernel
theorem dX4_readPlaceAndBrick_27 : decode cX4_readPlaceAndBrick 27 = .ok (.iconst 0, 1) := by decide +kernel
theorem dX4_readPlaceAndBrick_28 : decode cX4_readPlaceAndBrick 28 = .ok (.istore_n 1, 1) := by decide +kernel
theorem dX4_readPlaceAndBrick_29 : decode cX4_readPlaceAndBrick 29 = .ok (.iload_n 1, 1) := by decide +kernel
theorem dX4_readPlaceAndBrick_30 : decode cX4_readPlaceAndBrick 30 = .ok (.iconst 3, 1) := by decide +kernel
theorem dX4_readPlaceAndBrick_31 : decode cX4_readPlaceAndBrick 31 = .ok (.if_icmp .ge 18, 3) := by decide +kernel
theorem dX4_readPlaceAndBrick_34 : decode cX4_readPlaceAndBrick 34 = .ok (.aload_n 0, 1) := by decide +kernel
theorem dX4_readPlaceAndBrick_35 : decode cX4_readPlaceAndBrick 35 = .ok (.bipush 42, 2) := by decide +kernel
theorem dX4_readPlaceAndBrick_37 : decode cX4_readPlaceAndBrick 37 = .ok (.invokevirtual 39, 3) := by decide +kernel
theorem dX4_readPlaceAndBrick_40 : decode cX4_readPlaceAndBrick 40 = .ok (.ifCond .eq 9, 3) := by decide +kernel
theorem dX4_readPlaceAndBrick_43 : decode cX4_readPlaceAndBrick 43 = .ok (.iinc 1 1, 3) := by decide +kernel
theorem dX4_readPlaceAndBrick_46 : decode cX4_readPlaceAndBrick 46 = .ok (.goto (-17), 3) := by decide +kernel
theorem dX4_readPlaceAndBrick_49 : decode cX4_readPlaceAndBrick 49 = .ok (.aload_n 0, 1) := by decide +kernel
theorem dX4_readPlaceAndBrick_50 : decode cX4_readPlaceAndBrick 50 = .ok (.iconst 2, 1) := by decide +kernel
theorem dX4_readPlaceAndBrick_51 : decode cX4_readPlaceAndBrick 51 = .ok (.iload_n 1, 1) := by decide +kernel
theorem dX4_readPlaceAndBrick_52 : decode cX4_readPlaceAndBrick 52 = .ok (.invokevirtual 60, 3) := by decide +kernel
theorem dX4_readPlaceAndBrick_55 : decode cX4_readPlaceAndBrick 55 = .ok (.iconst 1, 1) := by decide +kernel
theorem dX4_readPlaceAndBrick_56 : decode cX4_readPlaceAndBrick 56 = .ok (.ireturn, 1) := by decide +kernel
theorem dX4_readDigits_0 : decode cX4_readDigits 0 = .ok (.iconst 0, 1) := by decide +kernel
theorem dX4_readDigits_1 : decode cX4_readDigits 1 = .ok (.istore_n 2, 1) := by decide +kernel
theorem dX4_readDigits_2 : decode cX4_readDigits 2 = .ok (.iload_n 2, 1) := by decide +kernel
theorem dX4_readDigits_3 : decode cX4_readDigits 3 = .ok (.iload_n 1, 1) := by decide +kernel
theorem dX4_readDigits_4 : decode cX4_readDigits 4 = .ok (.if_icmp .ge 19, 3) := by decide +kernel
theorem dX4_readDigits_7 : decode cX4_readDigits 7 = .ok (.aload_n 0, 1) := by decide +kernel
theorem dX4_readDigits_8 : decode cX4_readDigits 8 = .ok (.iload_n 2, 1) := by decide +kernel
theorem dX4_readDigits_9 : decode cX4_readDigits 9 = .ok (.invokevirtual 57, 3) := by decide +kernel
theorem dX4_readDigits_12 : decode cX4_readDigits 12 = .ok (.ifCond .ne 5, 3) := by decide +kernel
theorem dX4_readDigits_15 : decode cX4_readDigits 15 = .ok (.iconst 0, 1) := by decide +kernel
theorem dX4_readDigits_16 : decode cX4_readDigits 16 = .ok (.ireturn, 1) := by decide +kernel
theorem dX4_readDigits_17 : decode cX4_readDigits 17 = .ok (.iinc 2 1, 3) := by decide +kernel
theorem dX4_readDigits_20 : decode cX4_readDigits 20 = .ok (.goto (-18), 3) := by decide +kernel
theorem dX4_readDigits_23 : decode cX4_readDigits 23 = .ok (.iconst 1, 1) := by decide +kernel
theorem dX4_readDigits_24 : decode cX4_readDigits 24 = .ok (.ireturn, 1) := by decide +kernel
theorem dX4_readNumber_0 : decode cX4_readNumber 0 = .ok (.aload_n 0, 1) := by decide +kernel
theorem dX4_readNumber_1 : decode cX4_readNumber 1 = .ok (.iload_n 1, 1) := by decide +kernel
theorem dX4_readNumber_2 : decode cX4_readNumber 2 = .ok (.invokevirtual 57, 3) := by decide +kernel
theorem dX4_readNumber_5 : decode cX4_readNumber 5 = .ok (.ifCond .ne 5, 3) := by decide +kernel
theorem dX4_readNumber_8 : decode cX4_readNumber 8 = .ok (.iconst 0, 1) := by decide +kernel
theorem dX4_readNumber_9 : decode cX4_readNumber 9 = .ok (.ireturn, 1) := by decide +kernel
theorem dX4_readNumber_10 : decode cX4_readNumber 10 = .ok (.aload_n 0, 1) := by decide +kernel
theorem dX4_readNumber_11 : decode cX4_readNumber 11 = .ok (.aload_n 0, 1) := by decide +kernel
theorem dX4_readNumber_12 : decode cX4_readNumber 12 = .ok (.getfield 29, 3) := by decide +kernel
theorem dX4_readNumber_15 : decode cX4_readNumber 15 = .ok (.iload_n 1, 1) := by decide +kernel
theorem dX4_readNumber_16 : decode cX4_readNumber 16 = .ok (.invokevirtual 64, 3) := by decide +kernel
theorem dX4_readNumber_19 : decode cX4_readNumber 19 = .ok (.istore_n 2, 1) := by decide +kernel
theorem dX4_readNumber_20 : decode cX4_readNumber 20 = .ok (.aload_n 0, 1) := by decide +kernel
theorem dX4_readNumber_21 : decode cX4_readNumber 21 = .ok (.iload_n 1, 1) := by decide +kernel
theorem dX4_readNumber_22 : decode cX4_readNumber 22 = .ok (.invokevirtual 57, 3) := by decide +kernel
theorem dX4_readNumber_25 : decode cX4_readNumber 25 = .ok (.ifCond .eq 22, 3) := by decide +kernel
theorem dX4_readNumber_28 : decode cX4_readNumber 28 = .ok (.aload_n 0, 1) := by decide +kernel
theorem dX4_readNumber_29 : decode cX4_readNumber 29 = .ok (.iload_n 1, 1) := by decide +kernel
theorem dX4_readNumber_30 : decode cX4_readNumber 30 = .ok (.bipush 10, 2) := by decide +kernel
theorem dX4_readNumber_32 : decode cX4_readNumber 32 = .ok (.iload_n 2, 1) := by decide +kernel
theorem dX4_readNumber_33 : decode cX4_readNumber 33 = .ok (.imul, 1) := by decide +kernel
theorem dX4_readNumber_34 : decode cX4_readNumber 34 = .ok (.aload_n 0, 1) := by decide +kernel
theorem dX4_readNumber_35 : decode cX4_readNumber 35 = .ok (.aload_n 0, 1) := by decide +kernel
theorem dX4_readNumber_36 : decode cX4_readNumber 36 = .ok (.getfield 29, 3) := by decide +kernel
theorem dX4_readNumber_39 : decode cX4_readNumber 39 = .ok (.iload_n 1, 1) := by decide +kernel
theorem dX4_readNumber_40 : decode cX4_readNumber 40 = .ok (.invokevirtual 64, 3) := by decide +kernel
theorem dX4_readNumber_43 : decode cX4_readNumber 43 = .ok (.iadd, 1) := by decide +kernel
theorem dX4_readNumber_44 : decode cX4_readNumber 44 = .ok (.invokevirtual 60, 3) := by decide +kernel
theorem dX4_readNumber_47 : decode cX4_readNumber 47 = .ok (.iconst 1, 1) := by decide +kernel
theorem dX4_readNumber_48 : decode cX4_readNumber 48 = .ok (.ireturn, 1) := by decide +kernel
theorem dX4_readDigit_0 : decode cX4_readDigit 0 = .ok (.aload_n 0, 1) := by decide +kernel
theorem dX4_readDigit_1 : decode cX4_readDigit 1 = .ok (.invokevirtual 43, 3) := by decide +kernel
theorem dX4_readDigit_4 : decode cX4_readDigit 4 = .ok (.istore_n 2, 1) := by decide +kernel
theorem dX4_readDigit_5 : decode cX4_readDigit 5 = .ok (.iload_n 2, 1) := by decide +kernel
theorem dX4_readDigit_6 : decode cX4_readDigit 6 = .ok (.bipush 48, 2) := by decide +kernel
theorem dX4_readDigit_8 : decode cX4_readDigit 8 = .ok (.if_icmp .lt 9, 3) := by decide +kernel
theorem dX4_readDigit_11 : decode cX4_readDigit 11 = .ok (.iload_n 2, 1) := by decide +kernel
theorem dX4_readDigit_12 : decode cX4_readDigit 12 = .ok (.bipush 57, 2) := by decide +kernel
theorem dX4_readDigit_14 : decode cX4_readDigit 14 = .ok (.if_icmp .le 5, 3) := by decide +kernel
theorem dX4_readDigit_17 : decode cX4_readDigit 17 = .ok (.iconst 0, 1) := by decide +kernel
theorem dX4_readDigit_18 : decode cX4_readDigit 18 = .ok (.ireturn, 1) := by decide +kernel
theorem dX4_readDigit_19 : decode cX4_readDigit 19 = .ok (.aload_n 0, 1) := by decide +kernel
theorem dX4_readDigit_20 : decode cX4_readDigit 20 = .ok (.iload_n 1, 1) := by decide +kernel
theorem dX4_readDigit_21 : decode cX4_readDigit 21 = .ok (.iload_n 2, 1) := by decide +kernel
theorem dX4_readDigit_22 : decode cX4_readDigit 22 = .ok (.bipush 48, 2) := by decide +kernel
theorem dX4_readDigit_24 : decode cX4_readDigit 24 = .ok (.isub, 1) := by decide +kernel
theorem dX4_readDigit_25 : decode cX4_readDigit 25 = .ok (.invokevirtual 60, 3) := by decide +kernel
theorem dX4_readDigit_28 : decode cX4_readDigit 28 = .ok (.aload_n 0, 1) := by decide +kernel
theorem dX4_readDigit_29 : decode cX4_readDigit 29 = .ok (.dup, 1) := by decide +kernel
theorem dX4_readDigit_30 : decode cX4_readDigit 30 = .ok (.getfield 22, 3) := by decide +kernel
theorem dX4_readDigit_33 : decode cX4_readDigit 33 = .ok (.iconst 1, 1) := by decide +kernel
theorem dX4_readDigit_34 : decode cX4_readDigit 34 = .ok (.iadd, 1) := by decide +kernel
theorem dX4_readDigit_35 : decode cX4_readDigit 35 = .ok (.putfield 22, 3) := by decide +kernel
theorem dX4_readDigit_38 : decode cX4_readDigit 38 = .ok (.iconst 1, 1) := by decide +kernel
theorem dX4_readDigit_39 : decode cX4_readDigit 39 = .ok (.ireturn, 1) := by decide +kernel
theorem dX4_skip_0 : decode cX4_skip 0 = .ok (.aload_n 0, 1) := by decide +kernel
theorem dX4_skip_1 : decode cX4_skip 1 = .ok (.invokevirtual 43, 3) := by decide +kernel
theorem dX4_skip_4 : decode cX4_skip 4 = .ok (.iload_n 1, 1) := by decide +kernel
theorem dX4_skip_5 : decode cX4_skip 5 = .ok (.if_icmp .eq 5, 3) := by decide +kernel
theorem dX4_skip_8 : decode cX4_skip 8 = .ok (.iconst 0, 1) := by decide +kernel
theorem dX4_skip_9 : decode cX4_skip 9 = .ok (.ireturn, 1) := by decide +kernel
theorem dX4_skip_10 : decode cX4_skip 10 = .ok (.aload_n 0, 1) := by decide +kernel
theorem dX4_skip_11 : decode cX4_skip 11 = .ok (.dup, 1) := by decide +kernel
theorem dX4_skip_12 : decode cX4_skip 12 = .ok (.getfield 22, 3) := by decide +kernel
theorem dX4_skip_15 : decode cX4_skip 15 = .ok (.iconst 1, 1) := by decide +kernel
theorem dX4_skip_16 : decode cX4_skip 16 = .ok (.iadd, 1) := by decide +kernel
theorem dX4_skip_17 : decode cX4_skip 17 = .ok (.putfield 22, 3) := by decide +kernel
theorem dX4_skip_20 : decode cX4_skip 20 = .ok (.iconst 1, 1) := by decide +kernel
theorem dX4_skip_21 : decode cX4_skip 21 = .ok (.ireturn, 1) := by decide +kernel
theorem dX4_here_0 : decode cX4_here 0 = .ok (.aload_n 0, 1) := by decide +kernel
theorem dX4_here_1 : decode cX4_here 1 = .ok (.getfield 22, 3) := by decide +kernel
theorem dX4_here_4 : decode cX4_here 4 = .ok (.aload_n 0, 1) := by decide +kernel
theorem dX4_here_5 : decode cX4_here 5 = .ok (.getfield 26, 3) := by decide +kernel
theorem dX4_here_8 : decode cX4_here 8 = .ok (.if_icmp .ge 24, 3) := by decide +kernel
theorem dX4_here_11 : decode cX4_here 11 = .ok (.aload_n 0, 1) := by decide +kernel
theorem dX4_here_12 : decode cX4_here 12 = .ok (.getfield 22, 3) := by decide +kernel
theorem dX4_here_15 : decode cX4_here 15 = .ok (.bipush 60, 2) := by decide +kernel
theorem dX4_here_17 : decode cX4_here 17 = .ok (.if_icmp .ge 15, 3) := by decide +kernel
theorem dX4_here_20 : decode cX4_here 20 = .ok (.aload_n 0, 1) := by decide +kernel
theorem dX4_here_21 : decode cX4_here 21 = .ok (.getfield 9, 3) := by decide +kernel
theorem dX4_here_24 : decode cX4_here 24 = .ok (.aload_n 0, 1) := by decide +kernel
theorem dX4_here_25 : decode cX4_here 25 = .ok (.getfield 22, 3) := by decide +kernel
theorem dX4_here_28 : decode cX4_here 28 = .ok (.caload, 1) := by decide +kernel
theorem dX4_here_29 : decode cX4_here 29 = .ok (.goto 5, 3) := by decide +kernel
theorem dX4_here_32 : decode cX4_here 32 = .ok (.bipush 32, 2) := by decide +kernel
theorem dX4_here_34 : decode cX4_here 34 = .ok (.ireturn, 1) := by decide +kernel
theorem dX4_note_0 : decode cX4_note 0 = .ok (.aload_n 0, 1) := by decide +kernel
theorem dX4_note_1 : decode cX4_note 1 = .ok (.getfield 29, 3) := by decide +kernel
theorem dX4_note_4 : decode cX4_note 4 = .ok (.iconst 4, 1) := by decide +kernel
theorem dX4_note_5 : decode cX4_note 5 = .ok (.imul, 1) := by decide +kernel
theorem dX4_note_6 : decode cX4_note 6 = .ok (.iload_n 1, 1) := by decide +kernel
theorem dX4_note_7 : decode cX4_note 7 = .ok (.iadd, 1) := by decide +kernel
theorem dX4_note_8 : decode cX4_note 8 = .ok (.istore_n 3, 1) := by decide +kernel
theorem dX4_note_9 : decode cX4_note 9 = .ok (.iload_n 3, 1) := by decide +kernel
theorem dX4_note_10 : decode cX4_note 10 = .ok (.ifCond .lt 16, 3) := by decide +kernel
theorem dX4_note_13 : decode cX4_note 13 = .ok (.iload_n 3, 1) := by decide +kernel
end
section
theorem dX4_note_14 : decode cX4_note 14 = .ok (.bipush 120, 2) := by decide +kernel
theorem dX4_note_16 : decode cX4_note 16 = .ok (.if_icmp .ge 10, 3) := by decide +kernel
theorem dX4_note_19 : decode cX4_note 19 = .ok (.aload_n 0, 1) := by decide +kernel
theorem dX4_note_20 : decode cX4_note 20 = .ok (.getfield 18, 3) := by decide +kernel
theorem dX4_note_23 : decode cX4_note 23 = .ok (.iload_n 3, 1) := by decide +kernel
theorem dX4_note_24 : decode cX4_note 24 = .ok (.iload_n 2, 1) := by decide +kernel
theorem dX4_note_25 : decode cX4_note 25 = .ok (.iastore, 1) := by decide +kernel
theorem dX4_note_26 : decode cX4_note 26 = .ok (.return_, 1) := by decide +kernel
theorem dX5_init_0 : decode cX5_init 0 = .ok (.aload_n 0, 1) := by decide +kernel
theorem dX5_init_1 : decode cX5_init 1 = .ok (.invokespecial 3, 3) := by decide +kernel
theorem dX5_init_4 : decode cX5_init 4 = .ok (.aload_n 0, 1) := by decide +kernel
theorem dX5_init_5 : decode cX5_init 5 = .ok (.bipush 32, 2) := by decide +kernel
theorem dX5_init_7 : decode cX5_init 7 = .ok (.newarray .int, 2) := by decide +kernel
theorem dX5_init_9 : decode cX5_init 9 = .ok (.putfield 9, 3) := by decide +kernel
theorem dX5_init_12 : decode cX5_init 12 = .ok (.aload_n 0, 1) := by decide +kernel
theorem dX5_init_13 : decode cX5_init 13 = .ok (.bipush 7, 2) := by decide +kernel
theorem dX5_init_15 : decode cX5_init 15 = .ok (.newarray .int, 2) := by decide +kernel
theorem dX5_init_17 : decode cX5_init 17 = .ok (.dup, 1) := by decide +kernel
theorem dX5_init_18 : decode cX5_init 18 = .ok (.iconst 0, 1) := by decide +kernel
theorem dX5_init_19 : decode cX5_init 19 = .ok (.iconst 0, 1) := by decide +kernel
theorem dX5_init_20 : decode cX5_init 20 = .ok (.iastore, 1) := by decide +kernel
theorem dX5_init_21 : decode cX5_init 21 = .ok (.dup, 1) := by decide +kernel
theorem dX5_init_22 : decode cX5_init 22 = .ok (.iconst 1, 1) := by decide +kernel
theorem dX5_init_23 : decode cX5_init 23 = .ok (.iconst 1, 1) := by decide +kernel
theorem dX5_init_24 : decode cX5_init 24 = .ok (.iastore, 1) := by decide +kernel
theorem dX5_init_25 : decode cX5_init 25 = .ok (.dup, 1) := by decide +kernel
theorem dX5_init_26 : decode cX5_init 26 = .ok (.iconst 2, 1) := by decide +kernel
theorem dX5_init_27 : decode cX5_init 27 = .ok (.iconst 1, 1) := by decide +kernel
theorem dX5_init_28 : decode cX5_init 28 = .ok (.iastore, 1) := by decide +kernel
theorem dX5_init_29 : decode cX5_init 29 = .ok (.dup, 1) := by decide +kernel
theorem dX5_init_30 : decode cX5_init 30 = .ok (.iconst 3, 1) := by decide +kernel
theorem dX5_init_31 : decode cX5_init 31 = .ok (.iconst 1, 1) := by decide +kernel
theorem dX5_init_32 : decode cX5_init 32 = .ok (.iastore, 1) := by decide +kernel
theorem dX5_init_33 : decode cX5_init 33 = .ok (.dup, 1) := by decide +kernel
theorem dX5_init_34 : decode cX5_init 34 = .ok (.iconst 4, 1) := by decide +kernel
theorem dX5_init_35 : decode cX5_init 35 = .ok (.iconst 1, 1) := by decide +kernel
theorem dX5_init_36 : decode cX5_init 36 = .ok (.iastore, 1) := by decide +kernel
theorem dX5_init_37 : decode cX5_init 37 = .ok (.dup, 1) := by decide +kernel
theorem dX5_init_38 : decode cX5_init 38 = .ok (.iconst 5, 1) := by decide +kernel
theorem dX5_init_39 : decode cX5_init 39 = .ok (.iconst 1, 1) := by decide +kernel
theorem dX5_init_40 : decode cX5_init 40 = .ok (.iastore, 1) := by decide +kernel
theorem dX5_init_41 : decode cX5_init 41 = .ok (.dup, 1) := by decide +kernel
theorem dX5_init_42 : decode cX5_init 42 = .ok (.bipush 6, 2) := by decide +kernel
theorem dX5_init_44 : decode cX5_init 44 = .ok (.iconst 1, 1) := by decide +kernel
theorem dX5_init_45 : decode cX5_init 45 = .ok (.iastore, 1) := by decide +kernel
theorem dX5_init_46 : decode cX5_init 46 = .ok (.putfield 15, 3) := by decide +kernel
theorem dX5_init_49 : decode cX5_init 49 = .ok (.aload_n 0, 1) := by decide +kernel
theorem dX5_init_50 : decode cX5_init 50 = .ok (.bipush 42, 2) := by decide +kernel
theorem dX5_init_52 : decode cX5_init 52 = .ok (.newarray .int, 2) := by decide +kernel
theorem dX5_init_54 : decode cX5_init 54 = .ok (.putfield 18, 3) := by decide +kernel
theorem dX5_init_57 : decode cX5_init 57 = .ok (.aload_n 0, 1) := by decide +kernel
theorem dX5_init_58 : decode cX5_init 58 = .ok (.iconst 0, 1) := by decide +kernel
theorem dX5_init_59 : decode cX5_init 59 = .ok (.putfield 21, 3) := by decide +kernel
theorem dX5_init_62 : decode cX5_init 62 = .ok (.aload_n 0, 1) := by decide +kernel
theorem dX5_init_63 : decode cX5_init 63 = .ok (.iconst 2, 1) := by decide +kernel
theorem dX5_init_64 : decode cX5_init 64 = .ok (.putfield 25, 3) := by decide +kernel
theorem dX5_init_67 : decode cX5_init 67 = .ok (.aload_n 0, 1) := by decide +kernel
theorem dX5_init_68 : decode cX5_init 68 = .ok (.iconst (-1), 1) := by decide +kernel
theorem dX5_init_69 : decode cX5_init 69 = .ok (.putfield 28, 3) := by decide +kernel
theorem dX5_init_72 : decode cX5_init 72 = .ok (.aload_n 0, 1) := by decide +kernel
theorem dX5_init_73 : decode cX5_init 73 = .ok (.iconst 0, 1) := by decide +kernel
theorem dX5_init_74 : decode cX5_init 74 = .ok (.putfield 31, 3) := by decide +kernel
theorem dX5_init_77 : decode cX5_init 77 = .ok (.aload_n 0, 1) := by decide +kernel
theorem dX5_init_78 : decode cX5_init 78 = .ok (.iconst 0, 1) := by decide +kernel
theorem dX5_init_79 : decode cX5_init 79 = .ok (.putfield 34, 3) := by decide +kernel
theorem dX5_init_82 : decode cX5_init 82 = .ok (.aload_n 0, 1) := by decide +kernel
theorem dX5_init_83 : decode cX5_init 83 = .ok (.iconst 0, 1) := by decide +kernel
theorem dX5_init_84 : decode cX5_init 84 = .ok (.putfield 37, 3) := by decide +kernel
theorem dX5_init_87 : decode cX5_init 87 = .ok (.iconst 0, 1) := by decide +kernel
theorem dX5_init_88 : decode cX5_init 88 = .ok (.istore_n 1, 1) := by decide +kernel
theorem dX5_init_89 : decode cX5_init 89 = .ok (.iload_n 1, 1) := by decide +kernel
theorem dX5_init_90 : decode cX5_init 90 = .ok (.bipush 42, 2) := by decide +kernel
theorem dX5_init_92 : decode cX5_init 92 = .ok (.if_icmp .ge 16, 3) := by decide +kernel
theorem dX5_init_95 : decode cX5_init 95 = .ok (.aload_n 0, 1) := by decide +kernel
theorem dX5_init_96 : decode cX5_init 96 = .ok (.getfield 18, 3) := by decide +kernel
theorem dX5_init_99 : decode cX5_init 99 = .ok (.iload_n 1, 1) := by decide +kernel
theorem dX5_init_100 : decode cX5_init 100 = .ok (.iconst (-1), 1) := by decide +kernel
theorem dX5_init_101 : decode cX5_init 101 = .ok (.iastore, 1) := by decide +kernel
theorem dX5_init_102 : decode cX5_init 102 = .ok (.iinc 1 1, 3) := by decide +kernel
theorem dX5_init_105 : decode cX5_init 105 = .ok (.goto (-16), 3) := by decide +kernel
theorem dX5_init_108 : decode cX5_init 108 = .ok (.return_, 1) := by decide +kernel
theorem dX5_copyFrom_0 : decode cX5_copyFrom 0 = .ok (.aload_n 1, 1) := by decide +kernel
theorem dX5_copyFrom_1 : decode cX5_copyFrom 1 = .ok (.getfield 9, 3) := by decide +kernel
theorem dX5_copyFrom_4 : decode cX5_copyFrom 4 = .ok (.iconst 0, 1) := by decide +kernel
theorem dX5_copyFrom_5 : decode cX5_copyFrom 5 = .ok (.aload_n 0, 1) := by decide +kernel
theorem dX5_copyFrom_6 : decode cX5_copyFrom 6 = .ok (.getfield 9, 3) := by decide +kernel
theorem dX5_copyFrom_9 : decode cX5_copyFrom 9 = .ok (.iconst 0, 1) := by decide +kernel
theorem dX5_copyFrom_10 : decode cX5_copyFrom 10 = .ok (.bipush 32, 2) := by decide +kernel
theorem dX5_copyFrom_12 : decode cX5_copyFrom 12 = .ok (.invokestatic 40, 3) := by decide +kernel
theorem dX5_copyFrom_15 : decode cX5_copyFrom 15 = .ok (.aload_n 1, 1) := by decide +kernel
theorem dX5_copyFrom_16 : decode cX5_copyFrom 16 = .ok (.getfield 15, 3) := by decide +kernel
theorem dX5_copyFrom_19 : decode cX5_copyFrom 19 = .ok (.iconst 0, 1) := by decide +kernel
theorem dX5_copyFrom_20 : decode cX5_copyFrom 20 = .ok (.aload_n 0, 1) := by decide +kernel
theorem dX5_copyFrom_21 : decode cX5_copyFrom 21 = .ok (.getfield 15, 3) := by decide +kernel
theorem dX5_copyFrom_24 : decode cX5_copyFrom 24 = .ok (.iconst 0, 1) := by decide +kernel
theorem dX5_copyFrom_25 : decode cX5_copyFrom 25 = .ok (.bipush 7, 2) := by decide +kernel
theorem dX5_copyFrom_27 : decode cX5_copyFrom 27 = .ok (.invokestatic 40, 3) := by decide +kernel
theorem dX5_copyFrom_30 : decode cX5_copyFrom 30 = .ok (.aload_n 1, 1) := by decide +kernel
theorem dX5_copyFrom_31 : decode cX5_copyFrom 31 = .ok (.getfield 18, 3) := by decide +kernel
theorem dX5_copyFrom_34 : decode cX5_copyFrom 34 = .ok (.iconst 0, 1) := by decide +kernel
theorem dX5_copyFrom_35 : decode cX5_copyFrom 35 = .ok (.aload_n 0, 1) := by decide +kernel
theorem dX5_copyFrom_36 : decode cX5_copyFrom 36 = .ok (.getfield 18, 3) := by decide +kernel
theorem dX5_copyFrom_39 : decode cX5_copyFrom 39 = .ok (.iconst 0, 1) := by decide +kernel
theorem dX5_copyFrom_40 : decode cX5_copyFrom 40 = .ok (.bipush 42, 2) := by decide +kernel
theorem dX5_copyFrom_42 : decode cX5_copyFrom 42 = .ok (.invokestatic 40, 3) := by decide +kernel
theorem dX5_copyFrom_45 : decode cX5_copyFrom 45 = .ok (.aload_n 0, 1) := by decide +kernel
theorem dX5_copyFrom_46 : decode cX5_copyFrom 46 = .ok (.aload_n 1, 1) := by decide +kernel
theorem dX5_copyFrom_47 : decode cX5_copyFrom 47 = .ok (.getfield 21, 3) := by decide +kernel
theorem dX5_copyFrom_50 : decode cX5_copyFrom 50 = .ok (.putfield 21, 3) := by decide +kernel
theorem dX5_copyFrom_53 : decode cX5_copyFrom 53 = .ok (.aload_n 0, 1) := by decide +kernel
theorem dX5_copyFrom_54 : decode cX5_copyFrom 54 = .ok (.aload_n 1, 1) := by decide +kernel
theorem dX5_copyFrom_55 : decode cX5_copyFrom 55 = .ok (.getfield 25, 3) := by decide +kernel
theorem dX5_copyFrom_58 : decode cX5_copyFrom 58 = .ok (.putfield 25, 3) := by decide +kernel
theorem dX5_copyFrom_61 : decode cX5_copyFrom 61 = .ok (.aload_n 0, 1) := by decide +kernel
theorem dX5_copyFrom_62 : decode cX5_copyFrom 62 = .ok (.aload_n 1, 1) := by decide +kernel
theorem dX5_copyFrom_63 : decode cX5_copyFrom 63 = .ok (.getfield 28, 3) := by decide +kernel
theorem dX5_copyFrom_66 : decode cX5_copyFrom 66 = .ok (.putfield 28, 3) := by decide +kernel
theorem dX5_copyFrom_69 : decode cX5_copyFrom 69 = .ok (.aload_n 0, 1) := by decide +kernel
theorem dX5_copyFrom_70 : decode cX5_copyFrom 70 = .ok (.aload_n 1, 1) := by decide +kernel
theorem dX5_copyFrom_71 : decode cX5_copyFrom 71 = .ok (.getfield 31, 3) := by decide +kernel
theorem dX5_copyFrom_74 : decode cX5_copyFrom 74 = .ok (.putfield 31, 3) := by decide +kernel
theorem dX5_copyFrom_77 : decode cX5_copyFrom 77 = .ok (.aload_n 0, 1) := by decide +kernel
theorem dX5_copyFrom_78 : decode cX5_copyFrom 78 = .ok (.aload_n 1, 1) := by decide +kernel
theorem dX5_copyFrom_79 : decode cX5_copyFrom 79 = .ok (.getfield 34, 3) := by decide +kernel
theorem dX5_copyFrom_82 : decode cX5_copyFrom 82 = .ok (.putfield 34, 3) := by decide +kernel
theorem dX5_copyFrom_85 : decode cX5_copyFrom 85 = .ok (.aload_n 0, 1) := by decide +kernel
theorem dX5_copyFrom_86 : decode cX5_copyFrom 86 = .ok (.aload_n 1, 1) := by decide +kernel
theorem dX5_copyFrom_87 : decode cX5_copyFrom 87 = .ok (.getfield 37, 3) := by decide +kernel
theorem dX5_copyFrom_90 : decode cX5_copyFrom 90 = .ok (.putfield 37, 3) := by decide +kernel
theorem dX5_copyFrom_93 : decode cX5_copyFrom 93 = .ok (.return_, 1) := by decide +kernel
theorem dX5_hasKind_0 : decode cX5_hasKind 0 = .ok (.iload_n 1, 1) := by decide +kernel
theorem dX5_hasKind_1 : decode cX5_hasKind 1 = .ok (.ifCond .lt 15, 3) := by decide +kernel
theorem dX5_hasKind_4 : decode cX5_hasKind 4 = .ok (.iload_n 1, 1) := by decide +kernel
theorem dX5_hasKind_5 : decode cX5_hasKind 5 = .ok (.aload_n 0, 1) := by decide +kernel
theorem dX5_hasKind_6 : decode cX5_hasKind 6 = .ok (.getfield 21, 3) := by decide +kernel
theorem dX5_hasKind_9 : decode cX5_hasKind 9 = .ok (.if_icmp .ge 7, 3) := by decide +kernel
theorem dX5_hasKind_12 : decode cX5_hasKind 12 = .ok (.iconst 1, 1) := by decide +kernel
theorem dX5_hasKind_13 : decode cX5_hasKind 13 = .ok (.goto 4, 3) := by decide +kernel
theorem dX5_hasKind_16 : decode cX5_hasKind 16 = .ok (.iconst 0, 1) := by decide +kernel
theorem dX5_hasKind_17 : decode cX5_hasKind 17 = .ok (.ireturn, 1) := by decide +kernel
theorem dX5_brickOn_0 : decode cX5_brickOn 0 = .ok (.iload_n 1, 1) := by decide +kernel
theorem dX5_brickOn_1 : decode cX5_brickOn 1 = .ok (.ifCond .lt 18, 3) := by decide +kernel
theorem dX5_brickOn_4 : decode cX5_brickOn 4 = .ok (.iload_n 1, 1) := by decide +kernel
theorem dX5_brickOn_5 : decode cX5_brickOn 5 = .ok (.bipush 42, 2) := by decide +kernel
theorem dX5_brickOn_7 : decode cX5_brickOn 7 = .ok (.if_icmp .ge 12, 3) := by decide +kernel
theorem dX5_brickOn_10 : decode cX5_brickOn 10 = .ok (.aload_n 0, 1) := by decide +kernel
theorem dX5_brickOn_11 : decode cX5_brickOn 11 = .ok (.getfield 18, 3) := by decide +kernel
theorem dX5_brickOn_14 : decode cX5_brickOn 14 = .ok (.iload_n 1, 1) := by decide +kernel
theorem dX5_brickOn_15 : decode cX5_brickOn 15 = .ok (.iaload, 1) := by decide +kernel
theorem dX5_brickOn_16 : decode cX5_brickOn 16 = .ok (.goto 4, 3) := by decide +kernel
theorem dX5_brickOn_19 : decode cX5_brickOn 19 = .ok (.iconst (-1), 1) := by decide +kernel
theorem dX5_brickOn_20 : decode cX5_brickOn 20 = .ok (.ireturn, 1) := by decide +kernel
theorem dX5_isFree_0 : decode cX5_isFree 0 = .ok (.aload_n 0, 1) := by decide +kernel
theorem dX5_isFree_1 : decode cX5_isFree 1 = .ok (.iload_n 1, 1) := by decide +kernel
theorem dX5_isFree_2 : decode cX5_isFree 2 = .ok (.invokevirtual 46, 3) := by decide +kernel
theorem dX5_isFree_5 : decode cX5_isFree 5 = .ok (.iconst (-1), 1) := by decide +kernel
theorem dX5_isFree_6 : decode cX5_isFree 6 = .ok (.if_icmp .ne 7, 3) := by decide +kernel
theorem dX5_isFree_9 : decode cX5_isFree 9 = .ok (.iconst 1, 1) := by decide +kernel
theorem dX5_isFree_10 : decode cX5_isFree 10 = .ok (.goto 4, 3) := by decide +kernel
theorem dX5_isFree_13 : decode cX5_isFree 13 = .ok (.iconst 0, 1) := by decide +kernel
theorem dX5_isFree_14 : decode cX5_isFree 14 = .ok (.ireturn, 1) := by decide +kernel
theorem dX5_glueOn_0 : decode cX5_glueOn 0 = .ok (.iload_n 1, 1) := by decide +kernel
theorem dX5_glueOn_1 : decode cX5_glueOn 1 = .ok (.ifCond .lt 9, 3) := by decide +kernel
theorem dX5_glueOn_4 : decode cX5_glueOn 4 = .ok (.iload_n 1, 1) := by decide +kernel
theorem dX5_glueOn_5 : decode cX5_glueOn 5 = .ok (.bipush 32, 2) := by decide +kernel
theorem dX5_glueOn_7 : decode cX5_glueOn 7 = .ok (.if_icmp .lt 5, 3) := by decide +kernel
theorem dX5_glueOn_10 : decode cX5_glueOn 10 = .ok (.iconst (-1), 1) := by decide +kernel
theorem dX5_glueOn_11 : decode cX5_glueOn 11 = .ok (.ireturn, 1) := by decide +kernel
theorem dX5_glueOn_12 : decode cX5_glueOn 12 = .ok (.iload_n 1, 1) := by decide +kernel
theorem dX5_glueOn_13 : decode cX5_glueOn 13 = .ok (.iconst 4, 1) := by decide +kernel
theorem dX5_glueOn_14 : decode cX5_glueOn 14 = .ok (.idiv, 1) := by decide +kernel
theorem dX5_glueOn_15 : decode cX5_glueOn 15 = .ok (.istore_n 3, 1) := by decide +kernel
theorem dX5_glueOn_16 : decode cX5_glueOn 16 = .ok (.iload_n 1, 1) := by decide +kernel
theorem dX5_glueOn_17 : decode cX5_glueOn 17 = .ok (.iconst 4, 1) := by decide +kernel
theorem dX5_glueOn_18 : decode cX5_glueOn 18 = .ok (.irem, 1) := by decide +kernel
theorem dX5_glueOn_19 : decode cX5_glueOn 19 = .ok (.istore 4, 2) := by decide +kernel
theorem dX5_glueOn_21 : decode cX5_glueOn 21 = .ok (.aload_n 0, 1) := by decide +kernel
theorem dX5_glueOn_22 : decode cX5_glueOn 22 = .ok (.getfield 9, 3) := by decide +kernel
theorem dX5_glueOn_25 : decode cX5_glueOn 25 = .ok (.iload_n 3, 1) := by decide +kernel
theorem dX5_glueOn_26 : decode cX5_glueOn 26 = .ok (.iconst 4, 1) := by decide +kernel
theorem dX5_glueOn_27 : decode cX5_glueOn 27 = .ok (.imul, 1) := by decide +kernel
theorem dX5_glueOn_28 : decode cX5_glueOn 28 = .ok (.iload_n 2, 1) := by decide +kernel
theorem dX5_glueOn_29 : decode cX5_glueOn 29 = .ok (.iload 4, 2) := by decide +kernel
theorem dX5_glueOn_31 : decode cX5_glueOn 31 = .ok (.isub, 1) := by decide +kernel
theorem dX5_glueOn_32 : decode cX5_glueOn 32 = .ok (.iconst 3, 1) := by decide +kernel
theorem dX5_glueOn_33 : decode cX5_glueOn 33 = .ok (.iand, 1) := by decide +kernel
theorem dX5_glueOn_34 : decode cX5_glueOn 34 = .ok (.iadd, 1) := by decide +kernel
theorem dX5_glueOn_35 : decode cX5_glueOn 35 = .ok (.iaload, 1) := by decide +kernel
theorem dX5_glueOn_36 : decode cX5_glueOn 36 = .ok (.ireturn, 1) := by decide +kernel
theorem dX5_glueFacing_0 : decode cX5_glueFacing 0 = .ok (.aload_n 0, 1) := by decide +kernel
theorem dX5_glueFacing_1 : decode cX5_glueFacing 1 = .ok (.aload_n 0, 1) := by decide +kernel
theorem dX5_glueFacing_2 : decode cX5_glueFacing 2 = .ok (.iload_n 1, 1) := by decide +kernel
theorem dX5_glueFacing_3 : decode cX5_glueFacing 3 = .ok (.iload_n 2, 1) := by decide +kernel
theorem dX5_glueFacing_4 : decode cX5_glueFacing 4 = .ok (.invokestatic 50, 3) := by decide +kernel
theorem dX5_glueFacing_7 : decode cX5_glueFacing 7 = .ok (.invokevirtual 46, 3) := by decide +kernel
theorem dX5_glueFacing_10 : decode cX5_glueFacing 10 = .ok (.iload_n 2, 1) := by decide +kernel
theorem dX5_glueFacing_11 : decode cX5_glueFacing 11 = .ok (.invokestatic 54, 3) := by decide +kernel
theorem dX5_glueFacing_14 : decode cX5_glueFacing 14 = .ok (.invokevirtual 57, 3) := by decide +kernel
theorem dX5_glueFacing_17 : decode cX5_glueFacing 17 = .ok (.ireturn, 1) := by decide +kernel
theorem dX5_strengthBetween_0 : decode cX5_strengthBetween 0 = .ok (.iload_n 1, 1) := by decide +kernel
theorem dX5_strengthBetween_1 : decode cX5_strengthBetween 1 = .ok (.iload_n 2, 1) := by decide +kernel
theorem dX5_strengthBetween_2 : decode cX5_strengthBetween 2 = .ok (.if_icmp .ne 22, 3) := by decide +kernel
theorem dX5_strengthBetween_5 : decode cX5_strengthBetween 5 = .ok (.iload_n 1, 1) := by decide +kernel
theorem dX5_strengthBetween_6 : decode cX5_strengthBetween 6 = .ok (.ifCond .le 18, 3) := by decide +kernel
theorem dX5_strengthBetween_9 : decode cX5_strengthBetween 9 = .ok (.iload_n 1, 1) := by decide +kernel
theorem dX5_strengthBetween_10 : decode cX5_strengthBetween 10 = .ok (.bipush 6, 2) := by decide +kernel
theorem dX5_strengthBetween_12 : decode cX5_strengthBetween 12 = .ok (.if_icmp .gt 12, 3) := by decide +kernel
theorem dX5_strengthBetween_15 : decode cX5_strengthBetween 15 = .ok (.aload_n 0, 1) := by decide +kernel
theorem dX5_strengthBetween_16 : decode cX5_strengthBetween 16 = .ok (.getfield 15, 3) := by decide +kernel
theorem dX5_strengthBetween_19 : decode cX5_strengthBetween 19 = .ok (.iload_n 1, 1) := by decide +kernel
theorem dX5_strengthBetween_20 : decode cX5_strengthBetween 20 = .ok (.iaload, 1) := by decide +kernel
theorem dX5_strengthBetween_21 : decode cX5_strengthBetween 21 = .ok (.goto 4, 3) := by decide +kernel
theorem dX5_strengthBetween_24 : decode cX5_strengthBetween 24 = .ok (.iconst 0, 1) := by decide +kernel
theorem dX5_strengthBetween_25 : decode cX5_strengthBetween 25 = .ok (.ireturn, 1) := by decide +kernel
theorem dX5_strengthToward_0 : decode cX5_strengthToward 0 = .ok (.aload_n 0, 1) := by decide +kernel
theorem dX5_strengthToward_1 : decode cX5_strengthToward 1 = .ok (.aload_n 0, 1) := by decide +kernel
theorem dX5_strengthToward_2 : decode cX5_strengthToward 2 = .ok (.aload_n 0, 1) := by decide +kernel
theorem dX5_strengthToward_3 : decode cX5_strengthToward 3 = .ok (.iload_n 1, 1) := by decide +kernel
theorem dX5_strengthToward_4 : decode cX5_strengthToward 4 = .ok (.invokevirtual 46, 3) := by decide +kernel
theorem dX5_strengthToward_7 : decode cX5_strengthToward 7 = .ok (.iload_n 2, 1) := by decide +kernel
theorem dX5_strengthToward_8 : decode cX5_strengthToward 8 = .ok (.invokevirtual 57, 3) := by decide +kernel
theorem dX5_strengthToward_11 : decode cX5_strengthToward 11 = .ok (.aload_n 0, 1) := by decide +kernel
theorem dX5_strengthToward_12 : decode cX5_strengthToward 12 = .ok (.iload_n 1, 1) := by decide +kernel
theorem dX5_strengthToward_13 : decode cX5_strengthToward 13 = .ok (.iload_n 2, 1) := by decide +kernel
theorem dX5_strengthToward_14 : decode cX5_strengthToward 14 = .ok (.invokevirtual 60, 3) := by decide +kernel
theorem dX5_strengthToward_17 : decode cX5_strengthToward 17 = .ok (.invokevirtual 63, 3) := by decide +kernel
theorem dX5_strengthToward_20 : decode cX5_strengthToward 20 = .ok (.ireturn, 1) := by decide +kernel
theorem dX5_isErrorToward_0 : decode cX5_isErrorToward 0 = .ok (.aload_n 0, 1) := by decide +kernel
theorem dX5_isErrorToward_1 : decode cX5_isErrorToward 1 = .ok (.aload_n 0, 1) := by decide +kernel
theorem dX5_isErrorToward_2 : decode cX5_isErrorToward 2 = .ok (.iload_n 1, 1) := by decide +kernel
theorem dX5_isErrorToward_3 : decode cX5_isErrorToward 3 = .ok (.invokevirtual 46, 3) := by decide +kernel
theorem dX5_isErrorToward_6 : decode cX5_isErrorToward 6 = .ok (.iload_n 2, 1) := by decide +kernel
theorem dX5_isErrorToward_7 : decode cX5_isErrorToward 7 = .ok (.invokevirtual 57, 3) := by decide +kernel
theorem dX5_isErrorToward_10 : decode cX5_isErrorToward 10 = .ok (.aload_n 0, 1) := by decide +kernel
theorem dX5_isErrorToward_11 : decode cX5_isErrorToward 11 = .ok (.iload_n 1, 1) := by decide +kernel
theorem dX5_isErrorToward_12 : decode cX5_isErrorToward 12 = .ok (.iload_n 2, 1) := by decide +kernel
theorem dX5_isErrorToward_13 : decode cX5_isErrorToward 13 = .ok (.invokevirtual 60, 3) := by decide +kernel
theorem dX5_isErrorToward_16 : decode cX5_isErrorToward 16 = .ok (.invokestatic 66, 3) := by decide +kernel
theorem dX5_isErrorToward_19 : decode cX5_isErrorToward 19 = .ok (.ireturn, 1) := by decide +kernel
theorem dX5_isNeighbourToward_0 : decode cX5_isNeighbourToward 0 = .ok (.aload_n 0, 1) := by decide +kernel
theorem dX5_isNeighbourToward_1 : decode cX5_isNeighbourToward 1 = .ok (.iload_n 1, 1) := by decide +kernel
theorem dX5_isNeighbourToward_2 : decode cX5_isNeighbourToward 2 = .ok (.iload_n 2, 1) := by decide +kernel
theorem dX5_isNeighbourToward_3 : decode cX5_isNeighbourToward 3 = .ok (.invokestatic 50, 3) := by decide +kernel
theorem dX5_isNeighbourToward_6 : decode cX5_isNeighbourToward 6 = .ok (.invokevirtual 70, 3) := by decide +kernel
theorem dX5_isNeighbourToward_9 : decode cX5_isNeighbourToward 9 = .ok (.ifCond .ne 7, 3) := by decide +kernel
theorem dX5_isNeighbourToward_12 : decode cX5_isNeighbourToward 12 = .ok (.iconst 1, 1) := by decide +kernel
theorem dX5_isNeighbourToward_13 : decode cX5_isNeighbourToward 13 = .ok (.goto 4, 3) := by decide +kernel
theorem dX5_isNeighbourToward_16 : decode cX5_isNeighbourToward 16 = .ok (.iconst 0, 1) := by decide +kernel
theorem dX5_isNeighbourToward_17 : decode cX5_isNeighbourToward 17 = .ok (.ireturn, 1) := by decide +kernel
theorem dX5_holdFor_0 : decode cX5_holdFor 0 = .ok (.iconst 0, 1) := by decide +kernel
theorem dX5_holdFor_1 : decode cX5_holdFor 1 = .ok (.istore_n 3, 1) := by decide +kernel
theorem dX5_holdFor_2 : decode cX5_holdFor 2 = .ok (.iconst 0, 1) := by decide +kernel
theorem dX5_holdFor_3 : decode cX5_holdFor 3 = .ok (.istore 4, 2) := by decide +kernel
theorem dX5_holdFor_5 : decode cX5_holdFor 5 = .ok (.iload 4, 2) := by decide +kernel
theorem dX5_holdFor_7 : decode cX5_holdFor 7 = .ok (.iconst 4, 1) := by decide +kernel
theorem dX5_holdFor_8 : decode cX5_holdFor 8 = .ok (.if_icmp .ge 30, 3) := by decide +kernel
theorem dX5_holdFor_11 : decode cX5_holdFor 11 = .ok (.iload_n 3, 1) := by decide +kernel
theorem dX5_holdFor_12 : decode cX5_holdFor 12 = .ok (.aload_n 0, 1) := by decide +kernel
theorem dX5_holdFor_13 : decode cX5_holdFor 13 = .ok (.aload_n 0, 1) := by decide +kernel
theorem dX5_holdFor_14 : decode cX5_holdFor 14 = .ok (.iload_n 1, 1) := by decide +kernel
theorem dX5_holdFor_15 : decode cX5_holdFor 15 = .ok (.iload 4, 2) := by decide +kernel
theorem dX5_holdFor_17 : decode cX5_holdFor 17 = .ok (.invokevirtual 57, 3) := by decide +kernel
theorem dX5_holdFor_20 : decode cX5_holdFor 20 = .ok (.aload_n 0, 1) := by decide +kernel
theorem dX5_holdFor_21 : decode cX5_holdFor 21 = .ok (.iload_n 2, 1) := by decide +kernel
theorem dX5_holdFor_22 : decode cX5_holdFor 22 = .ok (.iload 4, 2) := by decide +kernel
theorem dX5_holdFor_24 : decode cX5_holdFor 24 = .ok (.invokevirtual 60, 3) := by decide +kernel
theorem dX5_holdFor_27 : decode cX5_holdFor 27 = .ok (.invokevirtual 63, 3) := by decide +kernel
theorem dX5_holdFor_30 : decode cX5_holdFor 30 = .ok (.iadd, 1) := by decide +kernel
theorem dX5_holdFor_31 : decode cX5_holdFor 31 = .ok (.istore_n 3, 1) := by decide +kernel
theorem dX5_holdFor_32 : decode cX5_holdFor 32 = .ok (.iinc 4 1, 3) := by decide +kernel
theorem dX5_holdFor_35 : decode cX5_holdFor 35 = .ok (.goto (-30), 3) := by decide +kernel
theorem dX5_holdFor_38 : decode cX5_holdFor 38 = .ok (.iload_n 3, 1) := by decide +kernel
theorem dX5_holdFor_39 : decode cX5_holdFor 39 = .ok (.ireturn, 1) := by decide +kernel
theorem dX5_allHolds_0 : decode cX5_allHolds 0 = .ok (.iconst 0, 1) := by decide +kernel
theorem dX5_allHolds_1 : decode cX5_allHolds 1 = .ok (.istore_n 2, 1) := by decide +kernel
theorem dX5_allHolds_2 : decode cX5_allHolds 2 = .ok (.iconst 0, 1) := by decide +kernel
theorem dX5_allHolds_3 : decode cX5_allHolds 3 = .ok (.istore_n 3, 1) := by decide +kernel
theorem dX5_allHolds_4 : decode cX5_allHolds 4 = .ok (.iload_n 3, 1) := by decide +kernel
theorem dX5_allHolds_5 : decode cX5_allHolds 5 = .ok (.bipush 42, 2) := by decide +kernel
theorem dX5_allHolds_7 : decode cX5_allHolds 7 = .ok (.if_icmp .ge 49, 3) := by decide +kernel
theorem dX5_allHolds_10 : decode cX5_allHolds 10 = .ok (.iconst 1, 1) := by decide +kernel
theorem dX5_allHolds_11 : decode cX5_allHolds 11 = .ok (.istore 4, 2) := by decide +kernel
theorem dX5_allHolds_13 : decode cX5_allHolds 13 = .ok (.iload 4, 2) := by decide +kernel
theorem dX5_allHolds_15 : decode cX5_allHolds 15 = .ok (.iconst 2, 1) := by decide +kernel
theorem dX5_allHolds_16 : decode cX5_allHolds 16 = .ok (.if_icmp .gt 34, 3) := by decide +kernel
theorem dX5_allHolds_19 : decode cX5_allHolds 19 = .ok (.iload_n 3, 1) := by decide +kernel
theorem dX5_allHolds_20 : decode cX5_allHolds 20 = .ok (.iload_n 1, 1) := by decide +kernel
theorem dX5_allHolds_21 : decode cX5_allHolds 21 = .ok (.if_icmp .eq 23, 3) := by decide +kernel
theorem dX5_allHolds_24 : decode cX5_allHolds 24 = .ok (.iload_n 3, 1) := by decide +kernel
theorem dX5_allHolds_25 : decode cX5_allHolds 25 = .ok (.iload 4, 2) := by decide +kernel
theorem dX5_allHolds_27 : decode cX5_allHolds 27 = .ok (.invokestatic 50, 3) := by decide +kernel
theorem dX5_allHolds_30 : decode cX5_allHolds 30 = .ok (.iload_n 1, 1) := by decide +kernel
theorem dX5_allHolds_31 : decode cX5_allHolds 31 = .ok (.if_icmp .eq 13, 3) := by decide +kernel
theorem dX5_allHolds_34 : decode cX5_allHolds 34 = .ok (.iload_n 2, 1) := by decide +kernel
theorem dX5_allHolds_35 : decode cX5_allHolds 35 = .ok (.aload_n 0, 1) := by decide +kernel
theorem dX5_allHolds_36 : decode cX5_allHolds 36 = .ok (.iload_n 3, 1) := by decide +kernel
theorem dX5_allHolds_37 : decode cX5_allHolds 37 = .ok (.iload 4, 2) := by decide +kernel
theorem dX5_allHolds_39 : decode cX5_allHolds 39 = .ok (.invokevirtual 74, 3) := by decide +kernel
theorem dX5_allHolds_42 : decode cX5_allHolds 42 = .ok (.iadd, 1) := by decide +kernel
theorem dX5_allHolds_43 : decode cX5_allHolds 43 = .ok (.istore_n 2, 1) := by decide +kernel
theorem dX5_allHolds_44 : decode cX5_allHolds 44 = .ok (.iinc 4 1, 3) := by decide +kernel
theorem dX5_allHolds_47 : decode cX5_allHolds 47 = .ok (.goto (-34), 3) := by decide +kernel
theorem dX5_allHolds_50 : decode cX5_allHolds 50 = .ok (.iinc 3 1, 3) := by decide +kernel
theorem dX5_allHolds_53 : decode cX5_allHolds 53 = .ok (.goto (-49), 3) := by decide +kernel
theorem dX5_allHolds_56 : decode cX5_allHolds 56 = .ok (.iconst 2, 1) := by decide +kernel
theorem dX5_allHolds_57 : decode cX5_allHolds 57 = .ok (.iload_n 2, 1) := by decide +kernel
theorem dX5_allHolds_58 : decode cX5_allHolds 58 = .ok (.imul, 1) := by decide +kernel
theorem dX5_allHolds_59 : decode cX5_allHolds 59 = .ok (.ireturn, 1) := by decide +kernel
theorem dX5_errorsOf_0 : decode cX5_errorsOf 0 = .ok (.iconst 0, 1) := by decide +kernel
theorem dX5_errorsOf_1 : decode cX5_errorsOf 1 = .ok (.istore_n 2, 1) := by decide +kernel
theorem dX5_errorsOf_2 : decode cX5_errorsOf 2 = .ok (.iconst 0, 1) := by decide +kernel
theorem dX5_errorsOf_3 : decode cX5_errorsOf 3 = .ok (.istore_n 3, 1) := by decide +kernel
theorem dX5_errorsOf_4 : decode cX5_errorsOf 4 = .ok (.iload_n 3, 1) := by decide +kernel
theorem dX5_errorsOf_5 : decode cX5_errorsOf 5 = .ok (.iconst 4, 1) := by decide +kernel
theorem dX5_errorsOf_6 : decode cX5_errorsOf 6 = .ok (.if_icmp .ge 21, 3) := by decide +kernel
theorem dX5_errorsOf_9 : decode cX5_errorsOf 9 = .ok (.aload_n 0, 1) := by decide +kernel
theorem dX5_errorsOf_10 : decode cX5_errorsOf 10 = .ok (.iload_n 1, 1) := by decide +kernel
theorem dX5_errorsOf_11 : decode cX5_errorsOf 11 = .ok (.iload_n 3, 1) := by decide +kernel
theorem dX5_errorsOf_12 : decode cX5_errorsOf 12 = .ok (.invokevirtual 77, 3) := by decide +kernel
theorem dX5_errorsOf_15 : decode cX5_errorsOf 15 = .ok (.ifCond .eq 6, 3) := by decide +kernel
theorem dX5_errorsOf_18 : decode cX5_errorsOf 18 = .ok (.iinc 2 1, 3) := by decide +kernel
theorem dX5_errorsOf_21 : decode cX5_errorsOf 21 = .ok (.iinc 3 1, 3) := by decide +kernel
theorem dX5_errorsOf_24 : decode cX5_errorsOf 24 = .ok (.goto (-20), 3) := by decide +kernel
theorem dX5_errorsOf_27 : decode cX5_errorsOf 27 = .ok (.iload_n 2, 1) := by decide +kernel
theorem dX5_errorsOf_28 : decode cX5_errorsOf 28 = .ok (.ireturn, 1) := by decide +kernel
theorem dX5_errorPairs_0 : decode cX5_errorPairs 0 = .ok (.iconst 0, 1) := by decide +kernel
theorem dX5_errorPairs_1 : decode cX5_errorPairs 1 = .ok (.istore_n 1, 1) := by decide +kernel
theorem dX5_errorPairs_2 : decode cX5_errorPairs 2 = .ok (.iconst 0, 1) := by decide +kernel
theorem dX5_errorPairs_3 : decode cX5_errorPairs 3 = .ok (.istore_n 2, 1) := by decide +kernel
theorem dX5_errorPairs_4 : decode cX5_errorPairs 4 = .ok (.iload_n 2, 1) := by decide +kernel
theorem dX5_errorPairs_5 : decode cX5_errorPairs 5 = .ok (.bipush 42, 2) := by decide +kernel
theorem dX5_errorPairs_7 : decode cX5_errorPairs 7 = .ok (.if_icmp .ge 34, 3) := by decide +kernel
theorem dX5_errorPairs_10 : decode cX5_errorPairs 10 = .ok (.iconst 1, 1) := by decide +kernel
theorem dX5_errorPairs_11 : decode cX5_errorPairs 11 = .ok (.istore_n 3, 1) := by decide +kernel
theorem dX5_errorPairs_12 : decode cX5_errorPairs 12 = .ok (.iload_n 3, 1) := by decide +kernel
theorem dX5_errorPairs_13 : decode cX5_errorPairs 13 = .ok (.iconst 2, 1) := by decide +kernel
theorem dX5_errorPairs_14 : decode cX5_errorPairs 14 = .ok (.if_icmp .gt 21, 3) := by decide +kernel
theorem dX5_errorPairs_17 : decode cX5_errorPairs 17 = .ok (.aload_n 0, 1) := by decide +kernel
theorem dX5_errorPairs_18 : decode cX5_errorPairs 18 = .ok (.iload_n 2, 1) := by decide +kernel
theorem dX5_errorPairs_19 : decode cX5_errorPairs 19 = .ok (.iload_n 3, 1) := by decide +kernel
theorem dX5_errorPairs_20 : decode cX5_errorPairs 20 = .ok (.invokevirtual 77, 3) := by decide +kernel
theorem dX5_errorPairs_23 : decode cX5_errorPairs 23 = .ok (.ifCond .eq 6, 3) := by decide +kernel
theorem dX5_errorPairs_26 : decode cX5_errorPairs 26 = .ok (.iinc 1 1, 3) := by decide +kernel
theorem dX5_errorPairs_29 : decode cX5_errorPairs 29 = .ok (.iinc 3 1, 3) := by decide +kernel
theorem dX5_errorPairs_32 : decode cX5_errorPairs 32 = .ok (.goto (-20), 3) := by decide +kernel
theorem dX5_errorPairs_35 : decode cX5_errorPairs 35 = .ok (.iinc 2 1, 3) := by decide +kernel
theorem dX5_errorPairs_38 : decode cX5_errorPairs 38 = .ok (.goto (-34), 3) := by decide +kernel
theorem dX5_errorPairs_41 : decode cX5_errorPairs 41 = .ok (.iload_n 1, 1) := by decide +kernel
theorem dX5_errorPairs_42 : decode cX5_errorPairs 42 = .ok (.ireturn, 1) := by decide +kernel
theorem dX5_neighbourPairs_0 : decode cX5_neighbourPairs 0 = .ok (.iconst 0, 1) := by decide +kernel
theorem dX5_neighbourPairs_1 : decode cX5_neighbourPairs 1 = .ok (.istore_n 1, 1) := by decide +kernel
theorem dX5_neighbourPairs_2 : decode cX5_neighbourPairs 2 = .ok (.iconst 0, 1) := by decide +kernel
theorem dX5_neighbourPairs_3 : decode cX5_neighbourPairs 3 = .ok (.istore_n 2, 1) := by decide +kernel
theorem dX5_neighbourPairs_4 : decode cX5_neighbourPairs 4 = .ok (.iload_n 2, 1) := by decide +kernel
theorem dX5_neighbourPairs_5 : decode cX5_neighbourPairs 5 = .ok (.bipush 42, 2) := by decide +kernel
theorem dX5_neighbourPairs_7 : decode cX5_neighbourPairs 7 = .ok (.if_icmp .ge 42, 3) := by decide +kernel
theorem dX5_neighbourPairs_10 : decode cX5_neighbourPairs 10 = .ok (.iconst 1, 1) := by decide +kernel
theorem dX5_neighbourPairs_11 : decode cX5_neighbourPairs 11 = .ok (.istore_n 3, 1) := by decide +kernel
theorem dX5_neighbourPairs_12 : decode cX5_neighbourPairs 12 = .ok (.iload_n 3, 1) := by decide +kernel
theorem dX5_neighbourPairs_13 : decode cX5_neighbourPairs 13 = .ok (.iconst 2, 1) := by decide +kernel
theorem dX5_neighbourPairs_14 : decode cX5_neighbourPairs 14 = .ok (.if_icmp .gt 29, 3) := by decide +kernel
theorem dX5_neighbourPairs_17 : decode cX5_neighbourPairs 17 = .ok (.aload_n 0, 1) := by decide +kernel
theorem dX5_neighbourPairs_18 : decode cX5_neighbourPairs 18 = .ok (.iload_n 2, 1) := by decide +kernel
theorem dX5_neighbourPairs_19 : decode cX5_neighbourPairs 19 = .ok (.invokevirtual 70, 3) := by decide +kernel
theorem dX5_neighbourPairs_22 : decode cX5_neighbourPairs 22 = .ok (.ifCond .ne 15, 3) := by decide +kernel
theorem dX5_neighbourPairs_25 : decode cX5_neighbourPairs 25 = .ok (.aload_n 0, 1) := by decide +kernel
theorem dX5_neighbourPairs_26 : decode cX5_neighbourPairs 26 = .ok (.iload_n 2, 1) := by decide +kernel
theorem dX5_neighbourPairs_27 : decode cX5_neighbourPairs 27 = .ok (.iload_n 3, 1) := by decide +kernel
theorem dX5_neighbourPairs_28 : decode cX5_neighbourPairs 28 = .ok (.invokevirtual 80, 3) := by decide +kernel
theorem dX5_neighbourPairs_31 : decode cX5_neighbourPairs 31 = .ok (.ifCond .eq 6, 3) := by decide +kernel
theorem dX5_neighbourPairs_34 : decode cX5_neighbourPairs 34 = .ok (.iinc 1 1, 3) := by decide +kernel
theorem dX5_neighbourPairs_37 : decode cX5_neighbourPairs 37 = .ok (.iinc 3 1, 3) := by decide +kernel
theorem dX5_neighbourPairs_40 : decode cX5_neighbourPairs 40 = .ok (.goto (-28), 3) := by decide +kernel
theorem dX5_neighbourPairs_43 : decode cX5_neighbourPairs 43 = .ok (.iinc 2 1, 3) := by decide +kernel
theorem dX5_neighbourPairs_46 : decode cX5_neighbourPairs 46 = .ok (.goto (-42), 3) := by decide +kernel
theorem dX5_neighbourPairs_49 : decode cX5_neighbourPairs 49 = .ok (.iload_n 1, 1) := by decide +kernel
theorem dX5_neighbourPairs_50 : decode cX5_neighbourPairs 50 = .ok (.ireturn, 1) := by decide +kernel
theorem dX5_brickCount_0 : decode cX5_brickCount 0 = .ok (.iconst 0, 1) := by decide +kernel
theorem dX5_brickCount_1 : decode cX5_brickCount 1 = .ok (.istore_n 1, 1) := by decide +kernel
theorem dX5_brickCount_2 : decode cX5_brickCount 2 = .ok (.iconst 0, 1) := by decide +kernel
theorem dX5_brickCount_3 : decode cX5_brickCount 3 = .ok (.istore_n 2, 1) := by decide +kernel
theorem dX5_brickCount_4 : decode cX5_brickCount 4 = .ok (.iload_n 2, 1) := by decide +kernel
theorem dX5_brickCount_5 : decode cX5_brickCount 5 = .ok (.bipush 42, 2) := by decide +kernel
theorem dX5_brickCount_7 : decode cX5_brickCount 7 = .ok (.if_icmp .ge 20, 3) := by decide +kernel
theorem dX5_brickCount_10 : decode cX5_brickCount 10 = .ok (.aload_n 0, 1) := by decide +kernel
theorem dX5_brickCount_11 : decode cX5_brickCount 11 = .ok (.iload_n 2, 1) := by decide +kernel
theorem dX5_brickCount_12 : decode cX5_brickCount 12 = .ok (.invokevirtual 70, 3) := by decide +kernel
theorem dX5_brickCount_15 : decode cX5_brickCount 15 = .ok (.ifCond .ne 6, 3) := by decide +kernel
theorem dX5_brickCount_18 : decode cX5_brickCount 18 = .ok (.iinc 1 1, 3) := by decide +kernel
theorem dX5_brickCount_21 : decode cX5_brickCount 21 = .ok (.iinc 2 1, 3) := by decide +kernel
theorem dX5_brickCount_24 : decode cX5_brickCount 24 = .ok (.goto (-20), 3) := by decide +kernel
theorem dX5_brickCount_27 : decode cX5_brickCount 27 = .ok (.iload_n 1, 1) := by decide +kernel
theorem dX5_brickCount_28 : decode cX5_brickCount 28 = .ok (.ireturn, 1) := by decide +kernel
theorem dX5_put_0 : decode cX5_put 0 = .ok (.iload_n 1, 1) := by decide +kernel
theorem dX5_put_1 : decode cX5_put 1 = .ok (.invokestatic 83, 3) := by decide +kernel
theorem dX5_put_4 : decode cX5_put 4 = .ok (.ifCond .eq 20, 3) := by decide +kernel
theorem dX5_put_7 : decode cX5_put 7 = .ok (.aload_n 0, 1) := by decide +kernel
theorem dX5_put_8 : decode cX5_put 8 = .ok (.getfield 18, 3) := by decide +kernel
theorem dX5_put_11 : decode cX5_put 11 = .ok (.iload_n 1, 1) := by decide +kernel
theorem dX5_put_12 : decode cX5_put 12 = .ok (.iload_n 2, 1) := by decide +kernel
theorem dX5_put_13 : decode cX5_put 13 = .ok (.iastore, 1) := by decide +kernel
theorem dX5_put_14 : decode cX5_put 14 = .ok (.aload_n 0, 1) := by decide +kernel
theorem dX5_put_15 : decode cX5_put 15 = .ok (.dup, 1) := by decide +kernel
theorem dX5_put_16 : decode cX5_put 16 = .ok (.getfield 31, 3) := by decide +kernel
theorem dX5_put_19 : decode cX5_put 19 = .ok (.iconst 1, 1) := by decide +kernel
theorem dX5_put_20 : decode cX5_put 20 = .ok (.iadd, 1) := by decide +kernel
theorem dX5_put_21 : decode cX5_put 21 = .ok (.putfield 31, 3) := by decide +kernel
theorem dX5_put_24 : decode cX5_put 24 = .ok (.return_, 1) := by decide +kernel
theorem dX5_free_0 : decode cX5_free 0 = .ok (.iload_n 1, 1) := by decide +kernel
theorem dX5_free_1 : decode cX5_free 1 = .ok (.invokestatic 83, 3) := by decide +kernel
theorem dX5_free_4 : decode cX5_free 4 = .ok (.ifCond .eq 20, 3) := by decide +kernel
theorem dX5_free_7 : decode cX5_free 7 = .ok (.aload_n 0, 1) := by decide +kernel
theorem dX5_free_8 : decode cX5_free 8 = .ok (.getfield 18, 3) := by decide +kernel
theorem dX5_free_11 : decode cX5_free 11 = .ok (.iload_n 1, 1) := by decide +kernel
theorem dX5_free_12 : decode cX5_free 12 = .ok (.iconst (-1), 1) := by decide +kernel
theorem dX5_free_13 : decode cX5_free 13 = .ok (.iastore, 1) := by decide +kernel
theorem dX5_free_14 : decode cX5_free 14 = .ok (.aload_n 0, 1) := by decide +kernel
theorem dX5_free_15 : decode cX5_free 15 = .ok (.dup, 1) := by decide +kernel
theorem dX5_free_16 : decode cX5_free 16 = .ok (.getfield 37, 3) := by decide +kernel
theorem dX5_free_19 : decode cX5_free 19 = .ok (.iconst 1, 1) := by decide +kernel
theorem dX5_free_20 : decode cX5_free 20 = .ok (.iadd, 1) := by decide +kernel
theorem dX5_free_21 : decode cX5_free 21 = .ok (.putfield 37, 3) := by decide +kernel
theorem dX5_free_24 : decode cX5_free 24 = .ok (.iload_n 1, 1) := by decide +kernel
theorem dX5_free_25 : decode cX5_free 25 = .ok (.aload_n 0, 1) := by decide +kernel
theorem dX5_free_26 : decode cX5_free 26 = .ok (.getfield 28, 3) := by decide +kernel
theorem dX5_free_29 : decode cX5_free 29 = .ok (.if_icmp .ne 8, 3) := by decide +kernel
theorem dX5_free_32 : decode cX5_free 32 = .ok (.aload_n 0, 1) := by decide +kernel
theorem dX5_free_33 : decode cX5_free 33 = .ok (.iconst (-1), 1) := by decide +kernel
theorem dX5_free_34 : decode cX5_free 34 = .ok (.putfield 28, 3) := by decide +kernel
theorem dX5_free_37 : decode cX5_free 37 = .ok (.return_, 1) := by decide +kernel
theorem dX5_areAtOdds_0 : decode cX5_areAtOdds 0 = .ok (.iload_n 0, 1) := by decide +kernel
theorem dX5_areAtOdds_1 : decode cX5_areAtOdds 1 = .ok (.ifCond .le 16, 3) := by decide +kernel
theorem dX5_areAtOdds_4 : decode cX5_areAtOdds 4 = .ok (.iload_n 1, 1) := by decide +kernel
theorem dX5_areAtOdds_5 : decode cX5_areAtOdds 5 = .ok (.ifCond .le 12, 3) := by decide +kernel
theorem dX5_areAtOdds_8 : decode cX5_areAtOdds 8 = .ok (.iload_n 0, 1) := by decide +kernel
theorem dX5_areAtOdds_9 : decode cX5_areAtOdds 9 = .ok (.iload_n 1, 1) := by decide +kernel
theorem dX5_areAtOdds_10 : decode cX5_areAtOdds 10 = .ok (.if_icmp .eq 7, 3) := by decide +kernel
theorem dX5_areAtOdds_13 : decode cX5_areAtOdds 13 = .ok (.iconst 1, 1) := by decide +kernel
theorem dX5_areAtOdds_14 : decode cX5_areAtOdds 14 = .ok (.goto 4, 3) := by decide +kernel
theorem dX5_areAtOdds_17 : decode cX5_areAtOdds 17 = .ok (.iconst 0, 1) := by decide +kernel
theorem dX5_areAtOdds_18 : decode cX5_areAtOdds 18 = .ok (.ireturn, 1) := by decide +kernel
theorem dX6_init_0 : decode cX6_init 0 = .ok (.aload_n 0, 1) := by decide +kernel
theorem dX6_init_1 : decode cX6_init 1 = .ok (.invokespecial 3, 3) := by decide +kernel
theorem dX6_init_4 : decode cX6_init 4 = .ok (.aload_n 0, 1) := by decide +kernel
theorem dX6_init_5 : decode cX6_init 5 = .ok (.new 9, 3) := by decide +kernel
theorem dX6_init_8 : decode cX6_init 8 = .ok (.dup, 1) := by decide +kernel
theorem dX6_init_9 : decode cX6_init 9 = .ok (.invokespecial 11, 3) := by decide +kernel
theorem dX6_init_12 : decode cX6_init 12 = .ok (.putfield 12, 3) := by decide +kernel
theorem dX6_init_15 : decode cX6_init 15 = .ok (.aload_n 0, 1) := by decide +kernel
theorem dX6_init_16 : decode cX6_init 16 = .ok (.new 9, 3) := by decide +kernel
theorem dX6_init_19 : decode cX6_init 19 = .ok (.dup, 1) := by decide +kernel
theorem dX6_init_20 : decode cX6_init 20 = .ok (.invokespecial 11, 3) := by decide +kernel
theorem dX6_init_23 : decode cX6_init 23 = .ok (.putfield 16, 3) := by decide +kernel
theorem dX6_init_26 : decode cX6_init 26 = .ok (.aload_n 0, 1) := by decide +kernel
theorem dX6_init_27 : decode cX6_init 27 = .ok (.new 9, 3) := by decide +kernel
theorem dX6_init_30 : decode cX6_init 30 = .ok (.dup, 1) := by decide +kernel
theorem dX6_init_31 : decode cX6_init 31 = .ok (.invokespecial 11, 3) := by decide +kernel
theorem dX6_init_34 : decode cX6_init 34 = .ok (.putfield 19, 3) := by decide +kernel
theorem dX6_init_37 : decode cX6_init 37 = .ok (.aload_n 0, 1) := by decide +kernel
theorem dX6_init_38 : decode cX6_init 38 = .ok (.iconst 0, 1) := by decide +kernel
theorem dX6_init_39 : decode cX6_init 39 = .ok (.putfield 22, 3) := by decide +kernel
theorem dX6_init_42 : decode cX6_init 42 = .ok (.aload_n 0, 1) := by decide +kernel
theorem dX6_init_43 : decode cX6_init 43 = .ok (.new 26, 3) := by decide +kernel
theorem dX6_init_46 : decode cX6_init 46 = .ok (.dup, 1) := by decide +kernel
theorem dX6_init_47 : decode cX6_init 47 = .ok (.invokespecial 28, 3) := by decide +kernel
theorem dX6_init_50 : decode cX6_init 50 = .ok (.putfield 29, 3) := by decide +kernel
theorem dX6_init_53 : decode cX6_init 53 = .ok (.aload_n 0, 1) := by decide +kernel
theorem dX6_init_54 : decode cX6_init 54 = .ok (.new 33, 3) := by decide +kernel
theorem dX6_init_57 : decode cX6_init 57 = .ok (.dup, 1) := by decide +kernel
theorem dX6_init_58 : decode cX6_init 58 = .ok (.invokespecial 35, 3) := by decide +kernel
theorem dX6_init_61 : decode cX6_init 61 = .ok (.putfield 36, 3) := by decide +kernel
theorem dX6_init_64 : decode cX6_init 64 = .ok (.aload_n 0, 1) := by decide +kernel
theorem dX6_init_65 : decode cX6_init 65 = .ok (.new 40, 3) := by decide +kernel
theorem dX6_init_68 : decode cX6_init 68 = .ok (.dup, 1) := by decide +kernel
theorem dX6_init_69 : decode cX6_init 69 = .ok (.invokespecial 42, 3) := by decide +kernel
theorem dX6_init_72 : decode cX6_init 72 = .ok (.putfield 43, 3) := by decide +kernel
theorem dX6_init_75 : decode cX6_init 75 = .ok (.aload_n 0, 1) := by decide +kernel
theorem dX6_init_76 : decode cX6_init 76 = .ok (.new 47, 3) := by decide +kernel
theorem dX6_init_79 : decode cX6_init 79 = .ok (.dup, 1) := by decide +kernel
theorem dX6_init_80 : decode cX6_init 80 = .ok (.aload_n 0, 1) := by decide +kernel
theorem dX6_init_81 : decode cX6_init 81 = .ok (.getfield 36, 3) := by decide +kernel
theorem dX6_init_84 : decode cX6_init 84 = .ok (.aload_n 0, 1) := by decide +kernel
theorem dX6_init_85 : decode cX6_init 85 = .ok (.getfield 43, 3) := by decide +kernel
theorem dX6_init_88 : decode cX6_init 88 = .ok (.invokespecial 49, 3) := by decide +kernel
theorem dX6_init_91 : decode cX6_init 91 = .ok (.putfield 52, 3) := by decide +kernel
theorem dX6_init_94 : decode cX6_init 94 = .ok (.aload_n 0, 1) := by decide +kernel
theorem dX6_init_95 : decode cX6_init 95 = .ok (.iconst 0, 1) := by decide +kernel
theorem dX6_init_96 : decode cX6_init 96 = .ok (.putfield 56, 3) := by decide +kernel
theorem dX6_init_99 : decode cX6_init 99 = .ok (.aload_n 0, 1) := by decide +kernel
theorem dX6_init_100 : decode cX6_init 100 = .ok (.new 60, 3) := by decide +kernel
theorem dX6_init_103 : decode cX6_init 103 = .ok (.dup, 1) := by decide +kernel
theorem dX6_init_104 : decode cX6_init 104 = .ok (.invokespecial 62, 3) := by decide +kernel
theorem dX6_init_107 : decode cX6_init 107 = .ok (.putfield 63, 3) := by decide +kernel
theorem dX6_init_110 : decode cX6_init 110 = .ok (.aload_n 0, 1) := by decide +kernel
theorem dX6_init_111 : decode cX6_init 111 = .ok (.iconst (-1), 1) := by decide +kernel
theorem dX6_init_112 : decode cX6_init 112 = .ok (.putfield 67, 3) := by decide +kernel
theorem dX6_init_115 : decode cX6_init 115 = .ok (.aload_n 0, 1) := by decide +kernel
theorem dX6_init_116 : decode cX6_init 116 = .ok (.bipush 28, 2) := by decide +kernel
theorem dX6_init_118 : decode cX6_init 118 = .ok (.newarray .char, 2) := by decide +kernel
theorem dX6_init_120 : decode cX6_init 120 = .ok (.putfield 70, 3) := by decide +kernel
theorem dX6_init_123 : decode cX6_init 123 = .ok (.aload_n 0, 1) := by decide +kernel
theorem dX6_init_124 : decode cX6_init 124 = .ok (.iconst 0, 1) := by decide +kernel
theorem dX6_init_125 : decode cX6_init 125 = .ok (.putfield 74, 3) := by decide +kernel
theorem dX6_init_128 : decode cX6_init 128 = .ok (.return_, 1) := by decide +kernel
theorem dX6_kind_0 : decode cX6_kind 0 = .ok (.aload_n 0, 1) := by decide +kernel
theorem dX6_kind_1 : decode cX6_kind 1 = .ok (.getfield 16, 3) := by decide +kernel
theorem dX6_kind_4 : decode cX6_kind 4 = .ok (.aload_n 0, 1) := by decide +kernel
theorem dX6_kind_5 : decode cX6_kind 5 = .ok (.getfield 12, 3) := by decide +kernel
theorem dX6_kind_8 : decode cX6_kind 8 = .ok (.invokevirtual 77, 3) := by decide +kernel
theorem dX6_kind_11 : decode cX6_kind 11 = .ok (.aload_n 0, 1) := by decide +kernel
theorem dX6_kind_12 : decode cX6_kind 12 = .ok (.aload_n 0, 1) := by decide +kernel
theorem dX6_kind_13 : decode cX6_kind 13 = .ok (.getfield 52, 3) := by decide +kernel
theorem dX6_kind_16 : decode cX6_kind 16 = .ok (.aload_n 0, 1) := by decide +kernel
theorem dX6_kind_17 : decode cX6_kind 17 = .ok (.getfield 12, 3) := by decide +kernel
theorem dX6_kind_20 : decode cX6_kind 20 = .ok (.iload_n 1, 1) := by decide +kernel
theorem dX6_kind_21 : decode cX6_kind 21 = .ok (.iload_n 2, 1) := by decide +kernel
theorem dX6_kind_22 : decode cX6_kind 22 = .ok (.iload_n 3, 1) := by decide +kernel
theorem dX6_kind_23 : decode cX6_kind 23 = .ok (.iload 4, 2) := by decide +kernel
theorem dX6_kind_25 : decode cX6_kind 25 = .ok (.invokevirtual 81, 3) := by decide +kernel
theorem dX6_kind_28 : decode cX6_kind 28 = .ok (.invokevirtual 85, 3) := by decide +kernel
theorem dX6_kind_31 : decode cX6_kind 31 = .ok (.istore 5, 2) := by decide +kernel
theorem dX6_kind_33 : decode cX6_kind 33 = .ok (.iload 5, 2) := by decide +kernel
theorem dX6_kind_35 : decode cX6_kind 35 = .ok (.iconst (-1), 1) := by decide +kernel
theorem dX6_kind_36 : decode cX6_kind 36 = .ok (.if_icmp .ne 13, 3) := by decide +kernel
theorem dX6_kind_39 : decode cX6_kind 39 = .ok (.new 89, 3) := by decide +kernel
theorem dX6_kind_42 : decode cX6_kind 42 = .ok (.dup, 1) := by decide +kernel
theorem dX6_kind_43 : decode cX6_kind 43 = .ok (.ldc 91, 2) := by decide +kernel
theorem dX6_kind_45 : decode cX6_kind 45 = .ok (.invokespecial 93, 3) := by decide +kernel
theorem dX6_kind_48 : decode cX6_kind 48 = .ok (.athrow, 1) := by decide +kernel
theorem dX6_kind_49 : decode cX6_kind 49 = .ok (.iload 5, 2) := by decide +kernel
theorem dX6_kind_51 : decode cX6_kind 51 = .ok (.ireturn, 1) := by decide +kernel
theorem dX6_lay_0 : decode cX6_lay 0 = .ok (.aload_n 0, 1) := by decide +kernel
theorem dX6_lay_1 : decode cX6_lay 1 = .ok (.getfield 16, 3) := by decide +kernel
theorem dX6_lay_4 : decode cX6_lay 4 = .ok (.aload_n 0, 1) := by decide +kernel
theorem dX6_lay_5 : decode cX6_lay 5 = .ok (.getfield 12, 3) := by decide +kernel
theorem dX6_lay_8 : decode cX6_lay 8 = .ok (.invokevirtual 77, 3) := by decide +kernel
theorem dX6_lay_11 : decode cX6_lay 11 = .ok (.aload_n 0, 1) := by decide +kernel
theorem dX6_lay_12 : decode cX6_lay 12 = .ok (.aload_n 0, 1) := by decide +kernel
theorem dX6_lay_13 : decode cX6_lay 13 = .ok (.getfield 52, 3) := by decide +kernel
theorem dX6_lay_16 : decode cX6_lay 16 = .ok (.aload_n 0, 1) := by decide +kernel
theorem dX6_lay_17 : decode cX6_lay 17 = .ok (.getfield 12, 3) := by decide +kernel
theorem dX6_lay_20 : decode cX6_lay 20 = .ok (.iload_n 1, 1) := by decide +kernel
theorem dX6_lay_21 : decode cX6_lay 21 = .ok (.iload_n 2, 1) := by decide +kernel
theorem dX6_lay_22 : decode cX6_lay 22 = .ok (.iload_n 3, 1) := by decide +kernel
theorem dX6_lay_23 : decode cX6_lay 23 = .ok (.invokevirtual 96, 3) := by decide +kernel
theorem dX6_lay_26 : decode cX6_lay 26 = .ok (.invokevirtual 85, 3) := by decide +kernel
theorem dX6_lay_29 : decode cX6_lay 29 = .ok (.istore 4, 2) := by decide +kernel
theorem dX6_lay_31 : decode cX6_lay 31 = .ok (.iload 4, 2) := by decide +kernel
theorem dX6_lay_33 : decode cX6_lay 33 = .ok (.iconst (-1), 1) := by decide +kernel
theorem dX6_lay_34 : decode cX6_lay 34 = .ok (.if_icmp .ne 13, 3) := by decide +kernel
theorem dX6_lay_37 : decode cX6_lay 37 = .ok (.new 89, 3) := by decide +kernel
theorem dX6_lay_40 : decode cX6_lay 40 = .ok (.dup, 1) := by decide +kernel
theorem dX6_lay_41 : decode cX6_lay 41 = .ok (.ldc 100, 2) := by decide +kernel
theorem dX6_lay_43 : decode cX6_lay 43 = .ok (.invokespecial 93, 3) := by decide +kernel
theorem dX6_lay_46 : decode cX6_lay 46 = .ok (.athrow, 1) := by decide +kernel
theorem dX6_lay_47 : decode cX6_lay 47 = .ok (.iload 4, 2) := by decide +kernel
theorem dX6_lay_49 : decode cX6_lay 49 = .ok (.ireturn, 1) := by decide +kernel
theorem dX6_takeOut_0 : decode cX6_takeOut 0 = .ok (.aload_n 0, 1) := by decide +kernel
theorem dX6_takeOut_1 : decode cX6_takeOut 1 = .ok (.getfield 16, 3) := by decide +kernel
theorem dX6_takeOut_4 : decode cX6_takeOut 4 = .ok (.aload_n 0, 1) := by decide +kernel
theorem dX6_takeOut_5 : decode cX6_takeOut 5 = .ok (.getfield 12, 3) := by decide +kernel
theorem dX6_takeOut_8 : decode cX6_takeOut 8 = .ok (.invokevirtual 77, 3) := by decide +kernel
theorem dX6_takeOut_11 : decode cX6_takeOut 11 = .ok (.aload_n 0, 1) := by decide +kernel
theorem dX6_takeOut_12 : decode cX6_takeOut 12 = .ok (.aload_n 0, 1) := by decide +kernel
theorem dX6_takeOut_13 : decode cX6_takeOut 13 = .ok (.getfield 52, 3) := by decide +kernel
theorem dX6_takeOut_16 : decode cX6_takeOut 16 = .ok (.aload_n 0, 1) := by decide +kernel
theorem dX6_takeOut_17 : decode cX6_takeOut 17 = .ok (.getfield 12, 3) := by decide +kernel
theorem dX6_takeOut_20 : decode cX6_takeOut 20 = .ok (.iload_n 1, 1) := by decide +kernel
theorem dX6_takeOut_21 : decode cX6_takeOut 21 = .ok (.invokevirtual 102, 3) := by decide +kernel
theorem dX6_takeOut_24 : decode cX6_takeOut 24 = .ok (.invokevirtual 85, 3) := by decide +kernel
theorem dX6_takeOut_27 : decode cX6_takeOut 27 = .ok (.istore_n 2, 1) := by decide +kernel
theorem dX6_takeOut_28 : decode cX6_takeOut 28 = .ok (.iload_n 2, 1) := by decide +kernel
theorem dX6_takeOut_29 : decode cX6_takeOut 29 = .ok (.iconst (-1), 1) := by decide +kernel
theorem dX6_takeOut_30 : decode cX6_takeOut 30 = .ok (.if_icmp .ne 13, 3) := by decide +kernel
theorem dX6_takeOut_33 : decode cX6_takeOut 33 = .ok (.new 89, 3) := by decide +kernel
theorem dX6_takeOut_36 : decode cX6_takeOut 36 = .ok (.dup, 1) := by decide +kernel
theorem dX6_takeOut_37 : decode cX6_takeOut 37 = .ok (.ldc 106, 2) := by decide +kernel
theorem dX6_takeOut_39 : decode cX6_takeOut 39 = .ok (.invokespecial 93, 3) := by decide +kernel
theorem dX6_takeOut_42 : decode cX6_takeOut 42 = .ok (.athrow, 1) := by decide +kernel
theorem dX6_takeOut_43 : decode cX6_takeOut 43 = .ok (.iload_n 2, 1) := by decide +kernel
theorem dX6_takeOut_44 : decode cX6_takeOut 44 = .ok (.ireturn, 1) := by decide +kernel
theorem dX6_grow_0 : decode cX6_grow 0 = .ok (.aload_n 0, 1) := by decide +kernel
theorem dX6_grow_1 : decode cX6_grow 1 = .ok (.getfield 16, 3) := by decide +kernel
theorem dX6_grow_4 : decode cX6_grow 4 = .ok (.aload_n 0, 1) := by decide +kernel
theorem dX6_grow_5 : decode cX6_grow 5 = .ok (.getfield 12, 3) := by decide +kernel
theorem dX6_grow_8 : decode cX6_grow 8 = .ok (.invokevirtual 77, 3) := by decide +kernel
theorem dX6_grow_11 : decode cX6_grow 11 = .ok (.aload_n 0, 1) := by decide +kernel
theorem dX6_grow_12 : decode cX6_grow 12 = .ok (.aload_n 0, 1) := by decide +kernel
theorem dX6_grow_13 : decode cX6_grow 13 = .ok (.getfield 52, 3) := by decide +kernel
theorem dX6_grow_16 : decode cX6_grow 16 = .ok (.aload_n 0, 1) := by decide +kernel
theorem dX6_grow_17 : decode cX6_grow 17 = .ok (.getfield 12, 3) := by decide +kernel
theorem dX6_grow_20 : decode cX6_grow 20 = .ok (.iload_n 1, 1) := by decide +kernel
theorem dX6_grow_21 : decode cX6_grow 21 = .ok (.invokevirtual 108, 3) := by decide +kernel
theorem dX6_grow_24 : decode cX6_grow 24 = .ok (.invokevirtual 85, 3) := by decide +kernel
theorem dX6_grow_27 : decode cX6_grow 27 = .ok (.istore_n 2, 1) := by decide +kernel
theorem dX6_grow_28 : decode cX6_grow 28 = .ok (.iload_n 2, 1) := by decide +kernel
theorem dX6_grow_29 : decode cX6_grow 29 = .ok (.iconst (-1), 1) := by decide +kernel
theorem dX6_grow_30 : decode cX6_grow 30 = .ok (.if_icmp .ne 13, 3) := by decide +kernel
theorem dX6_grow_33 : decode cX6_grow 33 = .ok (.new 89, 3) := by decide +kernel
theorem dX6_grow_36 : decode cX6_grow 36 = .ok (.dup, 1) := by decide +kernel
theorem dX6_grow_37 : decode cX6_grow 37 = .ok (.ldc 111, 2) := by decide +kernel
theorem dX6_grow_39 : decode cX6_grow 39 = .ok (.invokespecial 93, 3) := by decide +kernel
theorem dX6_grow_42 : decode cX6_grow 42 = .ok (.athrow, 1) := by decide +kernel
theorem dX6_grow_43 : decode cX6_grow 43 = .ok (.iload_n 2, 1) := by decide +kernel
theorem dX6_grow_44 : decode cX6_grow 44 = .ok (.ireturn, 1) := by decide +kernel
theorem dX6_strength_0 : decode cX6_strength 0 = .ok (.aload_n 0, 1) := by decide +kernel
theorem dX6_strength_1 : decode cX6_strength 1 = .ok (.getfield 16, 3) := by decide +kernel
theorem dX6_strength_4 : decode cX6_strength 4 = .ok (.aload_n 0, 1) := by decide +kernel
theorem dX6_strength_5 : decode cX6_strength 5 = .ok (.getfield 12, 3) := by decide +kernel
theorem dX6_strength_8 : decode cX6_strength 8 = .ok (.invokevirtual 77, 3) := by decide +kernel
theorem dX6_strength_11 : decode cX6_strength 11 = .ok (.aload_n 0, 1) := by decide +kernel
theorem dX6_strength_12 : decode cX6_strength 12 = .ok (.aload_n 0, 1) := by decide +kernel
theorem dX6_strength_13 : decode cX6_strength 13 = .ok (.getfield 52, 3) := by decide +kernel
theorem dX6_strength_16 : decode cX6_strength 16 = .ok (.aload_n 0, 1) := by decide +kernel
theorem dX6_strength_17 : decode cX6_strength 17 = .ok (.getfield 12, 3) := by decide +kernel
theorem dX6_strength_20 : decode cX6_strength 20 = .ok (.iload_n 1, 1) := by decide +kernel
theorem dX6_strength_21 : decode cX6_strength 21 = .ok (.iload_n 2, 1) := by decide +kernel
theorem dX6_strength_22 : decode cX6_strength 22 = .ok (.invokevirtual 113, 3) := by decide +kernel
theorem dX6_strength_25 : decode cX6_strength 25 = .ok (.invokevirtual 85, 3) := by decide +kernel
theorem dX6_strength_28 : decode cX6_strength 28 = .ok (.istore_n 3, 1) := by decide +kernel
theorem dX6_strength_29 : decode cX6_strength 29 = .ok (.iload_n 3, 1) := by decide +kernel
theorem dX6_strength_30 : decode cX6_strength 30 = .ok (.iconst (-1), 1) := by decide +kernel
theorem dX6_strength_31 : decode cX6_strength 31 = .ok (.if_icmp .ne 13, 3) := by decide +kernel
theorem dX6_strength_34 : decode cX6_strength 34 = .ok (.new 89, 3) := by decide +kernel
theorem dX6_strength_37 : decode cX6_strength 37 = .ok (.dup, 1) := by decide +kernel
theorem dX6_strength_38 : decode cX6_strength 38 = .ok (.ldc 117, 2) := by decide +kernel
theorem dX6_strength_40 : decode cX6_strength 40 = .ok (.invokespecial 93, 3) := by decide +kernel
theorem dX6_strength_43 : decode cX6_strength 43 = .ok (.athrow, 1) := by decide +kernel
theorem dX6_strength_44 : decode cX6_strength 44 = .ok (.iload_n 3, 1) := by decide +kernel
theorem dX6_strength_45 : decode cX6_strength 45 = .ok (.ireturn, 1) := by decide +kernel
theorem dX6_need_0 : decode cX6_need 0 = .ok (.aload_n 0, 1) := by decide +kernel
theorem dX6_need_1 : decode cX6_need 1 = .ok (.getfield 16, 3) := by decide +kernel
theorem dX6_need_4 : decode cX6_need 4 = .ok (.aload_n 0, 1) := by decide +kernel
theorem dX6_need_5 : decode cX6_need 5 = .ok (.getfield 12, 3) := by decide +kernel
theorem dX6_need_8 : decode cX6_need 8 = .ok (.invokevirtual 77, 3) := by decide +kernel
theorem dX6_need_11 : decode cX6_need 11 = .ok (.aload_n 0, 1) := by decide +kernel
theorem dX6_need_12 : decode cX6_need 12 = .ok (.aload_n 0, 1) := by decide +kernel
theorem dX6_need_13 : decode cX6_need 13 = .ok (.getfield 52, 3) := by decide +kernel
theorem dX6_need_16 : decode cX6_need 16 = .ok (.aload_n 0, 1) := by decide +kernel
theorem dX6_need_17 : decode cX6_need 17 = .ok (.getfield 12, 3) := by decide +kernel
theorem dX6_need_20 : decode cX6_need 20 = .ok (.iload_n 1, 1) := by decide +kernel
theorem dX6_need_21 : decode cX6_need 21 = .ok (.invokevirtual 119, 3) := by decide +kernel
theorem dX6_need_24 : decode cX6_need 24 = .ok (.invokevirtual 85, 3) := by decide +kernel
theorem dX6_need_27 : decode cX6_need 27 = .ok (.istore_n 2, 1) := by decide +kernel
theorem dX6_need_28 : decode cX6_need 28 = .ok (.iload_n 2, 1) := by decide +kernel
theorem dX6_need_29 : decode cX6_need 29 = .ok (.iconst (-1), 1) := by decide +kernel
theorem dX6_need_30 : decode cX6_need 30 = .ok (.if_icmp .ne 13, 3) := by decide +kernel
theorem dX6_need_33 : decode cX6_need 33 = .ok (.new 89, 3) := by decide +kernel
theorem dX6_need_36 : decode cX6_need 36 = .ok (.dup, 1) := by decide +kernel
theorem dX6_need_37 : decode cX6_need 37 = .ok (.ldc 122, 2) := by decide +kernel
theorem dX6_need_39 : decode cX6_need 39 = .ok (.invokespecial 93, 3) := by decide +kernel
theorem dX6_need_42 : decode cX6_need 42 = .ok (.athrow, 1) := by decide +kernel
theorem dX6_need_43 : decode cX6_need 43 = .ok (.iload_n 2, 1) := by decide +kernel
theorem dX6_need_44 : decode cX6_need 44 = .ok (.ireturn, 1) := by decide +kernel
theorem dX6_glueOf_0 : decode cX6_glueOf 0 = .ok (.aload_n 0, 1) := by decide +kernel
theorem dX6_glueOf_1 : decode cX6_glueOf 1 = .ok (.getfield 12, 3) := by decide +kernel
theorem dX6_glueOf_4 : decode cX6_glueOf 4 = .ok (.iload_n 1, 1) := by decide +kernel
theorem dX6_glueOf_5 : decode cX6_glueOf 5 = .ok (.invokevirtual 124, 3) := by decide +kernel
theorem dX6_glueOf_8 : decode cX6_glueOf 8 = .ok (.ifCond .ne 13, 3) := by decide +kernel
theorem dX6_glueOf_11 : decode cX6_glueOf 11 = .ok (.new 128, 3) := by decide +kernel
theorem dX6_glueOf_14 : decode cX6_glueOf 14 = .ok (.dup, 1) := by decide +kernel
theorem dX6_glueOf_15 : decode cX6_glueOf 15 = .ok (.ldc 130, 2) := by decide +kernel
theorem dX6_glueOf_17 : decode cX6_glueOf 17 = .ok (.invokespecial 132, 3) := by decide +kernel
theorem dX6_glueOf_20 : decode cX6_glueOf 20 = .ok (.athrow, 1) := by decide +kernel
theorem dX6_glueOf_21 : decode cX6_glueOf 21 = .ok (.iload_n 2, 1) := by decide +kernel
theorem dX6_glueOf_22 : decode cX6_glueOf 22 = .ok (.invokestatic 133, 3) := by decide +kernel
theorem dX6_glueOf_25 : decode cX6_glueOf 25 = .ok (.ifCond .eq 10, 3) := by decide +kernel
theorem dX6_glueOf_28 : decode cX6_glueOf 28 = .ok (.iload_n 3, 1) := by decide +kernel
theorem dX6_glueOf_29 : decode cX6_glueOf 29 = .ok (.invokestatic 133, 3) := by decide +kernel
theorem dX6_glueOf_32 : decode cX6_glueOf 32 = .ok (.ifCond .ne 13, 3) := by decide +kernel
theorem dX6_glueOf_35 : decode cX6_glueOf 35 = .ok (.new 136, 3) := by decide +kernel
theorem dX6_glueOf_38 : decode cX6_glueOf 38 = .ok (.dup, 1) := by decide +kernel
theorem dX6_glueOf_39 : decode cX6_glueOf 39 = .ok (.ldc 138, 2) := by decide +kernel
theorem dX6_glueOf_41 : decode cX6_glueOf 41 = .ok (.invokespecial 140, 3) := by decide +kernel
theorem dX6_glueOf_44 : decode cX6_glueOf 44 = .ok (.athrow, 1) := by decide +kernel
theorem dX6_glueOf_45 : decode cX6_glueOf 45 = .ok (.aload_n 0, 1) := by decide +kernel
theorem dX6_glueOf_46 : decode cX6_glueOf 46 = .ok (.getfield 12, 3) := by decide +kernel
theorem dX6_glueOf_49 : decode cX6_glueOf 49 = .ok (.iload_n 1, 1) := by decide +kernel
theorem dX6_glueOf_50 : decode cX6_glueOf 50 = .ok (.iload_n 2, 1) := by decide +kernel
theorem dX6_glueOf_51 : decode cX6_glueOf 51 = .ok (.invokestatic 141, 3) := by decide +kernel
theorem dX6_glueOf_54 : decode cX6_glueOf 54 = .ok (.iload_n 3, 1) := by decide +kernel
theorem dX6_glueOf_55 : decode cX6_glueOf 55 = .ok (.invokevirtual 145, 3) := by decide +kernel
theorem dX6_glueOf_58 : decode cX6_glueOf 58 = .ok (.ireturn, 1) := by decide +kernel
theorem dX6_strengthOf_0 : decode cX6_strengthOf 0 = .ok (.iload_n 1, 1) := by decide +kernel
theorem dX6_strengthOf_1 : decode cX6_strengthOf 1 = .ok (.ifCond .lt 9, 3) := by decide +kernel
theorem dX6_strengthOf_4 : decode cX6_strengthOf 4 = .ok (.iload_n 1, 1) := by decide +kernel
theorem dX6_strengthOf_5 : decode cX6_strengthOf 5 = .ok (.bipush 6, 2) := by decide +kernel
theorem dX6_strengthOf_7 : decode cX6_strengthOf 7 = .ok (.if_icmp .le 13, 3) := by decide +kernel
theorem dX6_strengthOf_10 : decode cX6_strengthOf 10 = .ok (.new 136, 3) := by decide +kernel
theorem dX6_strengthOf_13 : decode cX6_strengthOf 13 = .ok (.dup, 1) := by decide +kernel
theorem dX6_strengthOf_14 : decode cX6_strengthOf 14 = .ok (.ldc 148, 2) := by decide +kernel
theorem dX6_strengthOf_16 : decode cX6_strengthOf 16 = .ok (.invokespecial 140, 3) := by decide +kernel
theorem dX6_strengthOf_19 : decode cX6_strengthOf 19 = .ok (.athrow, 1) := by decide +kernel
theorem dX6_strengthOf_20 : decode cX6_strengthOf 20 = .ok (.aload_n 0, 1) := by decide +kernel
theorem dX6_strengthOf_21 : decode cX6_strengthOf 21 = .ok (.getfield 12, 3) := by decide +kernel
theorem dX6_strengthOf_24 : decode cX6_strengthOf 24 = .ok (.getfield 150, 3) := by decide +kernel
theorem dX6_strengthOf_27 : decode cX6_strengthOf 27 = .ok (.iload_n 1, 1) := by decide +kernel
theorem dX6_strengthOf_28 : decode cX6_strengthOf 28 = .ok (.iaload, 1) := by decide +kernel
theorem dX6_strengthOf_29 : decode cX6_strengthOf 29 = .ok (.ireturn, 1) := by decide +kernel
theorem dX6_brickAt_0 : decode cX6_brickAt 0 = .ok (.iload_n 1, 1) := by decide +kernel
theorem dX6_brickAt_1 : decode cX6_brickAt 1 = .ok (.invokestatic 154, 3) := by decide +kernel
theorem dX6_brickAt_4 : decode cX6_brickAt 4 = .ok (.ifCond .ne 13, 3) := by decide +kernel
theorem dX6_brickAt_7 : decode cX6_brickAt 7 = .ok (.new 128, 3) := by decide +kernel
theorem dX6_brickAt_10 : decode cX6_brickAt 10 = .ok (.dup, 1) := by decide +kernel
theorem dX6_brickAt_11 : decode cX6_brickAt 11 = .ok (.ldc 157, 2) := by decide +kernel
theorem dX6_brickAt_13 : decode cX6_brickAt 13 = .ok (.invokespecial 132, 3) := by decide +kernel
theorem dX6_brickAt_16 : decode cX6_brickAt 16 = .ok (.athrow, 1) := by decide +kernel
theorem dX6_brickAt_17 : decode cX6_brickAt 17 = .ok (.aload_n 0, 1) := by decide +kernel
theorem dX6_brickAt_18 : decode cX6_brickAt 18 = .ok (.getfield 12, 3) := by decide +kernel
theorem dX6_brickAt_21 : decode cX6_brickAt 21 = .ok (.iload_n 1, 1) := by decide +kernel
theorem dX6_brickAt_22 : decode cX6_brickAt 22 = .ok (.invokevirtual 159, 3) := by decide +kernel
theorem dX6_brickAt_25 : decode cX6_brickAt 25 = .ok (.istore_n 3, 1) := by decide +kernel
theorem dX6_brickAt_26 : decode cX6_brickAt 26 = .ok (.iload_n 3, 1) := by decide +kernel
theorem dX6_brickAt_27 : decode cX6_brickAt 27 = .ok (.iconst (-1), 1) := by decide +kernel
theorem dX6_brickAt_28 : decode cX6_brickAt 28 = .ok (.if_icmp .ne 13, 3) := by decide +kernel
theorem dX6_brickAt_31 : decode cX6_brickAt 31 = .ok (.new 162, 3) := by decide +kernel
theorem dX6_brickAt_34 : decode cX6_brickAt 34 = .ok (.dup, 1) := by decide +kernel
theorem dX6_brickAt_35 : decode cX6_brickAt 35 = .ok (.ldc 164, 2) := by decide +kernel
theorem dX6_brickAt_37 : decode cX6_brickAt 37 = .ok (.invokespecial 166, 3) := by decide +kernel
theorem dX6_brickAt_40 : decode cX6_brickAt 40 = .ok (.athrow, 1) := by decide +kernel
theorem dX6_brickAt_41 : decode cX6_brickAt 41 = .ok (.iload_n 2, 1) := by decide +kernel
theorem dX6_brickAt_42 : decode cX6_brickAt 42 = .ok (.ifCond .eq 10, 3) := by decide +kernel
theorem dX6_brickAt_45 : decode cX6_brickAt 45 = .ok (.iload_n 3, 1) := by decide +kernel
theorem dX6_brickAt_46 : decode cX6_brickAt 46 = .ok (.invokestatic 167, 3) := by decide +kernel
theorem dX6_brickAt_49 : decode cX6_brickAt 49 = .ok (.goto 7, 3) := by decide +kernel
theorem dX6_brickAt_52 : decode cX6_brickAt 52 = .ok (.iload_n 3, 1) := by decide +kernel
theorem dX6_brickAt_53 : decode cX6_brickAt 53 = .ok (.invokestatic 170, 3) := by decide +kernel
theorem dX6_brickAt_56 : decode cX6_brickAt 56 = .ok (.ireturn, 1) := by decide +kernel
theorem dX6_seed_0 : decode cX6_seed 0 = .ok (.aload_n 0, 1) := by decide +kernel
theorem dX6_seed_1 : decode cX6_seed 1 = .ok (.getfield 12, 3) := by decide +kernel
theorem dX6_seed_4 : decode cX6_seed 4 = .ok (.getfield 173, 3) := by decide +kernel
theorem dX6_seed_7 : decode cX6_seed 7 = .ok (.iconst (-1), 1) := by decide +kernel
theorem dX6_seed_8 : decode cX6_seed 8 = .ok (.if_icmp .ne 13, 3) := by decide +kernel
theorem dX6_seed_11 : decode cX6_seed 11 = .ok (.new 162, 3) := by decide +kernel
theorem dX6_seed_14 : decode cX6_seed 14 = .ok (.dup, 1) := by decide +kernel
theorem dX6_seed_15 : decode cX6_seed 15 = .ok (.ldc 176, 2) := by decide +kernel
theorem dX6_seed_17 : decode cX6_seed 17 = .ok (.invokespecial 166, 3) := by decide +kernel
theorem dX6_seed_20 : decode cX6_seed 20 = .ok (.athrow, 1) := by decide +kernel
theorem dX6_seed_21 : decode cX6_seed 21 = .ok (.aload_n 0, 1) := by decide +kernel
theorem dX6_seed_22 : decode cX6_seed 22 = .ok (.getfield 12, 3) := by decide +kernel
theorem dX6_seed_25 : decode cX6_seed 25 = .ok (.getfield 173, 3) := by decide +kernel
theorem dX6_seed_28 : decode cX6_seed 28 = .ok (.ireturn, 1) := by decide +kernel
theorem dX6_hold_0 : decode cX6_hold 0 = .ok (.iload_n 1, 1) := by decide +kernel
theorem dX6_hold_1 : decode cX6_hold 1 = .ok (.invokestatic 154, 3) := by decide +kernel
theorem dX6_hold_4 : decode cX6_hold 4 = .ok (.ifCond .ne 13, 3) := by decide +kernel
theorem dX6_hold_7 : decode cX6_hold 7 = .ok (.new 128, 3) := by decide +kernel
theorem dX6_hold_10 : decode cX6_hold 10 = .ok (.dup, 1) := by decide +kernel
theorem dX6_hold_11 : decode cX6_hold 11 = .ok (.ldc 157, 2) := by decide +kernel
theorem dX6_hold_13 : decode cX6_hold 13 = .ok (.invokespecial 132, 3) := by decide +kernel
theorem dX6_hold_16 : decode cX6_hold 16 = .ok (.athrow, 1) := by decide +kernel
theorem dX6_hold_17 : decode cX6_hold 17 = .ok (.aload_n 0, 1) := by decide +kernel
theorem dX6_hold_18 : decode cX6_hold 18 = .ok (.getfield 12, 3) := by decide +kernel
theorem dX6_hold_21 : decode cX6_hold 21 = .ok (.iload_n 1, 1) := by decide +kernel
theorem dX6_hold_22 : decode cX6_hold 22 = .ok (.invokevirtual 159, 3) := by decide +kernel
theorem dX6_hold_25 : decode cX6_hold 25 = .ok (.istore_n 2, 1) := by decide +kernel
theorem dX6_hold_26 : decode cX6_hold 26 = .ok (.iload_n 2, 1) := by decide +kernel
theorem dX6_hold_27 : decode cX6_hold 27 = .ok (.iconst (-1), 1) := by decide +kernel
theorem dX6_hold_28 : decode cX6_hold 28 = .ok (.if_icmp .ne 13, 3) := by decide +kernel
theorem dX6_hold_31 : decode cX6_hold 31 = .ok (.new 162, 3) := by decide +kernel
theorem dX6_hold_34 : decode cX6_hold 34 = .ok (.dup, 1) := by decide +kernel
theorem dX6_hold_35 : decode cX6_hold 35 = .ok (.ldc 164, 2) := by decide +kernel
theorem dX6_hold_37 : decode cX6_hold 37 = .ok (.invokespecial 166, 3) := by decide +kernel
theorem dX6_hold_40 : decode cX6_hold 40 = .ok (.athrow, 1) := by decide +kernel
theorem dX6_hold_41 : decode cX6_hold 41 = .ok (.aload_n 0, 1) := by decide +kernel
theorem dX6_hold_42 : decode cX6_hold 42 = .ok (.getfield 12, 3) := by decide +kernel
theorem dX6_hold_45 : decode cX6_hold 45 = .ok (.iload_n 2, 1) := by decide +kernel
theorem dX6_hold_46 : decode cX6_hold 46 = .ok (.iload_n 1, 1) := by decide +kernel
theorem dX6_hold_47 : decode cX6_hold 47 = .ok (.invokevirtual 178, 3) := by decide +kernel
theorem dX6_hold_50 : decode cX6_hold 50 = .ok (.ireturn, 1) := by decide +kernel
theorem dX6_holdAgain_0 : decode cX6_holdAgain 0 = .ok (.iload_n 1, 1) := by decide +kernel
theorem dX6_holdAgain_1 : decode cX6_holdAgain 1 = .ok (.invokestatic 154, 3) := by decide +kernel
theorem dX6_holdAgain_4 : decode cX6_holdAgain 4 = .ok (.ifCond .ne 13, 3) := by decide +kernel
theorem dX6_holdAgain_7 : decode cX6_holdAgain 7 = .ok (.new 128, 3) := by decide +kernel
theorem dX6_holdAgain_10 : decode cX6_holdAgain 10 = .ok (.dup, 1) := by decide +kernel
theorem dX6_holdAgain_11 : decode cX6_holdAgain 11 = .ok (.ldc 157, 2) := by decide +kernel
theorem dX6_holdAgain_13 : decode cX6_holdAgain 13 = .ok (.invokespecial 132, 3) := by decide +kernel
theorem dX6_holdAgain_16 : decode cX6_holdAgain 16 = .ok (.athrow, 1) := by decide +kernel
theorem dX6_holdAgain_17 : decode cX6_holdAgain 17 = .ok (.aload_n 0, 1) := by decide +kernel
theorem dX6_holdAgain_18 : decode cX6_holdAgain 18 = .ok (.getfield 12, 3) := by decide +kernel
theorem dX6_holdAgain_21 : decode cX6_holdAgain 21 = .ok (.iload_n 1, 1) := by decide +kernel
theorem dX6_holdAgain_22 : decode cX6_holdAgain 22 = .ok (.invokevirtual 181, 3) := by decide +kernel
theorem dX6_holdAgain_25 : decode cX6_holdAgain 25 = .ok (.ifCond .eq 13, 3) := by decide +kernel
theorem dX6_holdAgain_28 : decode cX6_holdAgain 28 = .ok (.new 162, 3) := by decide +kernel
theorem dX6_holdAgain_31 : decode cX6_holdAgain 31 = .ok (.dup, 1) := by decide +kernel
theorem dX6_holdAgain_32 : decode cX6_holdAgain 32 = .ok (.ldc 164, 2) := by decide +kernel
theorem dX6_holdAgain_34 : decode cX6_holdAgain 34 = .ok (.invokespecial 166, 3) := by decide +kernel
theorem dX6_holdAgain_37 : decode cX6_holdAgain 37 = .ok (.athrow, 1) := by decide +kernel
theorem dX6_holdAgain_38 : decode cX6_holdAgain 38 = .ok (.aload_n 0, 1) := by decide +kernel
theorem dX6_holdAgain_39 : decode cX6_holdAgain 39 = .ok (.getfield 12, 3) := by decide +kernel
theorem dX6_holdAgain_42 : decode cX6_holdAgain 42 = .ok (.iconst (-1), 1) := by decide +kernel
theorem dX6_holdAgain_43 : decode cX6_holdAgain 43 = .ok (.invokevirtual 184, 3) := by decide +kernel
theorem dX6_holdAgain_46 : decode cX6_holdAgain 46 = .ok (.aload_n 0, 1) := by decide +kernel
theorem dX6_holdAgain_47 : decode cX6_holdAgain 47 = .ok (.getfield 12, 3) := by decide +kernel
theorem dX6_holdAgain_50 : decode cX6_holdAgain 50 = .ok (.iload_n 1, 1) := by decide +kernel
theorem dX6_holdAgain_51 : decode cX6_holdAgain 51 = .ok (.invokevirtual 184, 3) := by decide +kernel
theorem dX6_holdAgain_54 : decode cX6_holdAgain 54 = .ok (.isub, 1) := by decide +kernel
theorem dX6_holdAgain_55 : decode cX6_holdAgain 55 = .ok (.iconst 2, 1) := by decide +kernel
theorem dX6_holdAgain_56 : decode cX6_holdAgain 56 = .ok (.idiv, 1) := by decide +kernel
theorem dX6_holdAgain_57 : decode cX6_holdAgain 57 = .ok (.ireturn, 1) := by decide +kernel
theorem dX6_wouldHold_0 : decode cX6_wouldHold 0 = .ok (.iload_n 1, 1) := by decide +kernel
theorem dX6_wouldHold_1 : decode cX6_wouldHold 1 = .ok (.invokestatic 154, 3) := by decide +kernel
theorem dX6_wouldHold_4 : decode cX6_wouldHold 4 = .ok (.ifCond .eq 14, 3) := by decide +kernel
theorem dX6_wouldHold_7 : decode cX6_wouldHold 7 = .ok (.aload_n 0, 1) := by decide +kernel
theorem dX6_wouldHold_8 : decode cX6_wouldHold 8 = .ok (.getfield 12, 3) := by decide +kernel
theorem dX6_wouldHold_11 : decode cX6_wouldHold 11 = .ok (.iload_n 2, 1) := by decide +kernel
theorem dX6_wouldHold_12 : decode cX6_wouldHold 12 = .ok (.invokevirtual 124, 3) := by decide +kernel
theorem dX6_wouldHold_15 : decode cX6_wouldHold 15 = .ok (.ifCond .ne 13, 3) := by decide +kernel
theorem dX6_wouldHold_18 : decode cX6_wouldHold 18 = .ok (.new 128, 3) := by decide +kernel
theorem dX6_wouldHold_21 : decode cX6_wouldHold 21 = .ok (.dup, 1) := by decide +kernel
theorem dX6_wouldHold_22 : decode cX6_wouldHold 22 = .ok (.ldc 187, 2) := by decide +kernel
theorem dX6_wouldHold_24 : decode cX6_wouldHold 24 = .ok (.invokespecial 132, 3) := by decide +kernel
theorem dX6_wouldHold_27 : decode cX6_wouldHold 27 = .ok (.athrow, 1) := by decide +kernel
theorem dX6_wouldHold_28 : decode cX6_wouldHold 28 = .ok (.iload_n 3, 1) := by decide +kernel
theorem dX6_wouldHold_29 : decode cX6_wouldHold 29 = .ok (.invokestatic 133, 3) := by decide +kernel
theorem dX6_wouldHold_32 : decode cX6_wouldHold 32 = .ok (.ifCond .ne 13, 3) := by decide +kernel
theorem dX6_wouldHold_35 : decode cX6_wouldHold 35 = .ok (.new 136, 3) := by decide +kernel
theorem dX6_wouldHold_38 : decode cX6_wouldHold 38 = .ok (.dup, 1) := by decide +kernel
theorem dX6_wouldHold_39 : decode cX6_wouldHold 39 = .ok (.ldc 189, 2) := by decide +kernel
theorem dX6_wouldHold_41 : decode cX6_wouldHold 41 = .ok (.invokespecial 140, 3) := by decide +kernel
theorem dX6_wouldHold_44 : decode cX6_wouldHold 44 = .ok (.athrow, 1) := by decide +kernel
theorem dX6_wouldHold_45 : decode cX6_wouldHold 45 = .ok (.aload_n 0, 1) := by decide +kernel
theorem dX6_wouldHold_46 : decode cX6_wouldHold 46 = .ok (.getfield 12, 3) := by decide +kernel
theorem dX6_wouldHold_49 : decode cX6_wouldHold 49 = .ok (.iload_n 1, 1) := by decide +kernel
theorem dX6_wouldHold_50 : decode cX6_wouldHold 50 = .ok (.invokevirtual 181, 3) := by decide +kernel
theorem dX6_wouldHold_53 : decode cX6_wouldHold 53 = .ok (.ifCond .ne 13, 3) := by decide +kernel
theorem dX6_wouldHold_56 : decode cX6_wouldHold 56 = .ok (.new 162, 3) := by decide +kernel
theorem dX6_wouldHold_59 : decode cX6_wouldHold 59 = .ok (.dup, 1) := by decide +kernel
theorem dX6_wouldHold_60 : decode cX6_wouldHold 60 = .ok (.ldc 191, 2) := by decide +kernel
theorem dX6_wouldHold_62 : decode cX6_wouldHold 62 = .ok (.invokespecial 166, 3) := by decide +kernel
theorem dX6_wouldHold_65 : decode cX6_wouldHold 65 = .ok (.athrow, 1) := by decide +kernel
theorem dX6_wouldHold_66 : decode cX6_wouldHold 66 = .ok (.aload_n 0, 1) := by decide +kernel
theorem dX6_wouldHold_67 : decode cX6_wouldHold 67 = .ok (.getfield 12, 3) := by decide +kernel
theorem dX6_wouldHold_70 : decode cX6_wouldHold 70 = .ok (.iload_n 2, 1) := by decide +kernel
theorem dX6_wouldHold_71 : decode cX6_wouldHold 71 = .ok (.iload_n 3, 1) := by decide +kernel
theorem dX6_wouldHold_72 : decode cX6_wouldHold 72 = .ok (.invokestatic 141, 3) := by decide +kernel
theorem dX6_wouldHold_75 : decode cX6_wouldHold 75 = .ok (.iload_n 1, 1) := by decide +kernel
theorem dX6_wouldHold_76 : decode cX6_wouldHold 76 = .ok (.invokevirtual 178, 3) := by decide +kernel
theorem dX6_wouldHold_79 : decode cX6_wouldHold 79 = .ok (.ireturn, 1) := by decide +kernel
theorem dX6_stands_0 : decode cX6_stands 0 = .ok (.iload_n 1, 1) := by decide +kernel
theorem dX6_stands_1 : decode cX6_stands 1 = .ok (.invokestatic 154, 3) := by decide +kernel
theorem dX6_stands_4 : decode cX6_stands 4 = .ok (.ifCond .ne 13, 3) := by decide +kernel
theorem dX6_stands_7 : decode cX6_stands 7 = .ok (.new 128, 3) := by decide +kernel
theorem dX6_stands_10 : decode cX6_stands 10 = .ok (.dup, 1) := by decide +kernel
theorem dX6_stands_11 : decode cX6_stands 11 = .ok (.ldc 157, 2) := by decide +kernel
theorem dX6_stands_13 : decode cX6_stands 13 = .ok (.invokespecial 132, 3) := by decide +kernel
theorem dX6_stands_16 : decode cX6_stands 16 = .ok (.athrow, 1) := by decide +kernel
theorem dX6_stands_17 : decode cX6_stands 17 = .ok (.aload_n 0, 1) := by decide +kernel
theorem dX6_stands_18 : decode cX6_stands 18 = .ok (.getfield 12, 3) := by decide +kernel
theorem dX6_stands_21 : decode cX6_stands 21 = .ok (.iload_n 1, 1) := by decide +kernel
theorem dX6_stands_22 : decode cX6_stands 22 = .ok (.invokevirtual 181, 3) := by decide +kernel
theorem dX6_stands_25 : decode cX6_stands 25 = .ok (.ifCond .eq 13, 3) := by decide +kernel
theorem dX6_stands_28 : decode cX6_stands 28 = .ok (.new 162, 3) := by decide +kernel
theorem dX6_stands_31 : decode cX6_stands 31 = .ok (.dup, 1) := by decide +kernel
theorem dX6_stands_32 : decode cX6_stands 32 = .ok (.ldc 164, 2) := by decide +kernel
theorem dX6_stands_34 : decode cX6_stands 34 = .ok (.invokespecial 166, 3) := by decide +kernel
theorem dX6_stands_37 : decode cX6_stands 37 = .ok (.athrow, 1) := by decide +kernel
theorem dX6_stands_38 : decode cX6_stands 38 = .ok (.aload_n 0, 1) := by decide +kernel
theorem dX6_stands_39 : decode cX6_stands 39 = .ok (.getfield 36, 3) := by decide +kernel
theorem dX6_stands_42 : decode cX6_stands 42 = .ok (.aload_n 0, 1) := by decide +kernel
theorem dX6_stands_43 : decode cX6_stands 43 = .ok (.getfield 12, 3) := by decide +kernel
theorem dX6_stands_46 : decode cX6_stands 46 = .ok (.iconst (-1), 1) := by decide +kernel
theorem dX6_stands_47 : decode cX6_stands 47 = .ok (.invokevirtual 193, 3) := by decide +kernel
theorem dX6_stands_50 : decode cX6_stands 50 = .ok (.pop, 1) := by decide +kernel
theorem dX6_stands_51 : decode cX6_stands 51 = .ok (.aload_n 0, 1) := by decide +kernel
theorem dX6_stands_52 : decode cX6_stands 52 = .ok (.getfield 36, 3) := by decide +kernel
theorem dX6_stands_55 : decode cX6_stands 55 = .ok (.iload_n 1, 1) := by decide +kernel
theorem dX6_stands_56 : decode cX6_stands 56 = .ok (.invokevirtual 196, 3) := by decide +kernel
theorem dX6_stands_59 : decode cX6_stands 59 = .ok (.ireturn, 1) := by decide +kernel
theorem dX6_fallen_0 : decode cX6_fallen 0 = .ok (.aload_n 0, 1) := by decide +kernel
theorem dX6_fallen_1 : decode cX6_fallen 1 = .ok (.getfield 12, 3) := by decide +kernel
theorem dX6_fallen_4 : decode cX6_fallen 4 = .ok (.invokevirtual 199, 3) := by decide +kernel
theorem dX6_fallen_7 : decode cX6_fallen 7 = .ok (.aload_n 0, 1) := by decide +kernel
theorem dX6_fallen_8 : decode cX6_fallen 8 = .ok (.getfield 36, 3) := by decide +kernel
theorem dX6_fallen_11 : decode cX6_fallen 11 = .ok (.aload_n 0, 1) := by decide +kernel
theorem dX6_fallen_12 : decode cX6_fallen 12 = .ok (.getfield 12, 3) := by decide +kernel
theorem dX6_fallen_15 : decode cX6_fallen 15 = .ok (.iconst (-1), 1) := by decide +kernel
theorem dX6_fallen_16 : decode cX6_fallen 16 = .ok (.invokevirtual 193, 3) := by decide +kernel
theorem dX6_fallen_19 : decode cX6_fallen 19 = .ok (.isub, 1) := by decide +kernel
theorem dX6_fallen_20 : decode cX6_fallen 20 = .ok (.ireturn, 1) := by decide +kernel
theorem dX6_falls_0 : decode cX6_falls 0 = .ok (.iload_n 1, 1) := by decide +kernel
theorem dX6_falls_1 : decode cX6_falls 1 = .ok (.invokestatic 154, 3) := by decide +kernel
theorem dX6_falls_4 : decode cX6_falls 4 = .ok (.ifCond .ne 13, 3) := by decide +kernel
theorem dX6_falls_7 : decode cX6_falls 7 = .ok (.new 128, 3) := by decide +kernel
theorem dX6_falls_10 : decode cX6_falls 10 = .ok (.dup, 1) := by decide +kernel
theorem dX6_falls_11 : decode cX6_falls 11 = .ok (.ldc 157, 2) := by decide +kernel
theorem dX6_falls_13 : decode cX6_falls 13 = .ok (.invokespecial 132, 3) := by decide +kernel
theorem dX6_falls_16 : decode cX6_falls 16 = .ok (.athrow, 1) := by decide +kernel
theorem dX6_falls_17 : decode cX6_falls 17 = .ok (.aload_n 0, 1) := by decide +kernel
theorem dX6_falls_18 : decode cX6_falls 18 = .ok (.getfield 12, 3) := by decide +kernel
theorem dX6_falls_21 : decode cX6_falls 21 = .ok (.iload_n 1, 1) := by decide +kernel
theorem dX6_falls_22 : decode cX6_falls 22 = .ok (.invokevirtual 181, 3) := by decide +kernel
theorem dX6_falls_25 : decode cX6_falls 25 = .ok (.ifCond .eq 13, 3) := by decide +kernel
theorem dX6_falls_28 : decode cX6_falls 28 = .ok (.new 162, 3) := by decide +kernel
theorem dX6_falls_31 : decode cX6_falls 31 = .ok (.dup, 1) := by decide +kernel
theorem dX6_falls_32 : decode cX6_falls 32 = .ok (.ldc 164, 2) := by decide +kernel
theorem dX6_falls_34 : decode cX6_falls 34 = .ok (.invokespecial 166, 3) := by decide +kernel
theorem dX6_falls_37 : decode cX6_falls 37 = .ok (.athrow, 1) := by decide +kernel
theorem dX6_falls_38 : decode cX6_falls 38 = .ok (.aload_n 0, 1) := by decide +kernel
theorem dX6_falls_39 : decode cX6_falls 39 = .ok (.getfield 36, 3) := by decide +kernel
theorem dX6_falls_42 : decode cX6_falls 42 = .ok (.aload_n 0, 1) := by decide +kernel
theorem dX6_falls_43 : decode cX6_falls 43 = .ok (.getfield 12, 3) := by decide +kernel
theorem dX6_falls_46 : decode cX6_falls 46 = .ok (.iload_n 1, 1) := by decide +kernel
theorem dX6_falls_47 : decode cX6_falls 47 = .ok (.invokevirtual 203, 3) := by decide +kernel
theorem dX6_falls_50 : decode cX6_falls 50 = .ok (.ireturn, 1) := by decide +kernel
theorem dX6_errors_0 : decode cX6_errors 0 = .ok (.aload_n 0, 1) := by decide +kernel
theorem dX6_errors_1 : decode cX6_errors 1 = .ok (.getfield 12, 3) := by decide +kernel
theorem dX6_errors_4 : decode cX6_errors 4 = .ok (.invokevirtual 206, 3) := by decide +kernel
theorem dX6_errors_7 : decode cX6_errors 7 = .ok (.ireturn, 1) := by decide +kernel
theorem dX6_errorsAt_0 : decode cX6_errorsAt 0 = .ok (.iload_n 1, 1) := by decide +kernel
theorem dX6_errorsAt_1 : decode cX6_errorsAt 1 = .ok (.invokestatic 154, 3) := by decide +kernel
theorem dX6_errorsAt_4 : decode cX6_errorsAt 4 = .ok (.ifCond .ne 13, 3) := by decide +kernel
theorem dX6_errorsAt_7 : decode cX6_errorsAt 7 = .ok (.new 128, 3) := by decide +kernel
theorem dX6_errorsAt_10 : decode cX6_errorsAt 10 = .ok (.dup, 1) := by decide +kernel
theorem dX6_errorsAt_11 : decode cX6_errorsAt 11 = .ok (.ldc 157, 2) := by decide +kernel
theorem dX6_errorsAt_13 : decode cX6_errorsAt 13 = .ok (.invokespecial 132, 3) := by decide +kernel
theorem dX6_errorsAt_16 : decode cX6_errorsAt 16 = .ok (.athrow, 1) := by decide +kernel
theorem dX6_errorsAt_17 : decode cX6_errorsAt 17 = .ok (.aload_n 0, 1) := by decide +kernel
theorem dX6_errorsAt_18 : decode cX6_errorsAt 18 = .ok (.getfield 12, 3) := by decide +kernel
theorem dX6_errorsAt_21 : decode cX6_errorsAt 21 = .ok (.iload_n 1, 1) := by decide +kernel
theorem dX6_errorsAt_22 : decode cX6_errorsAt 22 = .ok (.invokevirtual 181, 3) := by decide +kernel
theorem dX6_errorsAt_25 : decode cX6_errorsAt 25 = .ok (.ifCond .eq 13, 3) := by decide +kernel
theorem dX6_errorsAt_28 : decode cX6_errorsAt 28 = .ok (.new 162, 3) := by decide +kernel
theorem dX6_errorsAt_31 : decode cX6_errorsAt 31 = .ok (.dup, 1) := by decide +kernel
theorem dX6_errorsAt_32 : decode cX6_errorsAt 32 = .ok (.ldc 164, 2) := by decide +kernel
theorem dX6_errorsAt_34 : decode cX6_errorsAt 34 = .ok (.invokespecial 166, 3) := by decide +kernel
theorem dX6_errorsAt_37 : decode cX6_errorsAt 37 = .ok (.athrow, 1) := by decide +kernel
theorem dX6_errorsAt_38 : decode cX6_errorsAt 38 = .ok (.aload_n 0, 1) := by decide +kernel
theorem dX6_errorsAt_39 : decode cX6_errorsAt 39 = .ok (.getfield 12, 3) := by decide +kernel
theorem dX6_errorsAt_42 : decode cX6_errorsAt 42 = .ok (.iload_n 1, 1) := by decide +kernel
theorem dX6_errorsAt_43 : decode cX6_errorsAt 43 = .ok (.invokevirtual 209, 3) := by decide +kernel
theorem dX6_errorsAt_46 : decode cX6_errorsAt 46 = .ok (.ireturn, 1) := by decide +kernel
theorem dX6_nextPlace_0 : decode cX6_nextPlace 0 = .ok (.aload_n 0, 1) := by decide +kernel
theorem dX6_nextPlace_1 : decode cX6_nextPlace 1 = .ok (.getfield 43, 3) := by decide +kernel
theorem dX6_nextPlace_4 : decode cX6_nextPlace 4 = .ok (.aload_n 0, 1) := by decide +kernel
theorem dX6_nextPlace_5 : decode cX6_nextPlace 5 = .ok (.getfield 12, 3) := by decide +kernel
theorem dX6_nextPlace_8 : decode cX6_nextPlace 8 = .ok (.iconst 0, 1) := by decide +kernel
theorem dX6_nextPlace_9 : decode cX6_nextPlace 9 = .ok (.invokevirtual 212, 3) := by decide +kernel
theorem dX6_nextPlace_12 : decode cX6_nextPlace 12 = .ok (.ifCond .ne 13, 3) := by decide +kernel
theorem dX6_nextPlace_15 : decode cX6_nextPlace 15 = .ok (.new 162, 3) := by decide +kernel
theorem dX6_nextPlace_18 : decode cX6_nextPlace 18 = .ok (.dup, 1) := by decide +kernel
theorem dX6_nextPlace_19 : decode cX6_nextPlace 19 = .ok (.ldc 216, 2) := by decide +kernel
theorem dX6_nextPlace_21 : decode cX6_nextPlace 21 = .ok (.invokespecial 166, 3) := by decide +kernel
theorem dX6_nextPlace_24 : decode cX6_nextPlace 24 = .ok (.athrow, 1) := by decide +kernel
theorem dX6_nextPlace_25 : decode cX6_nextPlace 25 = .ok (.aload_n 0, 1) := by decide +kernel
theorem dX6_nextPlace_26 : decode cX6_nextPlace 26 = .ok (.getfield 43, 3) := by decide +kernel
theorem dX6_nextPlace_29 : decode cX6_nextPlace 29 = .ok (.getfield 218, 3) := by decide +kernel
theorem dX6_nextPlace_32 : decode cX6_nextPlace 32 = .ok (.ireturn, 1) := by decide +kernel
theorem dX6_nextBrick_0 : decode cX6_nextBrick 0 = .ok (.aload_n 0, 1) := by decide +kernel
theorem dX6_nextBrick_1 : decode cX6_nextBrick 1 = .ok (.getfield 43, 3) := by decide +kernel
theorem dX6_nextBrick_4 : decode cX6_nextBrick 4 = .ok (.aload_n 0, 1) := by decide +kernel
theorem dX6_nextBrick_5 : decode cX6_nextBrick 5 = .ok (.getfield 12, 3) := by decide +kernel
theorem dX6_nextBrick_8 : decode cX6_nextBrick 8 = .ok (.iconst 0, 1) := by decide +kernel
theorem dX6_nextBrick_9 : decode cX6_nextBrick 9 = .ok (.invokevirtual 212, 3) := by decide +kernel
theorem dX6_nextBrick_12 : decode cX6_nextBrick 12 = .ok (.ifCond .ne 13, 3) := by decide +kernel
theorem dX6_nextBrick_15 : decode cX6_nextBrick 15 = .ok (.new 162, 3) := by decide +kernel
theorem dX6_nextBrick_18 : decode cX6_nextBrick 18 = .ok (.dup, 1) := by decide +kernel
theorem dX6_nextBrick_19 : decode cX6_nextBrick 19 = .ok (.ldc 216, 2) := by decide +kernel
theorem dX6_nextBrick_21 : decode cX6_nextBrick 21 = .ok (.invokespecial 166, 3) := by decide +kernel
theorem dX6_nextBrick_24 : decode cX6_nextBrick 24 = .ok (.athrow, 1) := by decide +kernel
theorem dX6_nextBrick_25 : decode cX6_nextBrick 25 = .ok (.aload_n 0, 1) := by decide +kernel
theorem dX6_nextBrick_26 : decode cX6_nextBrick 26 = .ok (.getfield 43, 3) := by decide +kernel
theorem dX6_nextBrick_29 : decode cX6_nextBrick 29 = .ok (.getfield 221, 3) := by decide +kernel
theorem dX6_nextBrick_32 : decode cX6_nextBrick 32 = .ok (.ireturn, 1) := by decide +kernel
theorem dX6_choices_0 : decode cX6_choices 0 = .ok (.iload_n 1, 1) := by decide +kernel
theorem dX6_choices_1 : decode cX6_choices 1 = .ok (.invokestatic 154, 3) := by decide +kernel
theorem dX6_choices_4 : decode cX6_choices 4 = .ok (.ifCond .ne 13, 3) := by decide +kernel
theorem dX6_choices_7 : decode cX6_choices 7 = .ok (.new 128, 3) := by decide +kernel
theorem dX6_choices_10 : decode cX6_choices 10 = .ok (.dup, 1) := by decide +kernel
theorem dX6_choices_11 : decode cX6_choices 11 = .ok (.ldc 157, 2) := by decide +kernel
theorem dX6_choices_13 : decode cX6_choices 13 = .ok (.invokespecial 132, 3) := by decide +kernel
theorem dX6_choices_16 : decode cX6_choices 16 = .ok (.athrow, 1) := by decide +kernel
theorem dX6_choices_17 : decode cX6_choices 17 = .ok (.aload_n 0, 1) := by decide +kernel
theorem dX6_choices_18 : decode cX6_choices 18 = .ok (.getfield 12, 3) := by decide +kernel
theorem dX6_choices_21 : decode cX6_choices 21 = .ok (.iload_n 1, 1) := by decide +kernel
theorem dX6_choices_22 : decode cX6_choices 22 = .ok (.invokevirtual 181, 3) := by decide +kernel
theorem dX6_choices_25 : decode cX6_choices 25 = .ok (.ifCond .ne 13, 3) := by decide +kernel
theorem dX6_choices_28 : decode cX6_choices 28 = .ok (.new 162, 3) := by decide +kernel
theorem dX6_choices_31 : decode cX6_choices 31 = .ok (.dup, 1) := by decide +kernel
theorem dX6_choices_32 : decode cX6_choices 32 = .ok (.ldc 191, 2) := by decide +kernel
theorem dX6_choices_34 : decode cX6_choices 34 = .ok (.invokespecial 166, 3) := by decide +kernel
theorem dX6_choices_37 : decode cX6_choices 37 = .ok (.athrow, 1) := by decide +kernel
theorem dX6_choices_38 : decode cX6_choices 38 = .ok (.aload_n 0, 1) := by decide +kernel
theorem dX6_choices_39 : decode cX6_choices 39 = .ok (.getfield 43, 3) := by decide +kernel
theorem dX6_choices_42 : decode cX6_choices 42 = .ok (.aload_n 0, 1) := by decide +kernel
theorem dX6_choices_43 : decode cX6_choices 43 = .ok (.getfield 12, 3) := by decide +kernel
theorem dX6_choices_46 : decode cX6_choices 46 = .ok (.iload_n 1, 1) := by decide +kernel
theorem dX6_choices_47 : decode cX6_choices 47 = .ok (.invokevirtual 224, 3) := by decide +kernel
theorem dX6_choices_50 : decode cX6_choices 50 = .ok (.ireturn, 1) := by decide +kernel
theorem dX6_stuck_0 : decode cX6_stuck 0 = .ok (.aload_n 0, 1) := by decide +kernel
theorem dX6_stuck_1 : decode cX6_stuck 1 = .ok (.getfield 43, 3) := by decide +kernel
theorem dX6_stuck_4 : decode cX6_stuck 4 = .ok (.aload_n 0, 1) := by decide +kernel
theorem dX6_stuck_5 : decode cX6_stuck 5 = .ok (.getfield 12, 3) := by decide +kernel
theorem dX6_stuck_8 : decode cX6_stuck 8 = .ok (.invokevirtual 227, 3) := by decide +kernel
theorem dX6_stuck_11 : decode cX6_stuck 11 = .ok (.ireturn, 1) := by decide +kernel
theorem dX6_growsTo_0 : decode cX6_growsTo 0 = .ok (.aload_n 0, 1) := by decide +kernel
theorem dX6_growsTo_1 : decode cX6_growsTo 1 = .ok (.getfield 16, 3) := by decide +kernel
theorem dX6_growsTo_4 : decode cX6_growsTo 4 = .ok (.aload_n 0, 1) := by decide +kernel
theorem dX6_growsTo_5 : decode cX6_growsTo 5 = .ok (.getfield 12, 3) := by decide +kernel
theorem dX6_growsTo_8 : decode cX6_growsTo 8 = .ok (.invokevirtual 77, 3) := by decide +kernel
theorem dX6_growsTo_11 : decode cX6_growsTo 11 = .ok (.aload_n 0, 1) := by decide +kernel
theorem dX6_growsTo_12 : decode cX6_growsTo 12 = .ok (.getfield 43, 3) := by decide +kernel
theorem dX6_growsTo_15 : decode cX6_growsTo 15 = .ok (.aload_n 0, 1) := by decide +kernel
theorem dX6_growsTo_16 : decode cX6_growsTo 16 = .ok (.getfield 16, 3) := by decide +kernel
theorem dX6_growsTo_19 : decode cX6_growsTo 19 = .ok (.bipush 42, 2) := by decide +kernel
theorem dX6_growsTo_21 : decode cX6_growsTo 21 = .ok (.invokevirtual 231, 3) := by decide +kernel
theorem dX6_growsTo_24 : decode cX6_growsTo 24 = .ok (.pop, 1) := by decide +kernel
theorem dX6_growsTo_25 : decode cX6_growsTo 25 = .ok (.aload_n 0, 1) := by decide +kernel
theorem dX6_growsTo_26 : decode cX6_growsTo 26 = .ok (.getfield 16, 3) := by decide +kernel
theorem dX6_growsTo_29 : decode cX6_growsTo 29 = .ok (.invokevirtual 199, 3) := by decide +kernel
theorem dX6_growsTo_32 : decode cX6_growsTo 32 = .ok (.ireturn, 1) := by decide +kernel
theorem dX6_inRow_0 : decode cX6_inRow 0 = .ok (.iload_n 1, 1) := by decide +kernel
theorem dX6_inRow_1 : decode cX6_inRow 1 = .ok (.ifCond .lt 18, 3) := by decide +kernel
theorem dX6_inRow_4 : decode cX6_inRow 4 = .ok (.iload_n 1, 1) := by decide +kernel
theorem dX6_inRow_5 : decode cX6_inRow 5 = .ok (.iload_n 2, 1) := by decide +kernel
theorem dX6_inRow_6 : decode cX6_inRow 6 = .ok (.ifCond .eq 8, 3) := by decide +kernel
theorem dX6_inRow_9 : decode cX6_inRow 9 = .ok (.bipush 7, 2) := by decide +kernel
theorem dX6_inRow_11 : decode cX6_inRow 11 = .ok (.goto 5, 3) := by decide +kernel
theorem dX6_inRow_14 : decode cX6_inRow 14 = .ok (.bipush 6, 2) := by decide +kernel
theorem dX6_inRow_16 : decode cX6_inRow 16 = .ok (.if_icmp .lt 13, 3) := by decide +kernel
theorem dX6_inRow_19 : decode cX6_inRow 19 = .ok (.new 128, 3) := by decide +kernel
theorem dX6_inRow_22 : decode cX6_inRow 22 = .ok (.dup, 1) := by decide +kernel
theorem dX6_inRow_23 : decode cX6_inRow 23 = .ok (.ldc 234, 2) := by decide +kernel
theorem dX6_inRow_25 : decode cX6_inRow 25 = .ok (.invokespecial 132, 3) := by decide +kernel
theorem dX6_inRow_28 : decode cX6_inRow 28 = .ok (.athrow, 1) := by decide +kernel
theorem dX6_inRow_29 : decode cX6_inRow 29 = .ok (.iconst 0, 1) := by decide +kernel
theorem dX6_inRow_30 : decode cX6_inRow 30 = .ok (.istore_n 3, 1) := by decide +kernel
theorem dX6_inRow_31 : decode cX6_inRow 31 = .ok (.iconst 0, 1) := by decide +kernel
theorem dX6_inRow_32 : decode cX6_inRow 32 = .ok (.istore 4, 2) := by decide +kernel
theorem dX6_inRow_34 : decode cX6_inRow 34 = .ok (.iload 4, 2) := by decide +kernel
theorem dX6_inRow_36 : decode cX6_inRow 36 = .ok (.bipush 42, 2) := by decide +kernel
theorem dX6_inRow_38 : decode cX6_inRow 38 = .ok (.if_icmp .ge 49, 3) := by decide +kernel
theorem dX6_inRow_41 : decode cX6_inRow 41 = .ok (.iload_n 2, 1) := by decide +kernel
theorem dX6_inRow_42 : decode cX6_inRow 42 = .ok (.ifCond .eq 11, 3) := by decide +kernel
theorem dX6_inRow_45 : decode cX6_inRow 45 = .ok (.iload 4, 2) := by decide +kernel
theorem dX6_inRow_47 : decode cX6_inRow 47 = .ok (.bipush 7, 2) := by decide +kernel
theorem dX6_inRow_49 : decode cX6_inRow 49 = .ok (.irem, 1) := by decide +kernel
theorem dX6_inRow_50 : decode cX6_inRow 50 = .ok (.goto 8, 3) := by decide +kernel
theorem dX6_inRow_53 : decode cX6_inRow 53 = .ok (.iload 4, 2) := by decide +kernel
theorem dX6_inRow_55 : decode cX6_inRow 55 = .ok (.bipush 7, 2) := by decide +kernel
theorem dX6_inRow_57 : decode cX6_inRow 57 = .ok (.idiv, 1) := by decide +kernel
theorem dX6_inRow_58 : decode cX6_inRow 58 = .ok (.istore 5, 2) := by decide +kernel
theorem dX6_inRow_60 : decode cX6_inRow 60 = .ok (.iload 5, 2) := by decide +kernel
theorem dX6_inRow_62 : decode cX6_inRow 62 = .ok (.iload_n 1, 1) := by decide +kernel
theorem dX6_inRow_63 : decode cX6_inRow 63 = .ok (.if_icmp .ne 18, 3) := by decide +kernel
theorem dX6_inRow_66 : decode cX6_inRow 66 = .ok (.aload_n 0, 1) := by decide +kernel
theorem dX6_inRow_67 : decode cX6_inRow 67 = .ok (.getfield 12, 3) := by decide +kernel
theorem dX6_inRow_70 : decode cX6_inRow 70 = .ok (.iload 4, 2) := by decide +kernel
theorem dX6_inRow_72 : decode cX6_inRow 72 = .ok (.invokevirtual 181, 3) := by decide +kernel
theorem dX6_inRow_75 : decode cX6_inRow 75 = .ok (.ifCond .ne 6, 3) := by decide +kernel
theorem dX6_inRow_78 : decode cX6_inRow 78 = .ok (.iinc 3 1, 3) := by decide +kernel
theorem dX6_inRow_81 : decode cX6_inRow 81 = .ok (.iinc 4 1, 3) := by decide +kernel
theorem dX6_inRow_84 : decode cX6_inRow 84 = .ok (.goto (-50), 3) := by decide +kernel
theorem dX6_inRow_87 : decode cX6_inRow 87 = .ok (.iload_n 3, 1) := by decide +kernel
theorem dX6_inRow_88 : decode cX6_inRow 88 = .ok (.ireturn, 1) := by decide +kernel
theorem dX6_weakest_0 : decode cX6_weakest 0 = .ok (.aload_n 0, 1) := by decide +kernel
theorem dX6_weakest_1 : decode cX6_weakest 1 = .ok (.iload_n 1, 1) := by decide +kernel
theorem dX6_weakest_2 : decode cX6_weakest 2 = .ok (.invokevirtual 236, 3) := by decide +kernel
theorem dX6_weakest_5 : decode cX6_weakest 5 = .ok (.istore_n 2, 1) := by decide +kernel
theorem dX6_weakest_6 : decode cX6_weakest 6 = .ok (.iload_n 2, 1) := by decide +kernel
theorem dX6_weakest_7 : decode cX6_weakest 7 = .ok (.iconst (-1), 1) := by decide +kernel
theorem dX6_weakest_8 : decode cX6_weakest 8 = .ok (.if_icmp .ne 13, 3) := by decide +kernel
theorem dX6_weakest_11 : decode cX6_weakest 11 = .ok (.new 162, 3) := by decide +kernel
theorem dX6_weakest_14 : decode cX6_weakest 14 = .ok (.dup, 1) := by decide +kernel
theorem dX6_weakest_15 : decode cX6_weakest 15 = .ok (.ldc 239, 2) := by decide +kernel
theorem dX6_weakest_17 : decode cX6_weakest 17 = .ok (.invokespecial 166, 3) := by decide +kernel
theorem dX6_weakest_20 : decode cX6_weakest 20 = .ok (.athrow, 1) := by decide +kernel
theorem dX6_weakest_21 : decode cX6_weakest 21 = .ok (.iload_n 2, 1) := by decide +kernel
theorem dX6_weakest_22 : decode cX6_weakest 22 = .ok (.ireturn, 1) := by decide +kernel
theorem dX6_append_0 : decode cX6_append 0 = .ok (.aload_n 0, 1) := by decide +kernel
theorem dX6_append_1 : decode cX6_append 1 = .ok (.getfield 63, 3) := by decide +kernel
theorem dX6_append_4 : decode cX6_append 4 = .ok (.invokevirtual 241, 3) := by decide +kernel
theorem dX6_append_7 : decode cX6_append 7 = .ok (.ifCond .eq 13, 3) := by decide +kernel
theorem dX6_append_10 : decode cX6_append 10 = .ok (.new 245, 3) := by decide +kernel
theorem dX6_append_13 : decode cX6_append 13 = .ok (.dup, 1) := by decide +kernel
theorem dX6_append_14 : decode cX6_append 14 = .ok (.ldc 247, 2) := by decide +kernel
theorem dX6_append_16 : decode cX6_append 16 = .ok (.invokespecial 249, 3) := by decide +kernel
theorem dX6_append_19 : decode cX6_append 19 = .ok (.athrow, 1) := by decide +kernel
theorem dX6_append_20 : decode cX6_append 20 = .ok (.aload_n 0, 1) := by decide +kernel
theorem dX6_append_21 : decode cX6_append 21 = .ok (.getfield 63, 3) := by decide +kernel
theorem dX6_append_24 : decode cX6_append 24 = .ok (.iload_n 1, 1) := by decide +kernel
theorem dX6_append_25 : decode cX6_append 25 = .ok (.invokevirtual 250, 3) := by decide +kernel
theorem dX6_append_28 : decode cX6_append 28 = .ok (.ireturn, 1) := by decide +kernel
theorem dX6_commands_0 : decode cX6_commands 0 = .ok (.aload_n 0, 1) := by decide +kernel
theorem dX6_commands_1 : decode cX6_commands 1 = .ok (.aload_n 0, 1) := by decide +kernel
theorem dX6_commands_2 : decode cX6_commands 2 = .ok (.getfield 63, 3) := by decide +kernel
theorem dX6_commands_5 : decode cX6_commands 5 = .ok (.invokevirtual 254, 3) := by decide +kernel
theorem dX6_commands_8 : decode cX6_commands 8 = .ok (.putfield 67, 3) := by decide +kernel
theorem dX6_commands_11 : decode cX6_commands 11 = .ok (.aload_n 0, 1) := by decide +kernel
theorem dX6_commands_12 : decode cX6_commands 12 = .ok (.getfield 63, 3) := by decide +kernel
theorem dX6_commands_15 : decode cX6_commands 15 = .ok (.invokevirtual 257, 3) := by decide +kernel
theorem dX6_commands_18 : decode cX6_commands 18 = .ok (.aload_n 0, 1) := by decide +kernel
theorem dX6_commands_19 : decode cX6_commands 19 = .ok (.getfield 67, 3) := by decide +kernel
theorem dX6_commands_22 : decode cX6_commands 22 = .ok (.iconst (-1), 1) := by decide +kernel
theorem dX6_commands_23 : decode cX6_commands 23 = .ok (.if_icmp .eq 14, 3) := by decide +kernel
theorem dX6_commands_26 : decode cX6_commands 26 = .ok (.new 136, 3) := by decide +kernel
theorem dX6_commands_29 : decode cX6_commands 29 = .ok (.dup, 1) := by decide +kernel
theorem dX6_commands_30 : decode cX6_commands 30 = .ok (.ldc_w 260, 3) := by decide +kernel
theorem dX6_commands_33 : decode cX6_commands 33 = .ok (.invokespecial 140, 3) := by decide +kernel
theorem dX6_commands_36 : decode cX6_commands 36 = .ok (.athrow, 1) := by decide +kernel
theorem dX6_commands_37 : decode cX6_commands 37 = .ok (.aload_n 0, 1) := by decide +kernel
end
section
theorem dX6_commands_38 : decode cX6_commands 38 = .ok (.getfield 16, 3) := by decide +kernel
theorem dX6_commands_41 : decode cX6_commands 41 = .ok (.aload_n 0, 1) := by decide +kernel
theorem dX6_commands_42 : decode cX6_commands 42 = .ok (.getfield 12, 3) := by decide +kernel
theorem dX6_commands_45 : decode cX6_commands 45 = .ok (.invokevirtual 77, 3) := by decide +kernel
theorem dX6_commands_48 : decode cX6_commands 48 = .ok (.iconst 0, 1) := by decide +kernel
theorem dX6_commands_49 : decode cX6_commands 49 = .ok (.istore_n 1, 1) := by decide +kernel
theorem dX6_commands_50 : decode cX6_commands 50 = .ok (.iload_n 1, 1) := by decide +kernel
theorem dX6_commands_51 : decode cX6_commands 51 = .ok (.aload_n 0, 1) := by decide +kernel
theorem dX6_commands_52 : decode cX6_commands 52 = .ok (.getfield 63, 3) := by decide +kernel
theorem dX6_commands_55 : decode cX6_commands 55 = .ok (.getfield 262, 3) := by decide +kernel
theorem dX6_commands_58 : decode cX6_commands 58 = .ok (.if_icmp .ge 45, 3) := by decide +kernel
theorem dX6_commands_61 : decode cX6_commands 61 = .ok (.aload_n 0, 1) := by decide +kernel
theorem dX6_commands_62 : decode cX6_commands 62 = .ok (.iload_n 1, 1) := by decide +kernel
theorem dX6_commands_63 : decode cX6_commands 63 = .ok (.invokevirtual 265, 3) := by decide +kernel
theorem dX6_commands_66 : decode cX6_commands 66 = .ok (.iconst (-1), 1) := by decide +kernel
theorem dX6_commands_67 : decode cX6_commands 67 = .ok (.if_icmp .ne 30, 3) := by decide +kernel
theorem dX6_commands_70 : decode cX6_commands 70 = .ok (.aload_n 0, 1) := by decide +kernel
theorem dX6_commands_71 : decode cX6_commands 71 = .ok (.iload_n 1, 1) := by decide +kernel
theorem dX6_commands_72 : decode cX6_commands 72 = .ok (.putfield 56, 3) := by decide +kernel
theorem dX6_commands_75 : decode cX6_commands 75 = .ok (.aload_n 0, 1) := by decide +kernel
theorem dX6_commands_76 : decode cX6_commands 76 = .ok (.getfield 12, 3) := by decide +kernel
theorem dX6_commands_79 : decode cX6_commands 79 = .ok (.aload_n 0, 1) := by decide +kernel
theorem dX6_commands_80 : decode cX6_commands 80 = .ok (.getfield 16, 3) := by decide +kernel
theorem dX6_commands_83 : decode cX6_commands 83 = .ok (.invokevirtual 77, 3) := by decide +kernel
theorem dX6_commands_86 : decode cX6_commands 86 = .ok (.new 89, 3) := by decide +kernel
theorem dX6_commands_89 : decode cX6_commands 89 = .ok (.dup, 1) := by decide +kernel
theorem dX6_commands_90 : decode cX6_commands 90 = .ok (.ldc_w 268, 3) := by decide +kernel
theorem dX6_commands_93 : decode cX6_commands 93 = .ok (.invokespecial 93, 3) := by decide +kernel
theorem dX6_commands_96 : decode cX6_commands 96 = .ok (.athrow, 1) := by decide +kernel
theorem dX6_commands_97 : decode cX6_commands 97 = .ok (.iinc 1 1, 3) := by decide +kernel
theorem dX6_commands_100 : decode cX6_commands 100 = .ok (.goto (-50), 3) := by decide +kernel
theorem dX6_commands_103 : decode cX6_commands 103 = .ok (.aload_n 0, 1) := by decide +kernel
theorem dX6_commands_104 : decode cX6_commands 104 = .ok (.getfield 29, 3) := by decide +kernel
theorem dX6_commands_107 : decode cX6_commands 107 = .ok (.aload_n 0, 1) := by decide +kernel
theorem dX6_commands_108 : decode cX6_commands 108 = .ok (.getfield 16, 3) := by decide +kernel
theorem dX6_commands_111 : decode cX6_commands 111 = .ok (.invokevirtual 270, 3) := by decide +kernel
theorem dX6_commands_114 : decode cX6_commands 114 = .ok (.aload_n 0, 1) := by decide +kernel
theorem dX6_commands_115 : decode cX6_commands 115 = .ok (.getfield 63, 3) := by decide +kernel
theorem dX6_commands_118 : decode cX6_commands 118 = .ok (.getfield 262, 3) := by decide +kernel
theorem dX6_commands_121 : decode cX6_commands 121 = .ok (.ireturn, 1) := by decide +kernel
theorem dX6_faultPosition_0 : decode cX6_faultPosition 0 = .ok (.aload_n 0, 1) := by decide +kernel
theorem dX6_faultPosition_1 : decode cX6_faultPosition 1 = .ok (.getfield 67, 3) := by decide +kernel
theorem dX6_faultPosition_4 : decode cX6_faultPosition 4 = .ok (.ireturn, 1) := by decide +kernel
theorem dX6_reason_0 : decode cX6_reason 0 = .ok (.iload_n 1, 1) := by decide +kernel
theorem dX6_reason_1 : decode cX6_reason 1 = .ok (.ifCond .lt 8, 3) := by decide +kernel
theorem dX6_reason_4 : decode cX6_reason 4 = .ok (.iload_n 1, 1) := by decide +kernel
theorem dX6_reason_5 : decode cX6_reason 5 = .ok (.iconst 2, 1) := by decide +kernel
theorem dX6_reason_6 : decode cX6_reason 6 = .ok (.if_icmp .le 14, 3) := by decide +kernel
theorem dX6_reason_9 : decode cX6_reason 9 = .ok (.new 136, 3) := by decide +kernel
theorem dX6_reason_12 : decode cX6_reason 12 = .ok (.dup, 1) := by decide +kernel
theorem dX6_reason_13 : decode cX6_reason 13 = .ok (.ldc_w 273, 3) := by decide +kernel
theorem dX6_reason_16 : decode cX6_reason 16 = .ok (.invokespecial 140, 3) := by decide +kernel
theorem dX6_reason_19 : decode cX6_reason 19 = .ok (.athrow, 1) := by decide +kernel
theorem dX6_reason_20 : decode cX6_reason 20 = .ok (.aload_n 0, 1) := by decide +kernel
theorem dX6_reason_21 : decode cX6_reason 21 = .ok (.getfield 52, 3) := by decide +kernel
theorem dX6_reason_24 : decode cX6_reason 24 = .ok (.getfield 275, 3) := by decide +kernel
theorem dX6_reason_27 : decode cX6_reason 27 = .ok (.ifCond .ne 14, 3) := by decide +kernel
theorem dX6_reason_30 : decode cX6_reason 30 = .ok (.new 162, 3) := by decide +kernel
theorem dX6_reason_33 : decode cX6_reason 33 = .ok (.dup, 1) := by decide +kernel
theorem dX6_reason_34 : decode cX6_reason 34 = .ok (.ldc_w 278, 3) := by decide +kernel
theorem dX6_reason_37 : decode cX6_reason 37 = .ok (.invokespecial 166, 3) := by decide +kernel
theorem dX6_reason_40 : decode cX6_reason 40 = .ok (.athrow, 1) := by decide +kernel
theorem dX6_reason_41 : decode cX6_reason 41 = .ok (.iload_n 1, 1) := by decide +kernel
theorem dX6_reason_42 : decode cX6_reason 42 = .ok (.ifCond .ne 11, 3) := by decide +kernel
theorem dX6_reason_45 : decode cX6_reason 45 = .ok (.aload_n 0, 1) := by decide +kernel
theorem dX6_reason_46 : decode cX6_reason 46 = .ok (.getfield 52, 3) := by decide +kernel
theorem dX6_reason_49 : decode cX6_reason 49 = .ok (.getfield 275, 3) := by decide +kernel
theorem dX6_reason_52 : decode cX6_reason 52 = .ok (.ireturn, 1) := by decide +kernel
theorem dX6_reason_53 : decode cX6_reason 53 = .ok (.iload_n 1, 1) := by decide +kernel
theorem dX6_reason_54 : decode cX6_reason 54 = .ok (.iconst 1, 1) := by decide +kernel
theorem dX6_reason_55 : decode cX6_reason 55 = .ok (.if_icmp .ne 13, 3) := by decide +kernel
theorem dX6_reason_58 : decode cX6_reason 58 = .ok (.aload_n 0, 1) := by decide +kernel
theorem dX6_reason_59 : decode cX6_reason 59 = .ok (.getfield 52, 3) := by decide +kernel
theorem dX6_reason_62 : decode cX6_reason 62 = .ok (.getfield 280, 3) := by decide +kernel
theorem dX6_reason_65 : decode cX6_reason 65 = .ok (.goto 7, 3) := by decide +kernel
theorem dX6_reason_68 : decode cX6_reason 68 = .ok (.aload_n 0, 1) := by decide +kernel
theorem dX6_reason_69 : decode cX6_reason 69 = .ok (.getfield 56, 3) := by decide +kernel
theorem dX6_reason_72 : decode cX6_reason 72 = .ok (.ireturn, 1) := by decide +kernel
theorem dX6_line_0 : decode cX6_line 0 = .ok (.iload_n 1, 1) := by decide +kernel
theorem dX6_line_1 : decode cX6_line 1 = .ok (.ifCond .lt 9, 3) := by decide +kernel
theorem dX6_line_4 : decode cX6_line 4 = .ok (.iload_n 1, 1) := by decide +kernel
theorem dX6_line_5 : decode cX6_line 5 = .ok (.bipush 6, 2) := by decide +kernel
theorem dX6_line_7 : decode cX6_line 7 = .ok (.if_icmp .lt 14, 3) := by decide +kernel
theorem dX6_line_10 : decode cX6_line 10 = .ok (.new 128, 3) := by decide +kernel
theorem dX6_line_13 : decode cX6_line 13 = .ok (.dup, 1) := by decide +kernel
theorem dX6_line_14 : decode cX6_line 14 = .ok (.ldc_w 283, 3) := by decide +kernel
theorem dX6_line_17 : decode cX6_line 17 = .ok (.invokespecial 132, 3) := by decide +kernel
theorem dX6_line_20 : decode cX6_line 20 = .ok (.athrow, 1) := by decide +kernel
theorem dX6_line_21 : decode cX6_line 21 = .ok (.aload_n 0, 1) := by decide +kernel
theorem dX6_line_22 : decode cX6_line 22 = .ok (.iconst 0, 1) := by decide +kernel
theorem dX6_line_23 : decode cX6_line 23 = .ok (.putfield 74, 3) := by decide +kernel
theorem dX6_line_26 : decode cX6_line 26 = .ok (.iconst 0, 1) := by decide +kernel
theorem dX6_line_27 : decode cX6_line 27 = .ok (.istore_n 2, 1) := by decide +kernel
theorem dX6_line_28 : decode cX6_line 28 = .ok (.iload_n 2, 1) := by decide +kernel
theorem dX6_line_29 : decode cX6_line 29 = .ok (.bipush 7, 2) := by decide +kernel
theorem dX6_line_31 : decode cX6_line 31 = .ok (.if_icmp .ge 26, 3) := by decide +kernel
theorem dX6_line_34 : decode cX6_line 34 = .ok (.aload_n 0, 1) := by decide +kernel
theorem dX6_line_35 : decode cX6_line 35 = .ok (.aload_n 0, 1) := by decide +kernel
theorem dX6_line_36 : decode cX6_line 36 = .ok (.getfield 12, 3) := by decide +kernel
theorem dX6_line_39 : decode cX6_line 39 = .ok (.iload_n 1, 1) := by decide +kernel
theorem dX6_line_40 : decode cX6_line 40 = .ok (.bipush 7, 2) := by decide +kernel
theorem dX6_line_42 : decode cX6_line 42 = .ok (.imul, 1) := by decide +kernel
theorem dX6_line_43 : decode cX6_line 43 = .ok (.iload_n 2, 1) := by decide +kernel
theorem dX6_line_44 : decode cX6_line 44 = .ok (.iadd, 1) := by decide +kernel
theorem dX6_line_45 : decode cX6_line 45 = .ok (.invokevirtual 159, 3) := by decide +kernel
theorem dX6_line_48 : decode cX6_line 48 = .ok (.invokevirtual 285, 3) := by decide +kernel
theorem dX6_line_51 : decode cX6_line 51 = .ok (.iinc 2 1, 3) := by decide +kernel
theorem dX6_line_54 : decode cX6_line 54 = .ok (.goto (-26), 3) := by decide +kernel
theorem dX6_line_57 : decode cX6_line 57 = .ok (.aload_n 0, 1) := by decide +kernel
theorem dX6_line_58 : decode cX6_line 58 = .ok (.getfield 74, 3) := by decide +kernel
theorem dX6_line_61 : decode cX6_line 61 = .ok (.ireturn, 1) := by decide +kernel
theorem dX6_character_0 : decode cX6_character 0 = .ok (.iload_n 1, 1) := by decide +kernel
theorem dX6_character_1 : decode cX6_character 1 = .ok (.ifCond .lt 11, 3) := by decide +kernel
theorem dX6_character_4 : decode cX6_character 4 = .ok (.iload_n 1, 1) := by decide +kernel
theorem dX6_character_5 : decode cX6_character 5 = .ok (.aload_n 0, 1) := by decide +kernel
theorem dX6_character_6 : decode cX6_character 6 = .ok (.getfield 74, 3) := by decide +kernel
theorem dX6_character_9 : decode cX6_character 9 = .ok (.if_icmp .lt 14, 3) := by decide +kernel
theorem dX6_character_12 : decode cX6_character 12 = .ok (.new 128, 3) := by decide +kernel
theorem dX6_character_15 : decode cX6_character 15 = .ok (.dup, 1) := by decide +kernel
theorem dX6_character_16 : decode cX6_character 16 = .ok (.ldc_w 289, 3) := by decide +kernel
theorem dX6_character_19 : decode cX6_character 19 = .ok (.invokespecial 132, 3) := by decide +kernel
theorem dX6_character_22 : decode cX6_character 22 = .ok (.athrow, 1) := by decide +kernel
theorem dX6_character_23 : decode cX6_character 23 = .ok (.aload_n 0, 1) := by decide +kernel
theorem dX6_character_24 : decode cX6_character 24 = .ok (.getfield 70, 3) := by decide +kernel
theorem dX6_character_27 : decode cX6_character 27 = .ok (.iload_n 1, 1) := by decide +kernel
theorem dX6_character_28 : decode cX6_character 28 = .ok (.caload, 1) := by decide +kernel
theorem dX6_character_29 : decode cX6_character 29 = .ok (.ireturn, 1) := by decide +kernel
theorem dX6_meanHold_0 : decode cX6_meanHold 0 = .ok (.aload_n 0, 1) := by decide +kernel
theorem dX6_meanHold_1 : decode cX6_meanHold 1 = .ok (.getfield 12, 3) := by decide +kernel
theorem dX6_meanHold_4 : decode cX6_meanHold 4 = .ok (.invokevirtual 199, 3) := by decide +kernel
theorem dX6_meanHold_7 : decode cX6_meanHold 7 = .ok (.istore_n 1, 1) := by decide +kernel
theorem dX6_meanHold_8 : decode cX6_meanHold 8 = .ok (.iload_n 1, 1) := by decide +kernel
theorem dX6_meanHold_9 : decode cX6_meanHold 9 = .ok (.ifCond .ne 14, 3) := by decide +kernel
theorem dX6_meanHold_12 : decode cX6_meanHold 12 = .ok (.new 291, 3) := by decide +kernel
theorem dX6_meanHold_15 : decode cX6_meanHold 15 = .ok (.dup, 1) := by decide +kernel
theorem dX6_meanHold_16 : decode cX6_meanHold 16 = .ok (.ldc_w 293, 3) := by decide +kernel
theorem dX6_meanHold_19 : decode cX6_meanHold 19 = .ok (.invokespecial 295, 3) := by decide +kernel
theorem dX6_meanHold_22 : decode cX6_meanHold 22 = .ok (.athrow, 1) := by decide +kernel
theorem dX6_meanHold_23 : decode cX6_meanHold 23 = .ok (.aload_n 0, 1) := by decide +kernel
theorem dX6_meanHold_24 : decode cX6_meanHold 24 = .ok (.getfield 12, 3) := by decide +kernel
theorem dX6_meanHold_27 : decode cX6_meanHold 27 = .ok (.iconst (-1), 1) := by decide +kernel
theorem dX6_meanHold_28 : decode cX6_meanHold 28 = .ok (.invokevirtual 184, 3) := by decide +kernel
theorem dX6_meanHold_31 : decode cX6_meanHold 31 = .ok (.i2d, 1) := by decide +kernel
theorem dX6_meanHold_32 : decode cX6_meanHold 32 = .ok (.iload_n 1, 1) := by decide +kernel
theorem dX6_meanHold_33 : decode cX6_meanHold 33 = .ok (.i2d, 1) := by decide +kernel
theorem dX6_meanHold_34 : decode cX6_meanHold 34 = .ok (.ddiv, 1) := by decide +kernel
theorem dX6_meanHold_35 : decode cX6_meanHold 35 = .ok (.dreturn, 1) := by decide +kernel
theorem dX6_standing_0 : decode cX6_standing 0 = .ok (.aload_n 0, 1) := by decide +kernel
theorem dX6_standing_1 : decode cX6_standing 1 = .ok (.getfield 12, 3) := by decide +kernel
theorem dX6_standing_4 : decode cX6_standing 4 = .ok (.invokevirtual 199, 3) := by decide +kernel
theorem dX6_standing_7 : decode cX6_standing 7 = .ok (.istore_n 1, 1) := by decide +kernel
theorem dX6_standing_8 : decode cX6_standing 8 = .ok (.iload_n 1, 1) := by decide +kernel
theorem dX6_standing_9 : decode cX6_standing 9 = .ok (.ifCond .ne 14, 3) := by decide +kernel
theorem dX6_standing_12 : decode cX6_standing 12 = .ok (.new 291, 3) := by decide +kernel
theorem dX6_standing_15 : decode cX6_standing 15 = .ok (.dup, 1) := by decide +kernel
theorem dX6_standing_16 : decode cX6_standing 16 = .ok (.ldc_w 293, 3) := by decide +kernel
theorem dX6_standing_19 : decode cX6_standing 19 = .ok (.invokespecial 295, 3) := by decide +kernel
theorem dX6_standing_22 : decode cX6_standing 22 = .ok (.athrow, 1) := by decide +kernel
theorem dX6_standing_23 : decode cX6_standing 23 = .ok (.aload_n 0, 1) := by decide +kernel
theorem dX6_standing_24 : decode cX6_standing 24 = .ok (.getfield 36, 3) := by decide +kernel
theorem dX6_standing_27 : decode cX6_standing 27 = .ok (.aload_n 0, 1) := by decide +kernel
theorem dX6_standing_28 : decode cX6_standing 28 = .ok (.getfield 12, 3) := by decide +kernel
theorem dX6_standing_31 : decode cX6_standing 31 = .ok (.iconst (-1), 1) := by decide +kernel
theorem dX6_standing_32 : decode cX6_standing 32 = .ok (.invokevirtual 193, 3) := by decide +kernel
theorem dX6_standing_35 : decode cX6_standing 35 = .ok (.i2f, 1) := by decide +kernel
theorem dX6_standing_36 : decode cX6_standing 36 = .ok (.iload_n 1, 1) := by decide +kernel
theorem dX6_standing_37 : decode cX6_standing 37 = .ok (.i2f, 1) := by decide +kernel
theorem dX6_standing_38 : decode cX6_standing 38 = .ok (.fdiv, 1) := by decide +kernel
theorem dX6_standing_39 : decode cX6_standing 39 = .ok (.freturn, 1) := by decide +kernel
theorem dX6_account_0 : decode cX6_account 0 = .ok (.iload_n 1, 1) := by decide +kernel
theorem dX6_account_1 : decode cX6_account 1 = .ok (.tableswitch 136 0 9 #[55, 63, 71, 79, 87, 95, 103, 112, 120, 128], 55) := by decide +kernel
theorem dX6_account_56 : decode cX6_account 56 = .ok (.aload_n 0, 1) := by decide +kernel
theorem dX6_account_57 : decode cX6_account 57 = .ok (.getfield 12, 3) := by decide +kernel
theorem dX6_account_60 : decode cX6_account 60 = .ok (.getfield 296, 3) := by decide +kernel
theorem dX6_account_63 : decode cX6_account 63 = .ok (.ireturn, 1) := by decide +kernel
theorem dX6_account_64 : decode cX6_account 64 = .ok (.aload_n 0, 1) := by decide +kernel
theorem dX6_account_65 : decode cX6_account 65 = .ok (.getfield 12, 3) := by decide +kernel
theorem dX6_account_68 : decode cX6_account 68 = .ok (.invokevirtual 199, 3) := by decide +kernel
theorem dX6_account_71 : decode cX6_account 71 = .ok (.ireturn, 1) := by decide +kernel
theorem dX6_account_72 : decode cX6_account 72 = .ok (.aload_n 0, 1) := by decide +kernel
theorem dX6_account_73 : decode cX6_account 73 = .ok (.getfield 12, 3) := by decide +kernel
theorem dX6_account_76 : decode cX6_account 76 = .ok (.getfield 299, 3) := by decide +kernel
theorem dX6_account_79 : decode cX6_account 79 = .ok (.ireturn, 1) := by decide +kernel
theorem dX6_account_80 : decode cX6_account 80 = .ok (.aload_n 0, 1) := by decide +kernel
theorem dX6_account_81 : decode cX6_account 81 = .ok (.getfield 12, 3) := by decide +kernel
theorem dX6_account_84 : decode cX6_account 84 = .ok (.getfield 302, 3) := by decide +kernel
theorem dX6_account_87 : decode cX6_account 87 = .ok (.ireturn, 1) := by decide +kernel
theorem dX6_account_88 : decode cX6_account 88 = .ok (.aload_n 0, 1) := by decide +kernel
theorem dX6_account_89 : decode cX6_account 89 = .ok (.getfield 12, 3) := by decide +kernel
theorem dX6_account_92 : decode cX6_account 92 = .ok (.getfield 305, 3) := by decide +kernel
theorem dX6_account_95 : decode cX6_account 95 = .ok (.ireturn, 1) := by decide +kernel
theorem dX6_account_96 : decode cX6_account 96 = .ok (.aload_n 0, 1) := by decide +kernel
theorem dX6_account_97 : decode cX6_account 97 = .ok (.getfield 12, 3) := by decide +kernel
theorem dX6_account_100 : decode cX6_account 100 = .ok (.getfield 308, 3) := by decide +kernel
theorem dX6_account_103 : decode cX6_account 103 = .ok (.ireturn, 1) := by decide +kernel
theorem dX6_account_104 : decode cX6_account 104 = .ok (.aload_n 0, 1) := by decide +kernel
theorem dX6_account_105 : decode cX6_account 105 = .ok (.getfield 12, 3) := by decide +kernel
theorem dX6_account_108 : decode cX6_account 108 = .ok (.iconst (-1), 1) := by decide +kernel
theorem dX6_account_109 : decode cX6_account 109 = .ok (.invokevirtual 184, 3) := by decide +kernel
theorem dX6_account_112 : decode cX6_account 112 = .ok (.ireturn, 1) := by decide +kernel
theorem dX6_account_113 : decode cX6_account 113 = .ok (.aload_n 0, 1) := by decide +kernel
theorem dX6_account_114 : decode cX6_account 114 = .ok (.getfield 12, 3) := by decide +kernel
theorem dX6_account_117 : decode cX6_account 117 = .ok (.invokevirtual 311, 3) := by decide +kernel
theorem dX6_account_120 : decode cX6_account 120 = .ok (.ireturn, 1) := by decide +kernel
theorem dX6_account_121 : decode cX6_account 121 = .ok (.aload_n 0, 1) := by decide +kernel
theorem dX6_account_122 : decode cX6_account 122 = .ok (.getfield 29, 3) := by decide +kernel
theorem dX6_account_125 : decode cX6_account 125 = .ok (.getfield 314, 3) := by decide +kernel
theorem dX6_account_128 : decode cX6_account 128 = .ok (.ireturn, 1) := by decide +kernel
theorem dX6_account_129 : decode cX6_account 129 = .ok (.aload_n 0, 1) := by decide +kernel
theorem dX6_account_130 : decode cX6_account 130 = .ok (.getfield 63, 3) := by decide +kernel
theorem dX6_account_133 : decode cX6_account 133 = .ok (.getfield 317, 3) := by decide +kernel
theorem dX6_account_136 : decode cX6_account 136 = .ok (.ireturn, 1) := by decide +kernel
theorem dX6_account_137 : decode cX6_account 137 = .ok (.new 136, 3) := by decide +kernel
theorem dX6_account_140 : decode cX6_account 140 = .ok (.dup, 1) := by decide +kernel
theorem dX6_account_141 : decode cX6_account 141 = .ok (.ldc_w 320, 3) := by decide +kernel
theorem dX6_account_144 : decode cX6_account 144 = .ok (.invokespecial 140, 3) := by decide +kernel
theorem dX6_account_147 : decode cX6_account 147 = .ok (.athrow, 1) := by decide +kernel
theorem dX6_undo_0 : decode cX6_undo 0 = .ok (.aload_n 0, 1) := by decide +kernel
theorem dX6_undo_1 : decode cX6_undo 1 = .ok (.getfield 29, 3) := by decide +kernel
theorem dX6_undo_4 : decode cX6_undo 4 = .ok (.getfield 314, 3) := by decide +kernel
theorem dX6_undo_7 : decode cX6_undo 7 = .ok (.ifCond .ne 14, 3) := by decide +kernel
theorem dX6_undo_10 : decode cX6_undo 10 = .ok (.new 245, 3) := by decide +kernel
theorem dX6_undo_13 : decode cX6_undo 13 = .ok (.dup, 1) := by decide +kernel
theorem dX6_undo_14 : decode cX6_undo 14 = .ok (.ldc_w 322, 3) := by decide +kernel
theorem dX6_undo_17 : decode cX6_undo 17 = .ok (.invokespecial 249, 3) := by decide +kernel
theorem dX6_undo_20 : decode cX6_undo 20 = .ok (.athrow, 1) := by decide +kernel
theorem dX6_undo_21 : decode cX6_undo 21 = .ok (.aload_n 0, 1) := by decide +kernel
theorem dX6_undo_22 : decode cX6_undo 22 = .ok (.getfield 29, 3) := by decide +kernel
theorem dX6_undo_25 : decode cX6_undo 25 = .ok (.aload_n 0, 1) := by decide +kernel
theorem dX6_undo_26 : decode cX6_undo 26 = .ok (.getfield 12, 3) := by decide +kernel
theorem dX6_undo_29 : decode cX6_undo 29 = .ok (.invokevirtual 324, 3) := by decide +kernel
theorem dX6_undo_32 : decode cX6_undo 32 = .ok (.aload_n 0, 1) := by decide +kernel
theorem dX6_undo_33 : decode cX6_undo 33 = .ok (.getfield 29, 3) := by decide +kernel
theorem dX6_undo_36 : decode cX6_undo 36 = .ok (.getfield 314, 3) := by decide +kernel
theorem dX6_undo_39 : decode cX6_undo 39 = .ok (.ireturn, 1) := by decide +kernel
theorem dX6_save_0 : decode cX6_save 0 = .ok (.aload_n 0, 1) := by decide +kernel
theorem dX6_save_1 : decode cX6_save 1 = .ok (.getfield 19, 3) := by decide +kernel
theorem dX6_save_4 : decode cX6_save 4 = .ok (.aload_n 0, 1) := by decide +kernel
theorem dX6_save_5 : decode cX6_save 5 = .ok (.getfield 12, 3) := by decide +kernel
theorem dX6_save_8 : decode cX6_save 8 = .ok (.invokevirtual 77, 3) := by decide +kernel
theorem dX6_save_11 : decode cX6_save 11 = .ok (.aload_n 0, 1) := by decide +kernel
theorem dX6_save_12 : decode cX6_save 12 = .ok (.iconst 1, 1) := by decide +kernel
theorem dX6_save_13 : decode cX6_save 13 = .ok (.putfield 22, 3) := by decide +kernel
theorem dX6_save_16 : decode cX6_save 16 = .ok (.aload_n 0, 1) := by decide +kernel
theorem dX6_save_17 : decode cX6_save 17 = .ok (.getfield 12, 3) := by decide +kernel
theorem dX6_save_20 : decode cX6_save 20 = .ok (.invokevirtual 199, 3) := by decide +kernel
theorem dX6_save_23 : decode cX6_save 23 = .ok (.ireturn, 1) := by decide +kernel
theorem dX6_restore_0 : decode cX6_restore 0 = .ok (.aload_n 0, 1) := by decide +kernel
theorem dX6_restore_1 : decode cX6_restore 1 = .ok (.getfield 22, 3) := by decide +kernel
theorem dX6_restore_4 : decode cX6_restore 4 = .ok (.ifCond .ne 14, 3) := by decide +kernel
theorem dX6_restore_7 : decode cX6_restore 7 = .ok (.new 245, 3) := by decide +kernel
theorem dX6_restore_10 : decode cX6_restore 10 = .ok (.dup, 1) := by decide +kernel
theorem dX6_restore_11 : decode cX6_restore 11 = .ok (.ldc_w 327, 3) := by decide +kernel
theorem dX6_restore_14 : decode cX6_restore 14 = .ok (.invokespecial 249, 3) := by decide +kernel
theorem dX6_restore_17 : decode cX6_restore 17 = .ok (.athrow, 1) := by decide +kernel
theorem dX6_restore_18 : decode cX6_restore 18 = .ok (.aload_n 0, 1) := by decide +kernel
theorem dX6_restore_19 : decode cX6_restore 19 = .ok (.getfield 12, 3) := by decide +kernel
theorem dX6_restore_22 : decode cX6_restore 22 = .ok (.aload_n 0, 1) := by decide +kernel
theorem dX6_restore_23 : decode cX6_restore 23 = .ok (.getfield 19, 3) := by decide +kernel
theorem dX6_restore_26 : decode cX6_restore 26 = .ok (.invokevirtual 77, 3) := by decide +kernel
theorem dX6_restore_29 : decode cX6_restore 29 = .ok (.aload_n 0, 1) := by decide +kernel
theorem dX6_restore_30 : decode cX6_restore 30 = .ok (.getfield 29, 3) := by decide +kernel
theorem dX6_restore_33 : decode cX6_restore 33 = .ok (.invokevirtual 329, 3) := by decide +kernel
theorem dX6_restore_36 : decode cX6_restore 36 = .ok (.aload_n 0, 1) := by decide +kernel
theorem dX6_restore_37 : decode cX6_restore 37 = .ok (.getfield 12, 3) := by decide +kernel
theorem dX6_restore_40 : decode cX6_restore 40 = .ok (.invokevirtual 199, 3) := by decide +kernel
theorem dX6_restore_43 : decode cX6_restore 43 = .ok (.ireturn, 1) := by decide +kernel
theorem dX6_isPlace_0 : decode cX6_isPlace 0 = .ok (.iload_n 0, 1) := by decide +kernel
theorem dX6_isPlace_1 : decode cX6_isPlace 1 = .ok (.ifCond .lt 13, 3) := by decide +kernel
theorem dX6_isPlace_4 : decode cX6_isPlace 4 = .ok (.iload_n 0, 1) := by decide +kernel
theorem dX6_isPlace_5 : decode cX6_isPlace 5 = .ok (.bipush 42, 2) := by decide +kernel
theorem dX6_isPlace_7 : decode cX6_isPlace 7 = .ok (.if_icmp .ge 7, 3) := by decide +kernel
theorem dX6_isPlace_10 : decode cX6_isPlace 10 = .ok (.iconst 1, 1) := by decide +kernel
theorem dX6_isPlace_11 : decode cX6_isPlace 11 = .ok (.goto 4, 3) := by decide +kernel
theorem dX6_isPlace_14 : decode cX6_isPlace 14 = .ok (.iconst 0, 1) := by decide +kernel
theorem dX6_isPlace_15 : decode cX6_isPlace 15 = .ok (.ireturn, 1) := by decide +kernel
theorem dX6_isTurnOrSide_0 : decode cX6_isTurnOrSide 0 = .ok (.iload_n 0, 1) := by decide +kernel
theorem dX6_isTurnOrSide_1 : decode cX6_isTurnOrSide 1 = .ok (.ifCond .lt 12, 3) := by decide +kernel
theorem dX6_isTurnOrSide_4 : decode cX6_isTurnOrSide 4 = .ok (.iload_n 0, 1) := by decide +kernel
theorem dX6_isTurnOrSide_5 : decode cX6_isTurnOrSide 5 = .ok (.iconst 4, 1) := by decide +kernel
theorem dX6_isTurnOrSide_6 : decode cX6_isTurnOrSide 6 = .ok (.if_icmp .ge 7, 3) := by decide +kernel
theorem dX6_isTurnOrSide_9 : decode cX6_isTurnOrSide 9 = .ok (.iconst 1, 1) := by decide +kernel
theorem dX6_isTurnOrSide_10 : decode cX6_isTurnOrSide 10 = .ok (.goto 4, 3) := by decide +kernel
theorem dX6_isTurnOrSide_13 : decode cX6_isTurnOrSide 13 = .ok (.iconst 0, 1) := by decide +kernel
theorem dX6_isTurnOrSide_14 : decode cX6_isTurnOrSide 14 = .ok (.ireturn, 1) := by decide +kernel
theorem dX6_brickOf_0 : decode cX6_brickOf 0 = .ok (.iload_n 0, 1) := by decide +kernel
theorem dX6_brickOf_1 : decode cX6_brickOf 1 = .ok (.iconst 4, 1) := by decide +kernel
theorem dX6_brickOf_2 : decode cX6_brickOf 2 = .ok (.imul, 1) := by decide +kernel
theorem dX6_brickOf_3 : decode cX6_brickOf 3 = .ok (.iload_n 1, 1) := by decide +kernel
theorem dX6_brickOf_4 : decode cX6_brickOf 4 = .ok (.iadd, 1) := by decide +kernel
theorem dX6_brickOf_5 : decode cX6_brickOf 5 = .ok (.ireturn, 1) := by decide +kernel
theorem dX6_kindOf_0 : decode cX6_kindOf 0 = .ok (.iload_n 0, 1) := by decide +kernel
theorem dX6_kindOf_1 : decode cX6_kindOf 1 = .ok (.iconst 4, 1) := by decide +kernel
theorem dX6_kindOf_2 : decode cX6_kindOf 2 = .ok (.idiv, 1) := by decide +kernel
theorem dX6_kindOf_3 : decode cX6_kindOf 3 = .ok (.ireturn, 1) := by decide +kernel
theorem dX6_turnOf_0 : decode cX6_turnOf 0 = .ok (.iload_n 0, 1) := by decide +kernel
theorem dX6_turnOf_1 : decode cX6_turnOf 1 = .ok (.iconst 4, 1) := by decide +kernel
theorem dX6_turnOf_2 : decode cX6_turnOf 2 = .ok (.irem, 1) := by decide +kernel
theorem dX6_turnOf_3 : decode cX6_turnOf 3 = .ok (.ireturn, 1) := by decide +kernel
theorem dX6_opposite_0 : decode cX6_opposite 0 = .ok (.iload_n 0, 1) := by decide +kernel
theorem dX6_opposite_1 : decode cX6_opposite 1 = .ok (.iconst 2, 1) := by decide +kernel
theorem dX6_opposite_2 : decode cX6_opposite 2 = .ok (.iadd, 1) := by decide +kernel
theorem dX6_opposite_3 : decode cX6_opposite 3 = .ok (.iconst 4, 1) := by decide +kernel
theorem dX6_opposite_4 : decode cX6_opposite 4 = .ok (.irem, 1) := by decide +kernel
theorem dX6_opposite_5 : decode cX6_opposite 5 = .ok (.ireturn, 1) := by decide +kernel
theorem dX6_beside_0 : decode cX6_beside 0 = .ok (.iload_n 0, 1) := by decide +kernel
theorem dX6_beside_1 : decode cX6_beside 1 = .ok (.bipush 7, 2) := by decide +kernel
theorem dX6_beside_3 : decode cX6_beside 3 = .ok (.irem, 1) := by decide +kernel
theorem dX6_beside_4 : decode cX6_beside 4 = .ok (.istore_n 2, 1) := by decide +kernel
theorem dX6_beside_5 : decode cX6_beside 5 = .ok (.iload_n 1, 1) := by decide +kernel
theorem dX6_beside_6 : decode cX6_beside 6 = .ok (.tableswitch 70 0 2 #[26, 41, 55], 26) := by decide +kernel
theorem dX6_beside_32 : decode cX6_beside 32 = .ok (.iload_n 0, 1) := by decide +kernel
theorem dX6_beside_33 : decode cX6_beside 33 = .ok (.bipush 7, 2) := by decide +kernel
theorem dX6_beside_35 : decode cX6_beside 35 = .ok (.if_icmp .ge 7, 3) := by decide +kernel
theorem dX6_beside_38 : decode cX6_beside 38 = .ok (.iconst (-1), 1) := by decide +kernel
theorem dX6_beside_39 : decode cX6_beside 39 = .ok (.goto 7, 3) := by decide +kernel
theorem dX6_beside_42 : decode cX6_beside 42 = .ok (.iload_n 0, 1) := by decide +kernel
theorem dX6_beside_43 : decode cX6_beside 43 = .ok (.bipush 7, 2) := by decide +kernel
theorem dX6_beside_45 : decode cX6_beside 45 = .ok (.isub, 1) := by decide +kernel
theorem dX6_beside_46 : decode cX6_beside 46 = .ok (.ireturn, 1) := by decide +kernel
theorem dX6_beside_47 : decode cX6_beside 47 = .ok (.iload_n 2, 1) := by decide +kernel
theorem dX6_beside_48 : decode cX6_beside 48 = .ok (.bipush 6, 2) := by decide +kernel
theorem dX6_beside_50 : decode cX6_beside 50 = .ok (.if_icmp .ne 7, 3) := by decide +kernel
theorem dX6_beside_53 : decode cX6_beside 53 = .ok (.iconst (-1), 1) := by decide +kernel
theorem dX6_beside_54 : decode cX6_beside 54 = .ok (.goto 6, 3) := by decide +kernel
theorem dX6_beside_57 : decode cX6_beside 57 = .ok (.iload_n 0, 1) := by decide +kernel
theorem dX6_beside_58 : decode cX6_beside 58 = .ok (.iconst 1, 1) := by decide +kernel
theorem dX6_beside_59 : decode cX6_beside 59 = .ok (.iadd, 1) := by decide +kernel
theorem dX6_beside_60 : decode cX6_beside 60 = .ok (.ireturn, 1) := by decide +kernel
theorem dX6_beside_61 : decode cX6_beside 61 = .ok (.iload_n 0, 1) := by decide +kernel
theorem dX6_beside_62 : decode cX6_beside 62 = .ok (.bipush 35, 2) := by decide +kernel
theorem dX6_beside_64 : decode cX6_beside 64 = .ok (.if_icmp .lt 7, 3) := by decide +kernel
theorem dX6_beside_67 : decode cX6_beside 67 = .ok (.iconst (-1), 1) := by decide +kernel
theorem dX6_beside_68 : decode cX6_beside 68 = .ok (.goto 7, 3) := by decide +kernel
theorem dX6_beside_71 : decode cX6_beside 71 = .ok (.iload_n 0, 1) := by decide +kernel
theorem dX6_beside_72 : decode cX6_beside 72 = .ok (.bipush 7, 2) := by decide +kernel
theorem dX6_beside_74 : decode cX6_beside 74 = .ok (.iadd, 1) := by decide +kernel
theorem dX6_beside_75 : decode cX6_beside 75 = .ok (.ireturn, 1) := by decide +kernel
theorem dX6_beside_76 : decode cX6_beside 76 = .ok (.iload_n 2, 1) := by decide +kernel
theorem dX6_beside_77 : decode cX6_beside 77 = .ok (.ifCond .ne 7, 3) := by decide +kernel
theorem dX6_beside_80 : decode cX6_beside 80 = .ok (.iconst (-1), 1) := by decide +kernel
theorem dX6_beside_81 : decode cX6_beside 81 = .ok (.goto 6, 3) := by decide +kernel
theorem dX6_beside_84 : decode cX6_beside 84 = .ok (.iload_n 0, 1) := by decide +kernel
theorem dX6_beside_85 : decode cX6_beside 85 = .ok (.iconst 1, 1) := by decide +kernel
theorem dX6_beside_86 : decode cX6_beside 86 = .ok (.isub, 1) := by decide +kernel
theorem dX6_beside_87 : decode cX6_beside 87 = .ok (.ireturn, 1) := by decide +kernel
theorem dX6_settled_0 : decode cX6_settled 0 = .ok (.iload_n 1, 1) := by decide +kernel
theorem dX6_settled_1 : decode cX6_settled 1 = .ok (.iconst (-1), 1) := by decide +kernel
theorem dX6_settled_2 : decode cX6_settled 2 = .ok (.if_icmp .ne 11, 3) := by decide +kernel
theorem dX6_settled_5 : decode cX6_settled 5 = .ok (.aload_n 0, 1) := by decide +kernel
theorem dX6_settled_6 : decode cX6_settled 6 = .ok (.iconst 0, 1) := by decide +kernel
theorem dX6_settled_7 : decode cX6_settled 7 = .ok (.putfield 56, 3) := by decide +kernel
theorem dX6_settled_10 : decode cX6_settled 10 = .ok (.goto 14, 3) := by decide +kernel
theorem dX6_settled_13 : decode cX6_settled 13 = .ok (.aload_n 0, 1) := by decide +kernel
theorem dX6_settled_14 : decode cX6_settled 14 = .ok (.getfield 29, 3) := by decide +kernel
theorem dX6_settled_17 : decode cX6_settled 17 = .ok (.aload_n 0, 1) := by decide +kernel
theorem dX6_settled_18 : decode cX6_settled 18 = .ok (.getfield 16, 3) := by decide +kernel
theorem dX6_settled_21 : decode cX6_settled 21 = .ok (.invokevirtual 270, 3) := by decide +kernel
theorem dX6_settled_24 : decode cX6_settled 24 = .ok (.iload_n 1, 1) := by decide +kernel
theorem dX6_settled_25 : decode cX6_settled 25 = .ok (.ireturn, 1) := by decide +kernel
theorem dX6_carryOut_0 : decode cX6_carryOut 0 = .ok (.aload_n 0, 1) := by decide +kernel
theorem dX6_carryOut_1 : decode cX6_carryOut 1 = .ok (.getfield 63, 3) := by decide +kernel
theorem dX6_carryOut_4 : decode cX6_carryOut 4 = .ok (.iload_n 1, 1) := by decide +kernel
theorem dX6_carryOut_5 : decode cX6_carryOut 5 = .ok (.iconst 0, 1) := by decide +kernel
theorem dX6_carryOut_6 : decode cX6_carryOut 6 = .ok (.invokevirtual 332, 3) := by decide +kernel
theorem dX6_carryOut_9 : decode cX6_carryOut 9 = .ok (.istore_n 2, 1) := by decide +kernel
theorem dX6_carryOut_10 : decode cX6_carryOut 10 = .ok (.aload_n 0, 1) := by decide +kernel
theorem dX6_carryOut_11 : decode cX6_carryOut 11 = .ok (.getfield 63, 3) := by decide +kernel
theorem dX6_carryOut_14 : decode cX6_carryOut 14 = .ok (.iload_n 1, 1) := by decide +kernel
theorem dX6_carryOut_15 : decode cX6_carryOut 15 = .ok (.iconst 1, 1) := by decide +kernel
theorem dX6_carryOut_16 : decode cX6_carryOut 16 = .ok (.invokevirtual 332, 3) := by decide +kernel
theorem dX6_carryOut_19 : decode cX6_carryOut 19 = .ok (.istore_n 3, 1) := by decide +kernel
theorem dX6_carryOut_20 : decode cX6_carryOut 20 = .ok (.aload_n 0, 1) := by decide +kernel
theorem dX6_carryOut_21 : decode cX6_carryOut 21 = .ok (.getfield 63, 3) := by decide +kernel
theorem dX6_carryOut_24 : decode cX6_carryOut 24 = .ok (.iload_n 1, 1) := by decide +kernel
theorem dX6_carryOut_25 : decode cX6_carryOut 25 = .ok (.iconst 2, 1) := by decide +kernel
theorem dX6_carryOut_26 : decode cX6_carryOut 26 = .ok (.invokevirtual 332, 3) := by decide +kernel
theorem dX6_carryOut_29 : decode cX6_carryOut 29 = .ok (.istore 4, 2) := by decide +kernel
theorem dX6_carryOut_31 : decode cX6_carryOut 31 = .ok (.aload_n 0, 1) := by decide +kernel
theorem dX6_carryOut_32 : decode cX6_carryOut 32 = .ok (.getfield 63, 3) := by decide +kernel
theorem dX6_carryOut_35 : decode cX6_carryOut 35 = .ok (.iload_n 1, 1) := by decide +kernel
theorem dX6_carryOut_36 : decode cX6_carryOut 36 = .ok (.invokevirtual 335, 3) := by decide +kernel
theorem dX6_carryOut_39 : decode cX6_carryOut 39 = .ok (.tableswitch 150 103 116 #[123, 150, 150, 150, 69, 94, 150, 150, 150, 150, 150, 150, 136, 110], 69) := by decide +kernel
theorem dX6_carryOut_108 : decode cX6_carryOut 108 = .ok (.aload_n 0, 1) := by decide +kernel
theorem dX6_carryOut_109 : decode cX6_carryOut 109 = .ok (.getfield 52, 3) := by decide +kernel
theorem dX6_carryOut_112 : decode cX6_carryOut 112 = .ok (.aload_n 0, 1) := by decide +kernel
theorem dX6_carryOut_113 : decode cX6_carryOut 113 = .ok (.getfield 12, 3) := by decide +kernel
theorem dX6_carryOut_116 : decode cX6_carryOut 116 = .ok (.iload_n 2, 1) := by decide +kernel
theorem dX6_carryOut_117 : decode cX6_carryOut 117 = .ok (.iload_n 3, 1) := by decide +kernel
theorem dX6_carryOut_118 : decode cX6_carryOut 118 = .ok (.iload 4, 2) := by decide +kernel
theorem dX6_carryOut_120 : decode cX6_carryOut 120 = .ok (.aload_n 0, 1) := by decide +kernel
theorem dX6_carryOut_121 : decode cX6_carryOut 121 = .ok (.getfield 63, 3) := by decide +kernel
theorem dX6_carryOut_124 : decode cX6_carryOut 124 = .ok (.iload_n 1, 1) := by decide +kernel
theorem dX6_carryOut_125 : decode cX6_carryOut 125 = .ok (.iconst 3, 1) := by decide +kernel
theorem dX6_carryOut_126 : decode cX6_carryOut 126 = .ok (.invokevirtual 332, 3) := by decide +kernel
theorem dX6_carryOut_129 : decode cX6_carryOut 129 = .ok (.invokevirtual 81, 3) := by decide +kernel
theorem dX6_carryOut_132 : decode cX6_carryOut 132 = .ok (.ireturn, 1) := by decide +kernel
theorem dX6_carryOut_133 : decode cX6_carryOut 133 = .ok (.aload_n 0, 1) := by decide +kernel
theorem dX6_carryOut_134 : decode cX6_carryOut 134 = .ok (.getfield 52, 3) := by decide +kernel
theorem dX6_carryOut_137 : decode cX6_carryOut 137 = .ok (.aload_n 0, 1) := by decide +kernel
theorem dX6_carryOut_138 : decode cX6_carryOut 138 = .ok (.getfield 12, 3) := by decide +kernel
theorem dX6_carryOut_141 : decode cX6_carryOut 141 = .ok (.iload_n 2, 1) := by decide +kernel
theorem dX6_carryOut_142 : decode cX6_carryOut 142 = .ok (.iload_n 3, 1) := by decide +kernel
theorem dX6_carryOut_143 : decode cX6_carryOut 143 = .ok (.iload 4, 2) := by decide +kernel
theorem dX6_carryOut_145 : decode cX6_carryOut 145 = .ok (.invokevirtual 96, 3) := by decide +kernel
theorem dX6_carryOut_148 : decode cX6_carryOut 148 = .ok (.ireturn, 1) := by decide +kernel
theorem dX6_carryOut_149 : decode cX6_carryOut 149 = .ok (.aload_n 0, 1) := by decide +kernel
theorem dX6_carryOut_150 : decode cX6_carryOut 150 = .ok (.getfield 52, 3) := by decide +kernel
theorem dX6_carryOut_153 : decode cX6_carryOut 153 = .ok (.aload_n 0, 1) := by decide +kernel
theorem dX6_carryOut_154 : decode cX6_carryOut 154 = .ok (.getfield 12, 3) := by decide +kernel
theorem dX6_carryOut_157 : decode cX6_carryOut 157 = .ok (.iload_n 2, 1) := by decide +kernel
theorem dX6_carryOut_158 : decode cX6_carryOut 158 = .ok (.invokevirtual 102, 3) := by decide +kernel
theorem dX6_carryOut_161 : decode cX6_carryOut 161 = .ok (.ireturn, 1) := by decide +kernel
theorem dX6_carryOut_162 : decode cX6_carryOut 162 = .ok (.aload_n 0, 1) := by decide +kernel
theorem dX6_carryOut_163 : decode cX6_carryOut 163 = .ok (.getfield 52, 3) := by decide +kernel
theorem dX6_carryOut_166 : decode cX6_carryOut 166 = .ok (.aload_n 0, 1) := by decide +kernel
theorem dX6_carryOut_167 : decode cX6_carryOut 167 = .ok (.getfield 12, 3) := by decide +kernel
theorem dX6_carryOut_170 : decode cX6_carryOut 170 = .ok (.iload_n 2, 1) := by decide +kernel
theorem dX6_carryOut_171 : decode cX6_carryOut 171 = .ok (.invokevirtual 108, 3) := by decide +kernel
theorem dX6_carryOut_174 : decode cX6_carryOut 174 = .ok (.ireturn, 1) := by decide +kernel
theorem dX6_carryOut_175 : decode cX6_carryOut 175 = .ok (.aload_n 0, 1) := by decide +kernel
theorem dX6_carryOut_176 : decode cX6_carryOut 176 = .ok (.getfield 52, 3) := by decide +kernel
theorem dX6_carryOut_179 : decode cX6_carryOut 179 = .ok (.aload_n 0, 1) := by decide +kernel
theorem dX6_carryOut_180 : decode cX6_carryOut 180 = .ok (.getfield 12, 3) := by decide +kernel
theorem dX6_carryOut_183 : decode cX6_carryOut 183 = .ok (.iload_n 2, 1) := by decide +kernel
theorem dX6_carryOut_184 : decode cX6_carryOut 184 = .ok (.iload_n 3, 1) := by decide +kernel
theorem dX6_carryOut_185 : decode cX6_carryOut 185 = .ok (.invokevirtual 113, 3) := by decide +kernel
theorem dX6_carryOut_188 : decode cX6_carryOut 188 = .ok (.ireturn, 1) := by decide +kernel
theorem dX6_carryOut_189 : decode cX6_carryOut 189 = .ok (.aload_n 0, 1) := by decide +kernel
theorem dX6_carryOut_190 : decode cX6_carryOut 190 = .ok (.getfield 52, 3) := by decide +kernel
theorem dX6_carryOut_193 : decode cX6_carryOut 193 = .ok (.aload_n 0, 1) := by decide +kernel
theorem dX6_carryOut_194 : decode cX6_carryOut 194 = .ok (.getfield 12, 3) := by decide +kernel
theorem dX6_carryOut_197 : decode cX6_carryOut 197 = .ok (.iload_n 2, 1) := by decide +kernel
theorem dX6_carryOut_198 : decode cX6_carryOut 198 = .ok (.invokevirtual 119, 3) := by decide +kernel
theorem dX6_carryOut_201 : decode cX6_carryOut 201 = .ok (.ireturn, 1) := by decide +kernel
theorem dX6_placeByHold_0 : decode cX6_placeByHold 0 = .ok (.iconst 0, 1) := by decide +kernel
theorem dX6_placeByHold_1 : decode cX6_placeByHold 1 = .ok (.istore_n 2, 1) := by decide +kernel
theorem dX6_placeByHold_2 : decode cX6_placeByHold 2 = .ok (.iconst 0, 1) := by decide +kernel
theorem dX6_placeByHold_3 : decode cX6_placeByHold 3 = .ok (.istore_n 3, 1) := by decide +kernel
theorem dX6_placeByHold_4 : decode cX6_placeByHold 4 = .ok (.iload_n 3, 1) := by decide +kernel
theorem dX6_placeByHold_5 : decode cX6_placeByHold 5 = .ok (.bipush 12, 2) := by decide +kernel
theorem dX6_placeByHold_7 : decode cX6_placeByHold 7 = .ok (.if_icmp .gt 68, 3) := by decide +kernel
theorem dX6_placeByHold_10 : decode cX6_placeByHold 10 = .ok (.iconst 0, 1) := by decide +kernel
theorem dX6_placeByHold_11 : decode cX6_placeByHold 11 = .ok (.istore 4, 2) := by decide +kernel
theorem dX6_placeByHold_13 : decode cX6_placeByHold 13 = .ok (.iload 4, 2) := by decide +kernel
theorem dX6_placeByHold_15 : decode cX6_placeByHold 15 = .ok (.bipush 42, 2) := by decide +kernel
theorem dX6_placeByHold_17 : decode cX6_placeByHold 17 = .ok (.if_icmp .ge 52, 3) := by decide +kernel
theorem dX6_placeByHold_20 : decode cX6_placeByHold 20 = .ok (.aload_n 0, 1) := by decide +kernel
theorem dX6_placeByHold_21 : decode cX6_placeByHold 21 = .ok (.getfield 12, 3) := by decide +kernel
theorem dX6_placeByHold_24 : decode cX6_placeByHold 24 = .ok (.iload 4, 2) := by decide +kernel
theorem dX6_placeByHold_26 : decode cX6_placeByHold 26 = .ok (.invokevirtual 159, 3) := by decide +kernel
theorem dX6_placeByHold_29 : decode cX6_placeByHold 29 = .ok (.istore 5, 2) := by decide +kernel
theorem dX6_placeByHold_31 : decode cX6_placeByHold 31 = .ok (.iload 5, 2) := by decide +kernel
theorem dX6_placeByHold_33 : decode cX6_placeByHold 33 = .ok (.iconst (-1), 1) := by decide +kernel
theorem dX6_placeByHold_34 : decode cX6_placeByHold 34 = .ok (.if_icmp .eq 29, 3) := by decide +kernel
theorem dX6_placeByHold_37 : decode cX6_placeByHold 37 = .ok (.aload_n 0, 1) := by decide +kernel
theorem dX6_placeByHold_38 : decode cX6_placeByHold 38 = .ok (.getfield 12, 3) := by decide +kernel
theorem dX6_placeByHold_41 : decode cX6_placeByHold 41 = .ok (.iload 5, 2) := by decide +kernel
theorem dX6_placeByHold_43 : decode cX6_placeByHold 43 = .ok (.iload 4, 2) := by decide +kernel
theorem dX6_placeByHold_45 : decode cX6_placeByHold 45 = .ok (.invokevirtual 178, 3) := by decide +kernel
theorem dX6_placeByHold_48 : decode cX6_placeByHold 48 = .ok (.iload_n 3, 1) := by decide +kernel
theorem dX6_placeByHold_49 : decode cX6_placeByHold 49 = .ok (.if_icmp .ne 14, 3) := by decide +kernel
theorem dX6_placeByHold_52 : decode cX6_placeByHold 52 = .ok (.iload_n 2, 1) := by decide +kernel
theorem dX6_placeByHold_53 : decode cX6_placeByHold 53 = .ok (.iload_n 1, 1) := by decide +kernel
theorem dX6_placeByHold_54 : decode cX6_placeByHold 54 = .ok (.if_icmp .ne 6, 3) := by decide +kernel
theorem dX6_placeByHold_57 : decode cX6_placeByHold 57 = .ok (.iload 4, 2) := by decide +kernel
theorem dX6_placeByHold_59 : decode cX6_placeByHold 59 = .ok (.ireturn, 1) := by decide +kernel
theorem dX6_placeByHold_60 : decode cX6_placeByHold 60 = .ok (.iinc 2 1, 3) := by decide +kernel
theorem dX6_placeByHold_63 : decode cX6_placeByHold 63 = .ok (.iinc 4 1, 3) := by decide +kernel
theorem dX6_placeByHold_66 : decode cX6_placeByHold 66 = .ok (.goto (-53), 3) := by decide +kernel
theorem dX6_placeByHold_69 : decode cX6_placeByHold 69 = .ok (.iinc 3 1, 3) := by decide +kernel
theorem dX6_placeByHold_72 : decode cX6_placeByHold 72 = .ok (.goto (-68), 3) := by decide +kernel
theorem dX6_placeByHold_75 : decode cX6_placeByHold 75 = .ok (.iconst (-1), 1) := by decide +kernel
theorem dX6_placeByHold_76 : decode cX6_placeByHold 76 = .ok (.ireturn, 1) := by decide +kernel
theorem dX6_writePlace_0 : decode cX6_writePlace 0 = .ok (.iload_n 1, 1) := by decide +kernel
theorem dX6_writePlace_1 : decode cX6_writePlace 1 = .ok (.iconst (-1), 1) := by decide +kernel
theorem dX6_writePlace_2 : decode cX6_writePlace 2 = .ok (.if_icmp .ne 10, 3) := by decide +kernel
theorem dX6_writePlace_5 : decode cX6_writePlace 5 = .ok (.aload_n 0, 1) := by decide +kernel
theorem dX6_writePlace_6 : decode cX6_writePlace 6 = .ok (.bipush 46, 2) := by decide +kernel
theorem dX6_writePlace_8 : decode cX6_writePlace 8 = .ok (.invokevirtual 339, 3) := by decide +kernel
theorem dX6_writePlace_11 : decode cX6_writePlace 11 = .ok (.return_, 1) := by decide +kernel
theorem dX6_writePlace_12 : decode cX6_writePlace 12 = .ok (.aload_n 0, 1) := by decide +kernel
theorem dX6_writePlace_13 : decode cX6_writePlace 13 = .ok (.bipush 48, 2) := by decide +kernel
theorem dX6_writePlace_15 : decode cX6_writePlace 15 = .ok (.iload_n 1, 1) := by decide +kernel
theorem dX6_writePlace_16 : decode cX6_writePlace 16 = .ok (.invokestatic 170, 3) := by decide +kernel
theorem dX6_writePlace_19 : decode cX6_writePlace 19 = .ok (.iadd, 1) := by decide +kernel
theorem dX6_writePlace_20 : decode cX6_writePlace 20 = .ok (.i2c, 1) := by decide +kernel
theorem dX6_writePlace_21 : decode cX6_writePlace 21 = .ok (.invokevirtual 339, 3) := by decide +kernel
theorem dX6_writePlace_24 : decode cX6_writePlace 24 = .ok (.iconst 0, 1) := by decide +kernel
theorem dX6_writePlace_25 : decode cX6_writePlace 25 = .ok (.istore_n 2, 1) := by decide +kernel
theorem dX6_writePlace_26 : decode cX6_writePlace 26 = .ok (.iload_n 2, 1) := by decide +kernel
theorem dX6_writePlace_27 : decode cX6_writePlace 27 = .ok (.iload_n 1, 1) := by decide +kernel
theorem dX6_writePlace_28 : decode cX6_writePlace 28 = .ok (.invokestatic 167, 3) := by decide +kernel
theorem dX6_writePlace_31 : decode cX6_writePlace 31 = .ok (.if_icmp .ge 15, 3) := by decide +kernel
theorem dX6_writePlace_34 : decode cX6_writePlace 34 = .ok (.aload_n 0, 1) := by decide +kernel
theorem dX6_writePlace_35 : decode cX6_writePlace 35 = .ok (.bipush 42, 2) := by decide +kernel
theorem dX6_writePlace_37 : decode cX6_writePlace 37 = .ok (.invokevirtual 339, 3) := by decide +kernel
theorem dX6_writePlace_40 : decode cX6_writePlace 40 = .ok (.iinc 2 1, 3) := by decide +kernel
theorem dX6_writePlace_43 : decode cX6_writePlace 43 = .ok (.goto (-17), 3) := by decide +kernel
theorem dX6_writePlace_46 : decode cX6_writePlace 46 = .ok (.return_, 1) := by decide +kernel
theorem dX6_writeSign_0 : decode cX6_writeSign 0 = .ok (.aload_n 0, 1) := by decide +kernel
theorem dX6_writeSign_1 : decode cX6_writeSign 1 = .ok (.getfield 74, 3) := by decide +kernel
theorem dX6_writeSign_4 : decode cX6_writeSign 4 = .ok (.bipush 28, 2) := by decide +kernel
theorem dX6_writeSign_6 : decode cX6_writeSign 6 = .ok (.if_icmp .ge 23, 3) := by decide +kernel
theorem dX6_writeSign_9 : decode cX6_writeSign 9 = .ok (.aload_n 0, 1) := by decide +kernel
theorem dX6_writeSign_10 : decode cX6_writeSign 10 = .ok (.getfield 70, 3) := by decide +kernel
theorem dX6_writeSign_13 : decode cX6_writeSign 13 = .ok (.aload_n 0, 1) := by decide +kernel
theorem dX6_writeSign_14 : decode cX6_writeSign 14 = .ok (.getfield 74, 3) := by decide +kernel
theorem dX6_writeSign_17 : decode cX6_writeSign 17 = .ok (.iload_n 1, 1) := by decide +kernel
theorem dX6_writeSign_18 : decode cX6_writeSign 18 = .ok (.castore, 1) := by decide +kernel
theorem dX6_writeSign_19 : decode cX6_writeSign 19 = .ok (.aload_n 0, 1) := by decide +kernel
theorem dX6_writeSign_20 : decode cX6_writeSign 20 = .ok (.dup, 1) := by decide +kernel
theorem dX6_writeSign_21 : decode cX6_writeSign 21 = .ok (.getfield 74, 3) := by decide +kernel
theorem dX6_writeSign_24 : decode cX6_writeSign 24 = .ok (.iconst 1, 1) := by decide +kernel
theorem dX6_writeSign_25 : decode cX6_writeSign 25 = .ok (.iadd, 1) := by decide +kernel
theorem dX6_writeSign_26 : decode cX6_writeSign 26 = .ok (.putfield 74, 3) := by decide +kernel
theorem dX6_writeSign_29 : decode cX6_writeSign 29 = .ok (.return_, 1) := by decide +kernel
theorem dX7_init_0 : decode cX7_init 0 = .ok (.aload_n 0, 1) := by decide +kernel
theorem dX7_init_1 : decode cX7_init 1 = .ok (.invokespecial 1, 3) := by decide +kernel
theorem dX7_init_4 : decode cX7_init 4 = .ok (.aload_n 0, 1) := by decide +kernel
theorem dX7_init_5 : decode cX7_init 5 = .ok (.bipush 87, 2) := by decide +kernel
theorem dX7_init_7 : decode cX7_init 7 = .ok (.newarray .int, 2) := by decide +kernel
theorem dX7_init_9 : decode cX7_init 9 = .ok (.putfield 7, 3) := by decide +kernel
theorem dX7_init_12 : decode cX7_init 12 = .ok (.aload_n 0, 1) := by decide +kernel
theorem dX7_init_13 : decode cX7_init 13 = .ok (.sipush 696, 3) := by decide +kernel
theorem dX7_init_16 : decode cX7_init 16 = .ok (.newarray .int, 2) := by decide +kernel
theorem dX7_init_18 : decode cX7_init 18 = .ok (.putfield 13, 3) := by decide +kernel
theorem dX7_init_21 : decode cX7_init 21 = .ok (.aload_n 0, 1) := by decide +kernel
theorem dX7_init_22 : decode cX7_init 22 = .ok (.bipush 87, 2) := by decide +kernel
theorem dX7_init_24 : decode cX7_init 24 = .ok (.newarray .int, 2) := by decide +kernel
theorem dX7_init_26 : decode cX7_init 26 = .ok (.putfield 16, 3) := by decide +kernel
theorem dX7_init_29 : decode cX7_init 29 = .ok (.aload_n 0, 1) := by decide +kernel
theorem dX7_init_30 : decode cX7_init 30 = .ok (.bipush 87, 2) := by decide +kernel
theorem dX7_init_32 : decode cX7_init 32 = .ok (.newarray .int, 2) := by decide +kernel
theorem dX7_init_34 : decode cX7_init 34 = .ok (.putfield 19, 3) := by decide +kernel
theorem dX7_init_37 : decode cX7_init 37 = .ok (.aload_n 0, 1) := by decide +kernel
theorem dX7_init_38 : decode cX7_init 38 = .ok (.bipush 87, 2) := by decide +kernel
theorem dX7_init_40 : decode cX7_init 40 = .ok (.newarray .int, 2) := by decide +kernel
theorem dX7_init_42 : decode cX7_init 42 = .ok (.putfield 22, 3) := by decide +kernel
theorem dX7_init_45 : decode cX7_init 45 = .ok (.aload_n 0, 1) := by decide +kernel
theorem dX7_init_46 : decode cX7_init 46 = .ok (.bipush 60, 2) := by decide +kernel
theorem dX7_init_48 : decode cX7_init 48 = .ok (.newarray .int, 2) := by decide +kernel
theorem dX7_init_50 : decode cX7_init 50 = .ok (.putfield 25, 3) := by decide +kernel
theorem dX7_init_53 : decode cX7_init 53 = .ok (.aload_n 0, 1) := by decide +kernel
theorem dX7_init_54 : decode cX7_init 54 = .ok (.iconst (-1), 1) := by decide +kernel
theorem dX7_init_55 : decode cX7_init 55 = .ok (.putfield 28, 3) := by decide +kernel
theorem dX7_init_58 : decode cX7_init 58 = .ok (.aload_n 0, 1) := by decide +kernel
theorem dX7_init_59 : decode cX7_init 59 = .ok (.bipush 32, 2) := by decide +kernel
theorem dX7_init_61 : decode cX7_init 61 = .ok (.newarray .char, 2) := by decide +kernel
theorem dX7_init_63 : decode cX7_init 63 = .ok (.putfield 32, 3) := by decide +kernel
theorem dX7_init_66 : decode cX7_init 66 = .ok (.aload_n 0, 1) := by decide +kernel
theorem dX7_init_67 : decode cX7_init 67 = .ok (.bipush 42, 2) := by decide +kernel
theorem dX7_init_69 : decode cX7_init 69 = .ok (.newarray .boolean, 2) := by decide +kernel
theorem dX7_init_71 : decode cX7_init 71 = .ok (.putfield 36, 3) := by decide +kernel
theorem dX7_init_74 : decode cX7_init 74 = .ok (.aload_n 0, 1) := by decide +kernel
theorem dX7_init_75 : decode cX7_init 75 = .ok (.sipush 186, 3) := by decide +kernel
theorem dX7_init_78 : decode cX7_init 78 = .ok (.newarray .int, 2) := by decide +kernel
theorem dX7_init_80 : decode cX7_init 80 = .ok (.putfield 40, 3) := by decide +kernel
theorem dX7_init_83 : decode cX7_init 83 = .ok (.aload_n 0, 1) := by decide +kernel
theorem dX7_init_84 : decode cX7_init 84 = .ok (.getfield 7, 3) := by decide +kernel
theorem dX7_init_87 : decode cX7_init 87 = .ok (.iconst 1, 1) := by decide +kernel
theorem dX7_init_88 : decode cX7_init 88 = .ok (.iconst (-1), 1) := by decide +kernel
theorem dX7_init_89 : decode cX7_init 89 = .ok (.iastore, 1) := by decide +kernel
theorem dX7_init_90 : decode cX7_init 90 = .ok (.aload_n 0, 1) := by decide +kernel
theorem dX7_init_91 : decode cX7_init 91 = .ok (.getfield 7, 3) := by decide +kernel
theorem dX7_init_94 : decode cX7_init 94 = .ok (.iconst 2, 1) := by decide +kernel
theorem dX7_init_95 : decode cX7_init 95 = .ok (.iconst 2, 1) := by decide +kernel
theorem dX7_init_96 : decode cX7_init 96 = .ok (.iastore, 1) := by decide +kernel
theorem dX7_init_97 : decode cX7_init 97 = .ok (.iconst 1, 1) := by decide +kernel
theorem dX7_init_98 : decode cX7_init 98 = .ok (.istore_n 1, 1) := by decide +kernel
theorem dX7_init_99 : decode cX7_init 99 = .ok (.iload_n 1, 1) := by decide +kernel
theorem dX7_init_100 : decode cX7_init 100 = .ok (.bipush 7, 2) := by decide +kernel
theorem dX7_init_102 : decode cX7_init 102 = .ok (.if_icmp .ge 19, 3) := by decide +kernel
theorem dX7_init_105 : decode cX7_init 105 = .ok (.aload_n 0, 1) := by decide +kernel
theorem dX7_init_106 : decode cX7_init 106 = .ok (.getfield 7, 3) := by decide +kernel
theorem dX7_init_109 : decode cX7_init 109 = .ok (.bipush 6, 2) := by decide +kernel
theorem dX7_init_111 : decode cX7_init 111 = .ok (.iload_n 1, 1) := by decide +kernel
theorem dX7_init_112 : decode cX7_init 112 = .ok (.iadd, 1) := by decide +kernel
theorem dX7_init_113 : decode cX7_init 113 = .ok (.iconst 1, 1) := by decide +kernel
theorem dX7_init_114 : decode cX7_init 114 = .ok (.iastore, 1) := by decide +kernel
theorem dX7_init_115 : decode cX7_init 115 = .ok (.iinc 1 1, 3) := by decide +kernel
theorem dX7_init_118 : decode cX7_init 118 = .ok (.goto (-19), 3) := by decide +kernel
theorem dX7_init_121 : decode cX7_init 121 = .ok (.iconst 0, 1) := by decide +kernel
theorem dX7_init_122 : decode cX7_init 122 = .ok (.istore_n 1, 1) := by decide +kernel
theorem dX7_init_123 : decode cX7_init 123 = .ok (.iload_n 1, 1) := by decide +kernel
theorem dX7_init_124 : decode cX7_init 124 = .ok (.bipush 42, 2) := by decide +kernel
theorem dX7_init_126 : decode cX7_init 126 = .ok (.if_icmp .ge 19, 3) := by decide +kernel
theorem dX7_init_129 : decode cX7_init 129 = .ok (.aload_n 0, 1) := by decide +kernel
theorem dX7_init_130 : decode cX7_init 130 = .ok (.getfield 7, 3) := by decide +kernel
theorem dX7_init_133 : decode cX7_init 133 = .ok (.bipush 45, 2) := by decide +kernel
theorem dX7_init_135 : decode cX7_init 135 = .ok (.iload_n 1, 1) := by decide +kernel
theorem dX7_init_136 : decode cX7_init 136 = .ok (.iadd, 1) := by decide +kernel
theorem dX7_init_137 : decode cX7_init 137 = .ok (.iconst (-1), 1) := by decide +kernel
theorem dX7_init_138 : decode cX7_init 138 = .ok (.iastore, 1) := by decide +kernel
theorem dX7_init_139 : decode cX7_init 139 = .ok (.iinc 1 1, 3) := by decide +kernel
theorem dX7_init_142 : decode cX7_init 142 = .ok (.goto (-19), 3) := by decide +kernel
theorem dX7_init_145 : decode cX7_init 145 = .ok (.return_, 1) := by decide +kernel
theorem dX7_thrown_0 : decode cX7_thrown 0 = .ok (.aload_n 0, 1) := by decide +kernel
theorem dX7_thrown_1 : decode cX7_thrown 1 = .ok (.getfield 43, 3) := by decide +kernel
theorem dX7_thrown_4 : decode cX7_thrown 4 = .ok (.ireturn, 1) := by decide +kernel
theorem dX7_fails_0 : decode cX7_fails 0 = .ok (.aload_n 0, 1) := by decide +kernel
theorem dX7_fails_1 : decode cX7_fails 1 = .ok (.iload_n 1, 1) := by decide +kernel
theorem dX7_fails_2 : decode cX7_fails 2 = .ok (.putfield 43, 3) := by decide +kernel
theorem dX7_fails_5 : decode cX7_fails 5 = .ok (.iload_n 1, 1) := by decide +kernel
theorem dX7_fails_6 : decode cX7_fails 6 = .ok (.ifCond .le 7, 3) := by decide +kernel
theorem dX7_fails_9 : decode cX7_fails 9 = .ok (.iconst 1, 1) := by decide +kernel
theorem dX7_fails_10 : decode cX7_fails 10 = .ok (.goto 4, 3) := by decide +kernel
theorem dX7_fails_13 : decode cX7_fails 13 = .ok (.iconst 0, 1) := by decide +kernel
theorem dX7_fails_14 : decode cX7_fails 14 = .ok (.ireturn, 1) := by decide +kernel
theorem dX7_refuses_0 : decode cX7_refuses 0 = .ok (.aload_n 0, 1) := by decide +kernel
theorem dX7_refuses_1 : decode cX7_refuses 1 = .ok (.iconst 1, 1) := by decide +kernel
theorem dX7_refuses_2 : decode cX7_refuses 2 = .ok (.putfield 43, 3) := by decide +kernel
theorem dX7_refuses_5 : decode cX7_refuses 5 = .ok (.aload_n 0, 1) := by decide +kernel
theorem dX7_refuses_6 : decode cX7_refuses 6 = .ok (.iload_n 1, 1) := by decide +kernel
theorem dX7_refuses_7 : decode cX7_refuses 7 = .ok (.putfield 46, 3) := by decide +kernel
theorem dX7_refuses_10 : decode cX7_refuses 10 = .ok (.aload_n 0, 1) := by decide +kernel
theorem dX7_refuses_11 : decode cX7_refuses 11 = .ok (.iload_n 2, 1) := by decide +kernel
theorem dX7_refuses_12 : decode cX7_refuses 12 = .ok (.putfield 49, 3) := by decide +kernel
theorem dX7_refuses_15 : decode cX7_refuses 15 = .ok (.aload_n 0, 1) := by decide +kernel
theorem dX7_refuses_16 : decode cX7_refuses 16 = .ok (.aload_n 0, 1) := by decide +kernel
theorem dX7_refuses_17 : decode cX7_refuses 17 = .ok (.getfield 52, 3) := by decide +kernel
theorem dX7_refuses_20 : decode cX7_refuses 20 = .ok (.ifCond .eq 10, 3) := by decide +kernel
theorem dX7_refuses_23 : decode cX7_refuses 23 = .ok (.aload_n 0, 1) := by decide +kernel
theorem dX7_refuses_24 : decode cX7_refuses 24 = .ok (.getfield 56, 3) := by decide +kernel
theorem dX7_refuses_27 : decode cX7_refuses 27 = .ok (.goto 4, 3) := by decide +kernel
theorem dX7_refuses_30 : decode cX7_refuses 30 = .ok (.iconst 0, 1) := by decide +kernel
theorem dX7_refuses_31 : decode cX7_refuses 31 = .ok (.putfield 59, 3) := by decide +kernel
theorem dX7_refuses_34 : decode cX7_refuses 34 = .ok (.iconst 0, 1) := by decide +kernel
theorem dX7_refuses_35 : decode cX7_refuses 35 = .ok (.ireturn, 1) := by decide +kernel
theorem dX7_in_0 : decode cX7_in 0 = .ok (.iload_n 0, 1) := by decide +kernel
theorem dX7_in_1 : decode cX7_in 1 = .ok (.iload_n 1, 1) := by decide +kernel
theorem dX7_in_2 : decode cX7_in 2 = .ok (.if_icmp .lt 12, 3) := by decide +kernel
theorem dX7_in_5 : decode cX7_in 5 = .ok (.iload_n 0, 1) := by decide +kernel
theorem dX7_in_6 : decode cX7_in 6 = .ok (.iload_n 2, 1) := by decide +kernel
theorem dX7_in_7 : decode cX7_in 7 = .ok (.if_icmp .gt 7, 3) := by decide +kernel
theorem dX7_in_10 : decode cX7_in 10 = .ok (.iconst 1, 1) := by decide +kernel
theorem dX7_in_11 : decode cX7_in 11 = .ok (.goto 4, 3) := by decide +kernel
theorem dX7_in_14 : decode cX7_in 14 = .ok (.iconst 0, 1) := by decide +kernel
theorem dX7_in_15 : decode cX7_in 15 = .ok (.ireturn, 1) := by decide +kernel
theorem dX7_copies_0 : decode cX7_copies 0 = .ok (.iconst 0, 1) := by decide +kernel
theorem dX7_copies_1 : decode cX7_copies 1 = .ok (.istore 4, 2) := by decide +kernel
theorem dX7_copies_3 : decode cX7_copies 3 = .ok (.iload 4, 2) := by decide +kernel
theorem dX7_copies_5 : decode cX7_copies 5 = .ok (.bipush 87, 2) := by decide +kernel
theorem dX7_copies_7 : decode cX7_copies 7 = .ok (.if_icmp .ge 21, 3) := by decide +kernel
theorem dX7_copies_10 : decode cX7_copies 10 = .ok (.aload_n 2, 1) := by decide +kernel
theorem dX7_copies_11 : decode cX7_copies 11 = .ok (.iload_n 3, 1) := by decide +kernel
theorem dX7_copies_12 : decode cX7_copies 12 = .ok (.iload 4, 2) := by decide +kernel
theorem dX7_copies_14 : decode cX7_copies 14 = .ok (.iadd, 1) := by decide +kernel
theorem dX7_copies_15 : decode cX7_copies 15 = .ok (.aload_n 0, 1) := by decide +kernel
theorem dX7_copies_16 : decode cX7_copies 16 = .ok (.iload_n 1, 1) := by decide +kernel
theorem dX7_copies_17 : decode cX7_copies 17 = .ok (.iload 4, 2) := by decide +kernel
theorem dX7_copies_19 : decode cX7_copies 19 = .ok (.iadd, 1) := by decide +kernel
theorem dX7_copies_20 : decode cX7_copies 20 = .ok (.iaload, 1) := by decide +kernel
theorem dX7_copies_21 : decode cX7_copies 21 = .ok (.iastore, 1) := by decide +kernel
theorem dX7_copies_22 : decode cX7_copies 22 = .ok (.iinc 4 1, 3) := by decide +kernel
theorem dX7_copies_25 : decode cX7_copies 25 = .ok (.goto (-22), 3) := by decide +kernel
theorem dX7_copies_28 : decode cX7_copies 28 = .ok (.return_, 1) := by decide +kernel
theorem dX7_keeps_0 : decode cX7_keeps 0 = .ok (.aload_n 0, 1) := by decide +kernel
theorem dX7_keeps_1 : decode cX7_keeps 1 = .ok (.iconst 0, 1) := by decide +kernel
theorem dX7_keeps_2 : decode cX7_keeps 2 = .ok (.putfield 43, 3) := by decide +kernel
theorem dX7_keeps_5 : decode cX7_keeps 5 = .ok (.aload_n 0, 1) := by decide +kernel
theorem dX7_keeps_6 : decode cX7_keeps 6 = .ok (.getfield 52, 3) := by decide +kernel
theorem dX7_keeps_9 : decode cX7_keeps 9 = .ok (.ifCond .eq 4, 3) := by decide +kernel
theorem dX7_keeps_12 : decode cX7_keeps 12 = .ok (.return_, 1) := by decide +kernel
theorem dX7_keeps_13 : decode cX7_keeps 13 = .ok (.aload_n 0, 1) := by decide +kernel
theorem dX7_keeps_14 : decode cX7_keeps 14 = .ok (.getfield 62, 3) := by decide +kernel
theorem dX7_keeps_17 : decode cX7_keeps 17 = .ok (.bipush 8, 2) := by decide +kernel
theorem dX7_keeps_19 : decode cX7_keeps 19 = .ok (.if_icmp .ne 43, 3) := by decide +kernel
theorem dX7_keeps_22 : decode cX7_keeps 22 = .ok (.iconst 0, 1) := by decide +kernel
theorem dX7_keeps_23 : decode cX7_keeps 23 = .ok (.istore_n 2, 1) := by decide +kernel
theorem dX7_keeps_24 : decode cX7_keeps 24 = .ok (.iload_n 2, 1) := by decide +kernel
theorem dX7_keeps_25 : decode cX7_keeps 25 = .ok (.sipush 609, 3) := by decide +kernel
theorem dX7_keeps_28 : decode cX7_keeps 28 = .ok (.if_icmp .ge 24, 3) := by decide +kernel
theorem dX7_keeps_31 : decode cX7_keeps 31 = .ok (.aload_n 0, 1) := by decide +kernel
theorem dX7_keeps_32 : decode cX7_keeps 32 = .ok (.getfield 13, 3) := by decide +kernel
theorem dX7_keeps_35 : decode cX7_keeps 35 = .ok (.iload_n 2, 1) := by decide +kernel
theorem dX7_keeps_36 : decode cX7_keeps 36 = .ok (.aload_n 0, 1) := by decide +kernel
theorem dX7_keeps_37 : decode cX7_keeps 37 = .ok (.getfield 13, 3) := by decide +kernel
theorem dX7_keeps_40 : decode cX7_keeps 40 = .ok (.iload_n 2, 1) := by decide +kernel
theorem dX7_keeps_41 : decode cX7_keeps 41 = .ok (.bipush 87, 2) := by decide +kernel
theorem dX7_keeps_43 : decode cX7_keeps 43 = .ok (.iadd, 1) := by decide +kernel
theorem dX7_keeps_44 : decode cX7_keeps 44 = .ok (.iaload, 1) := by decide +kernel
theorem dX7_keeps_45 : decode cX7_keeps 45 = .ok (.iastore, 1) := by decide +kernel
theorem dX7_keeps_46 : decode cX7_keeps 46 = .ok (.iinc 2 1, 3) := by decide +kernel
theorem dX7_keeps_49 : decode cX7_keeps 49 = .ok (.goto (-25), 3) := by decide +kernel
theorem dX7_keeps_52 : decode cX7_keeps 52 = .ok (.aload_n 0, 1) := by decide +kernel
theorem dX7_keeps_53 : decode cX7_keeps 53 = .ok (.dup, 1) := by decide +kernel
theorem dX7_keeps_54 : decode cX7_keeps 54 = .ok (.getfield 62, 3) := by decide +kernel
theorem dX7_keeps_57 : decode cX7_keeps 57 = .ok (.iconst 1, 1) := by decide +kernel
theorem dX7_keeps_58 : decode cX7_keeps 58 = .ok (.isub, 1) := by decide +kernel
theorem dX7_keeps_59 : decode cX7_keeps 59 = .ok (.putfield 62, 3) := by decide +kernel
theorem dX7_keeps_62 : decode cX7_keeps 62 = .ok (.aload_n 1, 1) := by decide +kernel
theorem dX7_keeps_63 : decode cX7_keeps 63 = .ok (.iconst 0, 1) := by decide +kernel
theorem dX7_keeps_64 : decode cX7_keeps 64 = .ok (.aload_n 0, 1) := by decide +kernel
theorem dX7_keeps_65 : decode cX7_keeps 65 = .ok (.getfield 13, 3) := by decide +kernel
theorem dX7_keeps_68 : decode cX7_keeps 68 = .ok (.bipush 87, 2) := by decide +kernel
theorem dX7_keeps_70 : decode cX7_keeps 70 = .ok (.aload_n 0, 1) := by decide +kernel
theorem dX7_keeps_71 : decode cX7_keeps 71 = .ok (.getfield 62, 3) := by decide +kernel
theorem dX7_keeps_74 : decode cX7_keeps 74 = .ok (.imul, 1) := by decide +kernel
theorem dX7_keeps_75 : decode cX7_keeps 75 = .ok (.invokestatic 65, 3) := by decide +kernel
theorem dX7_keeps_78 : decode cX7_keeps 78 = .ok (.aload_n 0, 1) := by decide +kernel
theorem dX7_keeps_79 : decode cX7_keeps 79 = .ok (.dup, 1) := by decide +kernel
theorem dX7_keeps_80 : decode cX7_keeps 80 = .ok (.getfield 62, 3) := by decide +kernel
theorem dX7_keeps_83 : decode cX7_keeps 83 = .ok (.iconst 1, 1) := by decide +kernel
theorem dX7_keeps_84 : decode cX7_keeps 84 = .ok (.iadd, 1) := by decide +kernel
theorem dX7_keeps_85 : decode cX7_keeps 85 = .ok (.putfield 62, 3) := by decide +kernel
theorem dX7_keeps_88 : decode cX7_keeps 88 = .ok (.return_, 1) := by decide +kernel
theorem dX7_isPlace_0 : decode cX7_isPlace 0 = .ok (.iload_n 0, 1) := by decide +kernel
theorem dX7_isPlace_1 : decode cX7_isPlace 1 = .ok (.iconst 0, 1) := by decide +kernel
theorem dX7_isPlace_2 : decode cX7_isPlace 2 = .ok (.bipush 41, 2) := by decide +kernel
theorem dX7_isPlace_4 : decode cX7_isPlace 4 = .ok (.invokestatic 69, 3) := by decide +kernel
theorem dX7_isPlace_7 : decode cX7_isPlace 7 = .ok (.ireturn, 1) := by decide +kernel
theorem dX7_isKind_0 : decode cX7_isKind 0 = .ok (.iload_n 1, 1) := by decide +kernel
theorem dX7_isKind_1 : decode cX7_isKind 1 = .ok (.iconst 0, 1) := by decide +kernel
theorem dX7_isKind_2 : decode cX7_isKind 2 = .ok (.aload_n 0, 1) := by decide +kernel
theorem dX7_isKind_3 : decode cX7_isKind 3 = .ok (.getfield 7, 3) := by decide +kernel
theorem dX7_isKind_6 : decode cX7_isKind 6 = .ok (.iconst 0, 1) := by decide +kernel
theorem dX7_isKind_7 : decode cX7_isKind 7 = .ok (.iaload, 1) := by decide +kernel
theorem dX7_isKind_8 : decode cX7_isKind 8 = .ok (.iconst 1, 1) := by decide +kernel
theorem dX7_isKind_9 : decode cX7_isKind 9 = .ok (.isub, 1) := by decide +kernel
theorem dX7_isKind_10 : decode cX7_isKind 10 = .ok (.invokestatic 69, 3) := by decide +kernel
theorem dX7_isKind_13 : decode cX7_isKind 13 = .ok (.ireturn, 1) := by decide +kernel
theorem dX7_isFree_0 : decode cX7_isFree 0 = .ok (.aload_n 0, 1) := by decide +kernel
theorem dX7_isFree_1 : decode cX7_isFree 1 = .ok (.getfield 7, 3) := by decide +kernel
theorem dX7_isFree_4 : decode cX7_isFree 4 = .ok (.bipush 45, 2) := by decide +kernel
theorem dX7_isFree_6 : decode cX7_isFree 6 = .ok (.iload_n 1, 1) := by decide +kernel
theorem dX7_isFree_7 : decode cX7_isFree 7 = .ok (.iadd, 1) := by decide +kernel
theorem dX7_isFree_8 : decode cX7_isFree 8 = .ok (.iaload, 1) := by decide +kernel
theorem dX7_isFree_9 : decode cX7_isFree 9 = .ok (.ifCond .ge 7, 3) := by decide +kernel
theorem dX7_isFree_12 : decode cX7_isFree 12 = .ok (.iconst 1, 1) := by decide +kernel
theorem dX7_isFree_13 : decode cX7_isFree 13 = .ok (.goto 4, 3) := by decide +kernel
theorem dX7_isFree_16 : decode cX7_isFree 16 = .ok (.iconst 0, 1) := by decide +kernel
theorem dX7_isFree_17 : decode cX7_isFree 17 = .ok (.ireturn, 1) := by decide +kernel
theorem dX7_beside_0 : decode cX7_beside 0 = .ok (.iload_n 1, 1) := by decide +kernel
theorem dX7_beside_1 : decode cX7_beside 1 = .ok (.tableswitch 74 0 2 #[27, 42, 59], 27) := by decide +kernel
theorem dX7_beside_28 : decode cX7_beside 28 = .ok (.iload_n 0, 1) := by decide +kernel
theorem dX7_beside_29 : decode cX7_beside 29 = .ok (.bipush 7, 2) := by decide +kernel
theorem dX7_beside_31 : decode cX7_beside 31 = .ok (.if_icmp .ge 7, 3) := by decide +kernel
theorem dX7_beside_34 : decode cX7_beside 34 = .ok (.iconst (-1), 1) := by decide +kernel
theorem dX7_beside_35 : decode cX7_beside 35 = .ok (.goto 7, 3) := by decide +kernel
theorem dX7_beside_38 : decode cX7_beside 38 = .ok (.iload_n 0, 1) := by decide +kernel
theorem dX7_beside_39 : decode cX7_beside 39 = .ok (.bipush 7, 2) := by decide +kernel
theorem dX7_beside_41 : decode cX7_beside 41 = .ok (.isub, 1) := by decide +kernel
theorem dX7_beside_42 : decode cX7_beside 42 = .ok (.ireturn, 1) := by decide +kernel
theorem dX7_beside_43 : decode cX7_beside 43 = .ok (.iload_n 0, 1) := by decide +kernel
theorem dX7_beside_44 : decode cX7_beside 44 = .ok (.bipush 7, 2) := by decide +kernel
theorem dX7_beside_46 : decode cX7_beside 46 = .ok (.irem, 1) := by decide +kernel
theorem dX7_beside_47 : decode cX7_beside 47 = .ok (.bipush 6, 2) := by decide +kernel
theorem dX7_beside_49 : decode cX7_beside 49 = .ok (.if_icmp .ne 7, 3) := by decide +kernel
theorem dX7_beside_52 : decode cX7_beside 52 = .ok (.iconst (-1), 1) := by decide +kernel
theorem dX7_beside_53 : decode cX7_beside 53 = .ok (.goto 6, 3) := by decide +kernel
theorem dX7_beside_56 : decode cX7_beside 56 = .ok (.iload_n 0, 1) := by decide +kernel
theorem dX7_beside_57 : decode cX7_beside 57 = .ok (.iconst 1, 1) := by decide +kernel
theorem dX7_beside_58 : decode cX7_beside 58 = .ok (.iadd, 1) := by decide +kernel
theorem dX7_beside_59 : decode cX7_beside 59 = .ok (.ireturn, 1) := by decide +kernel
theorem dX7_beside_60 : decode cX7_beside 60 = .ok (.iload_n 0, 1) := by decide +kernel
theorem dX7_beside_61 : decode cX7_beside 61 = .ok (.bipush 35, 2) := by decide +kernel
theorem dX7_beside_63 : decode cX7_beside 63 = .ok (.if_icmp .lt 7, 3) := by decide +kernel
theorem dX7_beside_66 : decode cX7_beside 66 = .ok (.iconst (-1), 1) := by decide +kernel
theorem dX7_beside_67 : decode cX7_beside 67 = .ok (.goto 7, 3) := by decide +kernel
theorem dX7_beside_70 : decode cX7_beside 70 = .ok (.iload_n 0, 1) := by decide +kernel
theorem dX7_beside_71 : decode cX7_beside 71 = .ok (.bipush 7, 2) := by decide +kernel
theorem dX7_beside_73 : decode cX7_beside 73 = .ok (.iadd, 1) := by decide +kernel
theorem dX7_beside_74 : decode cX7_beside 74 = .ok (.ireturn, 1) := by decide +kernel
theorem dX7_beside_75 : decode cX7_beside 75 = .ok (.iload_n 0, 1) := by decide +kernel
theorem dX7_beside_76 : decode cX7_beside 76 = .ok (.bipush 7, 2) := by decide +kernel
theorem dX7_beside_78 : decode cX7_beside 78 = .ok (.irem, 1) := by decide +kernel
theorem dX7_beside_79 : decode cX7_beside 79 = .ok (.ifCond .ne 7, 3) := by decide +kernel
theorem dX7_beside_82 : decode cX7_beside 82 = .ok (.iconst (-1), 1) := by decide +kernel
theorem dX7_beside_83 : decode cX7_beside 83 = .ok (.goto 6, 3) := by decide +kernel
theorem dX7_beside_86 : decode cX7_beside 86 = .ok (.iload_n 0, 1) := by decide +kernel
theorem dX7_beside_87 : decode cX7_beside 87 = .ok (.iconst 1, 1) := by decide +kernel
theorem dX7_beside_88 : decode cX7_beside 88 = .ok (.isub, 1) := by decide +kernel
theorem dX7_beside_89 : decode cX7_beside 89 = .ok (.ireturn, 1) := by decide +kernel
theorem dX7_glue_0 : decode cX7_glue 0 = .ok (.aload_n 0, 1) := by decide +kernel
theorem dX7_glue_1 : decode cX7_glue 1 = .ok (.getfield 7, 3) := by decide +kernel
theorem dX7_glue_4 : decode cX7_glue 4 = .ok (.bipush 13, 2) := by decide +kernel
theorem dX7_glue_6 : decode cX7_glue 6 = .ok (.iconst 4, 1) := by decide +kernel
theorem dX7_glue_7 : decode cX7_glue 7 = .ok (.iload_n 1, 1) := by decide +kernel
theorem dX7_glue_8 : decode cX7_glue 8 = .ok (.iconst 4, 1) := by decide +kernel
theorem dX7_glue_9 : decode cX7_glue 9 = .ok (.idiv, 1) := by decide +kernel
theorem dX7_glue_10 : decode cX7_glue 10 = .ok (.imul, 1) := by decide +kernel
theorem dX7_glue_11 : decode cX7_glue 11 = .ok (.iadd, 1) := by decide +kernel
theorem dX7_glue_12 : decode cX7_glue 12 = .ok (.iload_n 2, 1) := by decide +kernel
theorem dX7_glue_13 : decode cX7_glue 13 = .ok (.iload_n 1, 1) := by decide +kernel
theorem dX7_glue_14 : decode cX7_glue 14 = .ok (.iconst 4, 1) := by decide +kernel
theorem dX7_glue_15 : decode cX7_glue 15 = .ok (.irem, 1) := by decide +kernel
theorem dX7_glue_16 : decode cX7_glue 16 = .ok (.isub, 1) := by decide +kernel
theorem dX7_glue_17 : decode cX7_glue 17 = .ok (.iconst 4, 1) := by decide +kernel
theorem dX7_glue_18 : decode cX7_glue 18 = .ok (.iadd, 1) := by decide +kernel
theorem dX7_glue_19 : decode cX7_glue 19 = .ok (.iconst 4, 1) := by decide +kernel
theorem dX7_glue_20 : decode cX7_glue 20 = .ok (.irem, 1) := by decide +kernel
theorem dX7_glue_21 : decode cX7_glue 21 = .ok (.iadd, 1) := by decide +kernel
theorem dX7_glue_22 : decode cX7_glue 22 = .ok (.iaload, 1) := by decide +kernel
theorem dX7_glue_23 : decode cX7_glue 23 = .ok (.ireturn, 1) := by decide +kernel
theorem dX7_heldAt_0 : decode cX7_heldAt 0 = .ok (.iload_n 1, 1) := by decide +kernel
theorem dX7_heldAt_1 : decode cX7_heldAt 1 = .ok (.iload_n 3, 1) := by decide +kernel
theorem dX7_heldAt_2 : decode cX7_heldAt 2 = .ok (.invokestatic 73, 3) := by decide +kernel
theorem dX7_heldAt_5 : decode cX7_heldAt 5 = .ok (.istore 4, 2) := by decide +kernel
theorem dX7_heldAt_7 : decode cX7_heldAt 7 = .ok (.iload 4, 2) := by decide +kernel
theorem dX7_heldAt_9 : decode cX7_heldAt 9 = .ok (.ifCond .lt 12, 3) := by decide +kernel
theorem dX7_heldAt_12 : decode cX7_heldAt 12 = .ok (.aload_n 0, 1) := by decide +kernel
theorem dX7_heldAt_13 : decode cX7_heldAt 13 = .ok (.iload 4, 2) := by decide +kernel
theorem dX7_heldAt_15 : decode cX7_heldAt 15 = .ok (.invokevirtual 77, 3) := by decide +kernel
theorem dX7_heldAt_18 : decode cX7_heldAt 18 = .ok (.ifCond .eq 5, 3) := by decide +kernel
theorem dX7_heldAt_21 : decode cX7_heldAt 21 = .ok (.iconst 0, 1) := by decide +kernel
theorem dX7_heldAt_22 : decode cX7_heldAt 22 = .ok (.ireturn, 1) := by decide +kernel
theorem dX7_heldAt_23 : decode cX7_heldAt 23 = .ok (.aload_n 0, 1) := by decide +kernel
theorem dX7_heldAt_24 : decode cX7_heldAt 24 = .ok (.iload_n 2, 1) := by decide +kernel
theorem dX7_heldAt_25 : decode cX7_heldAt 25 = .ok (.iload_n 3, 1) := by decide +kernel
theorem dX7_heldAt_26 : decode cX7_heldAt 26 = .ok (.invokevirtual 81, 3) := by decide +kernel
theorem dX7_heldAt_29 : decode cX7_heldAt 29 = .ok (.istore 5, 2) := by decide +kernel
theorem dX7_heldAt_31 : decode cX7_heldAt 31 = .ok (.iload 5, 2) := by decide +kernel
theorem dX7_heldAt_33 : decode cX7_heldAt 33 = .ok (.aload_n 0, 1) := by decide +kernel
theorem dX7_heldAt_34 : decode cX7_heldAt 34 = .ok (.aload_n 0, 1) := by decide +kernel
theorem dX7_heldAt_35 : decode cX7_heldAt 35 = .ok (.getfield 7, 3) := by decide +kernel
theorem dX7_heldAt_38 : decode cX7_heldAt 38 = .ok (.bipush 45, 2) := by decide +kernel
theorem dX7_heldAt_40 : decode cX7_heldAt 40 = .ok (.iload 4, 2) := by decide +kernel
theorem dX7_heldAt_42 : decode cX7_heldAt 42 = .ok (.iadd, 1) := by decide +kernel
theorem dX7_heldAt_43 : decode cX7_heldAt 43 = .ok (.iaload, 1) := by decide +kernel
theorem dX7_heldAt_44 : decode cX7_heldAt 44 = .ok (.iload_n 3, 1) := by decide +kernel
theorem dX7_heldAt_45 : decode cX7_heldAt 45 = .ok (.iconst 2, 1) := by decide +kernel
theorem dX7_heldAt_46 : decode cX7_heldAt 46 = .ok (.iadd, 1) := by decide +kernel
theorem dX7_heldAt_47 : decode cX7_heldAt 47 = .ok (.iconst 4, 1) := by decide +kernel
theorem dX7_heldAt_48 : decode cX7_heldAt 48 = .ok (.irem, 1) := by decide +kernel
theorem dX7_heldAt_49 : decode cX7_heldAt 49 = .ok (.invokevirtual 81, 3) := by decide +kernel
theorem dX7_heldAt_52 : decode cX7_heldAt 52 = .ok (.if_icmp .ne 16, 3) := by decide +kernel
theorem dX7_heldAt_55 : decode cX7_heldAt 55 = .ok (.aload_n 0, 1) := by decide +kernel
theorem dX7_heldAt_56 : decode cX7_heldAt 56 = .ok (.getfield 7, 3) := by decide +kernel
theorem dX7_heldAt_59 : decode cX7_heldAt 59 = .ok (.bipush 6, 2) := by decide +kernel
theorem dX7_heldAt_61 : decode cX7_heldAt 61 = .ok (.iload 5, 2) := by decide +kernel
theorem dX7_heldAt_63 : decode cX7_heldAt 63 = .ok (.iadd, 1) := by decide +kernel
theorem dX7_heldAt_64 : decode cX7_heldAt 64 = .ok (.iaload, 1) := by decide +kernel
theorem dX7_heldAt_65 : decode cX7_heldAt 65 = .ok (.goto 4, 3) := by decide +kernel
theorem dX7_heldAt_68 : decode cX7_heldAt 68 = .ok (.iconst 0, 1) := by decide +kernel
theorem dX7_heldAt_69 : decode cX7_heldAt 69 = .ok (.ireturn, 1) := by decide +kernel
theorem dX7_held_0 : decode cX7_held 0 = .ok (.iconst 0, 1) := by decide +kernel
theorem dX7_held_1 : decode cX7_held 1 = .ok (.istore_n 3, 1) := by decide +kernel
theorem dX7_held_2 : decode cX7_held 2 = .ok (.iconst 0, 1) := by decide +kernel
theorem dX7_held_3 : decode cX7_held 3 = .ok (.istore 4, 2) := by decide +kernel
theorem dX7_held_5 : decode cX7_held 5 = .ok (.iload 4, 2) := by decide +kernel
theorem dX7_held_7 : decode cX7_held 7 = .ok (.iconst 4, 1) := by decide +kernel
theorem dX7_held_8 : decode cX7_held 8 = .ok (.if_icmp .ge 20, 3) := by decide +kernel
theorem dX7_held_11 : decode cX7_held 11 = .ok (.iload_n 3, 1) := by decide +kernel
theorem dX7_held_12 : decode cX7_held 12 = .ok (.aload_n 0, 1) := by decide +kernel
theorem dX7_held_13 : decode cX7_held 13 = .ok (.iload_n 1, 1) := by decide +kernel
theorem dX7_held_14 : decode cX7_held 14 = .ok (.iload_n 2, 1) := by decide +kernel
theorem dX7_held_15 : decode cX7_held 15 = .ok (.iload 4, 2) := by decide +kernel
theorem dX7_held_17 : decode cX7_held 17 = .ok (.invokevirtual 84, 3) := by decide +kernel
theorem dX7_held_20 : decode cX7_held 20 = .ok (.iadd, 1) := by decide +kernel
theorem dX7_held_21 : decode cX7_held 21 = .ok (.istore_n 3, 1) := by decide +kernel
theorem dX7_held_22 : decode cX7_held 22 = .ok (.iinc 4 1, 3) := by decide +kernel
theorem dX7_held_25 : decode cX7_held 25 = .ok (.goto (-20), 3) := by decide +kernel
theorem dX7_held_28 : decode cX7_held 28 = .ok (.iload_n 3, 1) := by decide +kernel
theorem dX7_held_29 : decode cX7_held 29 = .ok (.ireturn, 1) := by decide +kernel
theorem dX7_errorsOf_0 : decode cX7_errorsOf 0 = .ok (.iconst 0, 1) := by decide +kernel
theorem dX7_errorsOf_1 : decode cX7_errorsOf 1 = .ok (.istore_n 3, 1) := by decide +kernel
theorem dX7_errorsOf_2 : decode cX7_errorsOf 2 = .ok (.iconst 0, 1) := by decide +kernel
theorem dX7_errorsOf_3 : decode cX7_errorsOf 3 = .ok (.istore 4, 2) := by decide +kernel
theorem dX7_errorsOf_5 : decode cX7_errorsOf 5 = .ok (.iload 4, 2) := by decide +kernel
theorem dX7_errorsOf_7 : decode cX7_errorsOf 7 = .ok (.iconst 4, 1) := by decide +kernel
theorem dX7_errorsOf_8 : decode cX7_errorsOf 8 = .ok (.if_icmp .ge 90, 3) := by decide +kernel
theorem dX7_errorsOf_11 : decode cX7_errorsOf 11 = .ok (.iload_n 1, 1) := by decide +kernel
theorem dX7_errorsOf_12 : decode cX7_errorsOf 12 = .ok (.iload 4, 2) := by decide +kernel
theorem dX7_errorsOf_14 : decode cX7_errorsOf 14 = .ok (.invokestatic 73, 3) := by decide +kernel
theorem dX7_errorsOf_17 : decode cX7_errorsOf 17 = .ok (.istore 5, 2) := by decide +kernel
theorem dX7_errorsOf_19 : decode cX7_errorsOf 19 = .ok (.iload 5, 2) := by decide +kernel
theorem dX7_errorsOf_21 : decode cX7_errorsOf 21 = .ok (.ifCond .lt 71, 3) := by decide +kernel
theorem dX7_errorsOf_24 : decode cX7_errorsOf 24 = .ok (.aload_n 0, 1) := by decide +kernel
theorem dX7_errorsOf_25 : decode cX7_errorsOf 25 = .ok (.iload 5, 2) := by decide +kernel
theorem dX7_errorsOf_27 : decode cX7_errorsOf 27 = .ok (.invokevirtual 77, 3) := by decide +kernel
theorem dX7_errorsOf_30 : decode cX7_errorsOf 30 = .ok (.ifCond .eq 6, 3) := by decide +kernel
theorem dX7_errorsOf_33 : decode cX7_errorsOf 33 = .ok (.goto 59, 3) := by decide +kernel
theorem dX7_errorsOf_36 : decode cX7_errorsOf 36 = .ok (.aload_n 0, 1) := by decide +kernel
theorem dX7_errorsOf_37 : decode cX7_errorsOf 37 = .ok (.iload_n 2, 1) := by decide +kernel
theorem dX7_errorsOf_38 : decode cX7_errorsOf 38 = .ok (.iload 4, 2) := by decide +kernel
theorem dX7_errorsOf_40 : decode cX7_errorsOf 40 = .ok (.invokevirtual 81, 3) := by decide +kernel
theorem dX7_errorsOf_43 : decode cX7_errorsOf 43 = .ok (.istore 6, 2) := by decide +kernel
theorem dX7_errorsOf_45 : decode cX7_errorsOf 45 = .ok (.aload_n 0, 1) := by decide +kernel
theorem dX7_errorsOf_46 : decode cX7_errorsOf 46 = .ok (.aload_n 0, 1) := by decide +kernel
theorem dX7_errorsOf_47 : decode cX7_errorsOf 47 = .ok (.getfield 7, 3) := by decide +kernel
theorem dX7_errorsOf_50 : decode cX7_errorsOf 50 = .ok (.bipush 45, 2) := by decide +kernel
theorem dX7_errorsOf_52 : decode cX7_errorsOf 52 = .ok (.iload 5, 2) := by decide +kernel
theorem dX7_errorsOf_54 : decode cX7_errorsOf 54 = .ok (.iadd, 1) := by decide +kernel
theorem dX7_errorsOf_55 : decode cX7_errorsOf 55 = .ok (.iaload, 1) := by decide +kernel
theorem dX7_errorsOf_56 : decode cX7_errorsOf 56 = .ok (.iload 4, 2) := by decide +kernel
theorem dX7_errorsOf_58 : decode cX7_errorsOf 58 = .ok (.iconst 2, 1) := by decide +kernel
theorem dX7_errorsOf_59 : decode cX7_errorsOf 59 = .ok (.iadd, 1) := by decide +kernel
theorem dX7_errorsOf_60 : decode cX7_errorsOf 60 = .ok (.iconst 4, 1) := by decide +kernel
theorem dX7_errorsOf_61 : decode cX7_errorsOf 61 = .ok (.irem, 1) := by decide +kernel
theorem dX7_errorsOf_62 : decode cX7_errorsOf 62 = .ok (.invokevirtual 81, 3) := by decide +kernel
theorem dX7_errorsOf_65 : decode cX7_errorsOf 65 = .ok (.istore 7, 2) := by decide +kernel
theorem dX7_errorsOf_67 : decode cX7_errorsOf 67 = .ok (.iload_n 3, 1) := by decide +kernel
theorem dX7_errorsOf_68 : decode cX7_errorsOf 68 = .ok (.iload 6, 2) := by decide +kernel
theorem dX7_errorsOf_70 : decode cX7_errorsOf 70 = .ok (.iload 7, 2) := by decide +kernel
theorem dX7_errorsOf_72 : decode cX7_errorsOf 72 = .ok (.if_icmp .eq 17, 3) := by decide +kernel
theorem dX7_errorsOf_75 : decode cX7_errorsOf 75 = .ok (.iload 6, 2) := by decide +kernel
theorem dX7_errorsOf_77 : decode cX7_errorsOf 77 = .ok (.ifCond .le 12, 3) := by decide +kernel
theorem dX7_errorsOf_80 : decode cX7_errorsOf 80 = .ok (.iload 7, 2) := by decide +kernel
theorem dX7_errorsOf_82 : decode cX7_errorsOf 82 = .ok (.ifCond .le 7, 3) := by decide +kernel
theorem dX7_errorsOf_85 : decode cX7_errorsOf 85 = .ok (.iconst 1, 1) := by decide +kernel
theorem dX7_errorsOf_86 : decode cX7_errorsOf 86 = .ok (.goto 4, 3) := by decide +kernel
theorem dX7_errorsOf_89 : decode cX7_errorsOf 89 = .ok (.iconst 0, 1) := by decide +kernel
theorem dX7_errorsOf_90 : decode cX7_errorsOf 90 = .ok (.iadd, 1) := by decide +kernel
theorem dX7_errorsOf_91 : decode cX7_errorsOf 91 = .ok (.istore_n 3, 1) := by decide +kernel
theorem dX7_errorsOf_92 : decode cX7_errorsOf 92 = .ok (.iinc 4 1, 3) := by decide +kernel
theorem dX7_errorsOf_95 : decode cX7_errorsOf 95 = .ok (.goto (-90), 3) := by decide +kernel
theorem dX7_errorsOf_98 : decode cX7_errorsOf 98 = .ok (.iload_n 3, 1) := by decide +kernel
theorem dX7_errorsOf_99 : decode cX7_errorsOf 99 = .ok (.ireturn, 1) := by decide +kernel
theorem dX7_bricks_0 : decode cX7_bricks 0 = .ok (.iconst 0, 1) := by decide +kernel
theorem dX7_bricks_1 : decode cX7_bricks 1 = .ok (.istore_n 1, 1) := by decide +kernel
theorem dX7_bricks_2 : decode cX7_bricks 2 = .ok (.iconst 0, 1) := by decide +kernel
theorem dX7_bricks_3 : decode cX7_bricks 3 = .ok (.istore_n 2, 1) := by decide +kernel
theorem dX7_bricks_4 : decode cX7_bricks 4 = .ok (.iload_n 2, 1) := by decide +kernel
theorem dX7_bricks_5 : decode cX7_bricks 5 = .ok (.bipush 42, 2) := by decide +kernel
theorem dX7_bricks_7 : decode cX7_bricks 7 = .ok (.if_icmp .ge 25, 3) := by decide +kernel
theorem dX7_bricks_10 : decode cX7_bricks 10 = .ok (.iload_n 1, 1) := by decide +kernel
theorem dX7_bricks_11 : decode cX7_bricks 11 = .ok (.aload_n 0, 1) := by decide +kernel
theorem dX7_bricks_12 : decode cX7_bricks 12 = .ok (.iload_n 2, 1) := by decide +kernel
theorem dX7_bricks_13 : decode cX7_bricks 13 = .ok (.invokevirtual 77, 3) := by decide +kernel
theorem dX7_bricks_16 : decode cX7_bricks 16 = .ok (.ifCond .eq 7, 3) := by decide +kernel
theorem dX7_bricks_19 : decode cX7_bricks 19 = .ok (.iconst 0, 1) := by decide +kernel
theorem dX7_bricks_20 : decode cX7_bricks 20 = .ok (.goto 4, 3) := by decide +kernel
theorem dX7_bricks_23 : decode cX7_bricks 23 = .ok (.iconst 1, 1) := by decide +kernel
theorem dX7_bricks_24 : decode cX7_bricks 24 = .ok (.iadd, 1) := by decide +kernel
theorem dX7_bricks_25 : decode cX7_bricks 25 = .ok (.istore_n 1, 1) := by decide +kernel
theorem dX7_bricks_26 : decode cX7_bricks 26 = .ok (.iinc 2 1, 3) := by decide +kernel
theorem dX7_bricks_29 : decode cX7_bricks 29 = .ok (.goto (-25), 3) := by decide +kernel
theorem dX7_bricks_32 : decode cX7_bricks 32 = .ok (.iload_n 1, 1) := by decide +kernel
theorem dX7_bricks_33 : decode cX7_bricks 33 = .ok (.ireturn, 1) := by decide +kernel
theorem dX7_standing0_0 : decode cX7_standing0 0 = .ok (.iconst 0, 1) := by decide +kernel
theorem dX7_standing0_1 : decode cX7_standing0 1 = .ok (.istore_n 1, 1) := by decide +kernel
theorem dX7_standing0_2 : decode cX7_standing0 2 = .ok (.iconst 0, 1) := by decide +kernel
theorem dX7_standing0_3 : decode cX7_standing0 3 = .ok (.istore_n 2, 1) := by decide +kernel
theorem dX7_standing0_4 : decode cX7_standing0 4 = .ok (.iload_n 2, 1) := by decide +kernel
theorem dX7_standing0_5 : decode cX7_standing0 5 = .ok (.bipush 42, 2) := by decide +kernel
theorem dX7_standing0_7 : decode cX7_standing0 7 = .ok (.if_icmp .ge 30, 3) := by decide +kernel
theorem dX7_standing0_10 : decode cX7_standing0 10 = .ok (.aload_n 0, 1) := by decide +kernel
theorem dX7_standing0_11 : decode cX7_standing0 11 = .ok (.getfield 36, 3) := by decide +kernel
theorem dX7_standing0_14 : decode cX7_standing0 14 = .ok (.iload_n 2, 1) := by decide +kernel
theorem dX7_standing0_15 : decode cX7_standing0 15 = .ok (.iload_n 2, 1) := by decide +kernel
theorem dX7_standing0_16 : decode cX7_standing0 16 = .ok (.aload_n 0, 1) := by decide +kernel
theorem dX7_standing0_17 : decode cX7_standing0 17 = .ok (.getfield 7, 3) := by decide +kernel
theorem dX7_standing0_20 : decode cX7_standing0 20 = .ok (.iconst 1, 1) := by decide +kernel
theorem dX7_standing0_21 : decode cX7_standing0 21 = .ok (.iaload, 1) := by decide +kernel
theorem dX7_standing0_22 : decode cX7_standing0 22 = .ok (.if_icmp .ne 7, 3) := by decide +kernel
theorem dX7_standing0_25 : decode cX7_standing0 25 = .ok (.iconst 1, 1) := by decide +kernel
theorem dX7_standing0_26 : decode cX7_standing0 26 = .ok (.goto 4, 3) := by decide +kernel
theorem dX7_standing0_29 : decode cX7_standing0 29 = .ok (.iconst 0, 1) := by decide +kernel
theorem dX7_standing0_30 : decode cX7_standing0 30 = .ok (.bastore, 1) := by decide +kernel
theorem dX7_standing0_31 : decode cX7_standing0 31 = .ok (.iinc 2 1, 3) := by decide +kernel
theorem dX7_standing0_34 : decode cX7_standing0 34 = .ok (.goto (-30), 3) := by decide +kernel
theorem dX7_standing0_37 : decode cX7_standing0 37 = .ok (.aload_n 0, 1) := by decide +kernel
theorem dX7_standing0_38 : decode cX7_standing0 38 = .ok (.getfield 7, 3) := by decide +kernel
theorem dX7_standing0_41 : decode cX7_standing0 41 = .ok (.iconst 1, 1) := by decide +kernel
theorem dX7_standing0_42 : decode cX7_standing0 42 = .ok (.iaload, 1) := by decide +kernel
theorem dX7_standing0_43 : decode cX7_standing0 43 = .ok (.ifCond .lt 7, 3) := by decide +kernel
theorem dX7_standing0_46 : decode cX7_standing0 46 = .ok (.iconst 1, 1) := by decide +kernel
theorem dX7_standing0_47 : decode cX7_standing0 47 = .ok (.goto 4, 3) := by decide +kernel
theorem dX7_standing0_50 : decode cX7_standing0 50 = .ok (.iconst 0, 1) := by decide +kernel
theorem dX7_standing0_51 : decode cX7_standing0 51 = .ok (.istore_n 2, 1) := by decide +kernel
theorem dX7_standing0_52 : decode cX7_standing0 52 = .ok (.iload_n 2, 1) := by decide +kernel
theorem dX7_standing0_53 : decode cX7_standing0 53 = .ok (.ifCond .eq 106, 3) := by decide +kernel
theorem dX7_standing0_56 : decode cX7_standing0 56 = .ok (.iconst 0, 1) := by decide +kernel
theorem dX7_standing0_57 : decode cX7_standing0 57 = .ok (.istore_n 2, 1) := by decide +kernel
theorem dX7_standing0_58 : decode cX7_standing0 58 = .ok (.iconst 0, 1) := by decide +kernel
theorem dX7_standing0_59 : decode cX7_standing0 59 = .ok (.istore_n 3, 1) := by decide +kernel
theorem dX7_standing0_60 : decode cX7_standing0 60 = .ok (.iload_n 3, 1) := by decide +kernel
theorem dX7_standing0_61 : decode cX7_standing0 61 = .ok (.bipush 42, 2) := by decide +kernel
theorem dX7_standing0_63 : decode cX7_standing0 63 = .ok (.if_icmp .ge 93, 3) := by decide +kernel
theorem dX7_standing0_66 : decode cX7_standing0 66 = .ok (.aload_n 0, 1) := by decide +kernel
theorem dX7_standing0_67 : decode cX7_standing0 67 = .ok (.getfield 36, 3) := by decide +kernel
theorem dX7_standing0_70 : decode cX7_standing0 70 = .ok (.iload_n 3, 1) := by decide +kernel
theorem dX7_standing0_71 : decode cX7_standing0 71 = .ok (.baload, 1) := by decide +kernel
theorem dX7_standing0_72 : decode cX7_standing0 72 = .ok (.ifCond .ne 78, 3) := by decide +kernel
theorem dX7_standing0_75 : decode cX7_standing0 75 = .ok (.aload_n 0, 1) := by decide +kernel
theorem dX7_standing0_76 : decode cX7_standing0 76 = .ok (.iload_n 3, 1) := by decide +kernel
theorem dX7_standing0_77 : decode cX7_standing0 77 = .ok (.invokevirtual 77, 3) := by decide +kernel
theorem dX7_standing0_80 : decode cX7_standing0 80 = .ok (.ifCond .eq 6, 3) := by decide +kernel
theorem dX7_standing0_83 : decode cX7_standing0 83 = .ok (.goto 67, 3) := by decide +kernel
theorem dX7_standing0_86 : decode cX7_standing0 86 = .ok (.iconst 0, 1) := by decide +kernel
theorem dX7_standing0_87 : decode cX7_standing0 87 = .ok (.istore 4, 2) := by decide +kernel
theorem dX7_standing0_89 : decode cX7_standing0 89 = .ok (.iload 4, 2) := by decide +kernel
theorem dX7_standing0_91 : decode cX7_standing0 91 = .ok (.iconst 4, 1) := by decide +kernel
theorem dX7_standing0_92 : decode cX7_standing0 92 = .ok (.if_icmp .ge 49, 3) := by decide +kernel
theorem dX7_standing0_95 : decode cX7_standing0 95 = .ok (.aload_n 0, 1) := by decide +kernel
theorem dX7_standing0_96 : decode cX7_standing0 96 = .ok (.iload_n 3, 1) := by decide +kernel
theorem dX7_standing0_97 : decode cX7_standing0 97 = .ok (.aload_n 0, 1) := by decide +kernel
theorem dX7_standing0_98 : decode cX7_standing0 98 = .ok (.getfield 7, 3) := by decide +kernel
theorem dX7_standing0_101 : decode cX7_standing0 101 = .ok (.bipush 45, 2) := by decide +kernel
theorem dX7_standing0_103 : decode cX7_standing0 103 = .ok (.iload_n 3, 1) := by decide +kernel
theorem dX7_standing0_104 : decode cX7_standing0 104 = .ok (.iadd, 1) := by decide +kernel
theorem dX7_standing0_105 : decode cX7_standing0 105 = .ok (.iaload, 1) := by decide +kernel
theorem dX7_standing0_106 : decode cX7_standing0 106 = .ok (.iload 4, 2) := by decide +kernel
theorem dX7_standing0_108 : decode cX7_standing0 108 = .ok (.invokevirtual 84, 3) := by decide +kernel
theorem dX7_standing0_111 : decode cX7_standing0 111 = .ok (.ifCond .le 24, 3) := by decide +kernel
theorem dX7_standing0_114 : decode cX7_standing0 114 = .ok (.aload_n 0, 1) := by decide +kernel
theorem dX7_standing0_115 : decode cX7_standing0 115 = .ok (.getfield 36, 3) := by decide +kernel
theorem dX7_standing0_118 : decode cX7_standing0 118 = .ok (.iload_n 3, 1) := by decide +kernel
theorem dX7_standing0_119 : decode cX7_standing0 119 = .ok (.iload 4, 2) := by decide +kernel
theorem dX7_standing0_121 : decode cX7_standing0 121 = .ok (.invokestatic 73, 3) := by decide +kernel
theorem dX7_standing0_124 : decode cX7_standing0 124 = .ok (.baload, 1) := by decide +kernel
theorem dX7_standing0_125 : decode cX7_standing0 125 = .ok (.ifCond .eq 10, 3) := by decide +kernel
theorem dX7_standing0_128 : decode cX7_standing0 128 = .ok (.aload_n 0, 1) := by decide +kernel
theorem dX7_standing0_129 : decode cX7_standing0 129 = .ok (.getfield 36, 3) := by decide +kernel
theorem dX7_standing0_132 : decode cX7_standing0 132 = .ok (.iload_n 3, 1) := by decide +kernel
theorem dX7_standing0_133 : decode cX7_standing0 133 = .ok (.iconst 1, 1) := by decide +kernel
theorem dX7_standing0_134 : decode cX7_standing0 134 = .ok (.bastore, 1) := by decide +kernel
theorem dX7_standing0_135 : decode cX7_standing0 135 = .ok (.iinc 4 1, 3) := by decide +kernel
theorem dX7_standing0_138 : decode cX7_standing0 138 = .ok (.goto (-49), 3) := by decide +kernel
theorem dX7_standing0_141 : decode cX7_standing0 141 = .ok (.iload_n 2, 1) := by decide +kernel
theorem dX7_standing0_142 : decode cX7_standing0 142 = .ok (.aload_n 0, 1) := by decide +kernel
theorem dX7_standing0_143 : decode cX7_standing0 143 = .ok (.getfield 36, 3) := by decide +kernel
theorem dX7_standing0_146 : decode cX7_standing0 146 = .ok (.iload_n 3, 1) := by decide +kernel
theorem dX7_standing0_147 : decode cX7_standing0 147 = .ok (.baload, 1) := by decide +kernel
theorem dX7_standing0_148 : decode cX7_standing0 148 = .ok (.ior, 1) := by decide +kernel
theorem dX7_standing0_149 : decode cX7_standing0 149 = .ok (.istore_n 2, 1) := by decide +kernel
theorem dX7_standing0_150 : decode cX7_standing0 150 = .ok (.iinc 3 1, 3) := by decide +kernel
theorem dX7_standing0_153 : decode cX7_standing0 153 = .ok (.goto (-93), 3) := by decide +kernel
theorem dX7_standing0_156 : decode cX7_standing0 156 = .ok (.goto (-104), 3) := by decide +kernel
theorem dX7_standing0_159 : decode cX7_standing0 159 = .ok (.iconst 0, 1) := by decide +kernel
theorem dX7_standing0_160 : decode cX7_standing0 160 = .ok (.istore_n 3, 1) := by decide +kernel
theorem dX7_standing0_161 : decode cX7_standing0 161 = .ok (.iload_n 3, 1) := by decide +kernel
theorem dX7_standing0_162 : decode cX7_standing0 162 = .ok (.bipush 42, 2) := by decide +kernel
theorem dX7_standing0_164 : decode cX7_standing0 164 = .ok (.if_icmp .ge 26, 3) := by decide +kernel
theorem dX7_standing0_167 : decode cX7_standing0 167 = .ok (.iload_n 1, 1) := by decide +kernel
theorem dX7_standing0_168 : decode cX7_standing0 168 = .ok (.aload_n 0, 1) := by decide +kernel
theorem dX7_standing0_169 : decode cX7_standing0 169 = .ok (.getfield 36, 3) := by decide +kernel
theorem dX7_standing0_172 : decode cX7_standing0 172 = .ok (.iload_n 3, 1) := by decide +kernel
theorem dX7_standing0_173 : decode cX7_standing0 173 = .ok (.baload, 1) := by decide +kernel
theorem dX7_standing0_174 : decode cX7_standing0 174 = .ok (.ifCond .eq 7, 3) := by decide +kernel
theorem dX7_standing0_177 : decode cX7_standing0 177 = .ok (.iconst 1, 1) := by decide +kernel
theorem dX7_standing0_178 : decode cX7_standing0 178 = .ok (.goto 4, 3) := by decide +kernel
theorem dX7_standing0_181 : decode cX7_standing0 181 = .ok (.iconst 0, 1) := by decide +kernel
theorem dX7_standing0_182 : decode cX7_standing0 182 = .ok (.iadd, 1) := by decide +kernel
theorem dX7_standing0_183 : decode cX7_standing0 183 = .ok (.istore_n 1, 1) := by decide +kernel
theorem dX7_standing0_184 : decode cX7_standing0 184 = .ok (.iinc 3 1, 3) := by decide +kernel
theorem dX7_standing0_187 : decode cX7_standing0 187 = .ok (.goto (-26), 3) := by decide +kernel
theorem dX7_standing0_190 : decode cX7_standing0 190 = .ok (.iload_n 1, 1) := by decide +kernel
theorem dX7_standing0_191 : decode cX7_standing0 191 = .ok (.ireturn, 1) := by decide +kernel
theorem dX7_fallsBy_0 : decode cX7_fallsBy 0 = .ok (.aload_n 0, 1) := by decide +kernel
theorem dX7_fallsBy_1 : decode cX7_fallsBy 1 = .ok (.invokevirtual 88, 3) := by decide +kernel
theorem dX7_fallsBy_4 : decode cX7_fallsBy 4 = .ok (.istore_n 2, 1) := by decide +kernel
theorem dX7_fallsBy_5 : decode cX7_fallsBy 5 = .ok (.iload_n 1, 1) := by decide +kernel
theorem dX7_fallsBy_6 : decode cX7_fallsBy 6 = .ok (.aload_n 0, 1) := by decide +kernel
theorem dX7_fallsBy_7 : decode cX7_fallsBy 7 = .ok (.getfield 7, 3) := by decide +kernel
theorem dX7_fallsBy_10 : decode cX7_fallsBy 10 = .ok (.iconst 1, 1) := by decide +kernel
theorem dX7_fallsBy_11 : decode cX7_fallsBy 11 = .ok (.iaload, 1) := by decide +kernel
theorem dX7_fallsBy_12 : decode cX7_fallsBy 12 = .ok (.if_icmp .ne 7, 3) := by decide +kernel
theorem dX7_fallsBy_15 : decode cX7_fallsBy 15 = .ok (.iload_n 2, 1) := by decide +kernel
theorem dX7_fallsBy_16 : decode cX7_fallsBy 16 = .ok (.iconst 1, 1) := by decide +kernel
theorem dX7_fallsBy_17 : decode cX7_fallsBy 17 = .ok (.isub, 1) := by decide +kernel
theorem dX7_fallsBy_18 : decode cX7_fallsBy 18 = .ok (.ireturn, 1) := by decide +kernel
theorem dX7_fallsBy_19 : decode cX7_fallsBy 19 = .ok (.aload_n 0, 1) := by decide +kernel
theorem dX7_fallsBy_20 : decode cX7_fallsBy 20 = .ok (.getfield 36, 3) := by decide +kernel
theorem dX7_fallsBy_23 : decode cX7_fallsBy 23 = .ok (.iload_n 1, 1) := by decide +kernel
theorem dX7_fallsBy_24 : decode cX7_fallsBy 24 = .ok (.baload, 1) := by decide +kernel
theorem dX7_fallsBy_25 : decode cX7_fallsBy 25 = .ok (.ifCond .eq 7, 3) := by decide +kernel
theorem dX7_fallsBy_28 : decode cX7_fallsBy 28 = .ok (.iconst 1, 1) := by decide +kernel
theorem dX7_fallsBy_29 : decode cX7_fallsBy 29 = .ok (.goto 4, 3) := by decide +kernel
theorem dX7_fallsBy_32 : decode cX7_fallsBy 32 = .ok (.iconst 0, 1) := by decide +kernel
theorem dX7_fallsBy_33 : decode cX7_fallsBy 33 = .ok (.istore_n 3, 1) := by decide +kernel
theorem dX7_fallsBy_34 : decode cX7_fallsBy 34 = .ok (.aload_n 0, 1) := by decide +kernel
theorem dX7_fallsBy_35 : decode cX7_fallsBy 35 = .ok (.getfield 7, 3) := by decide +kernel
theorem dX7_fallsBy_38 : decode cX7_fallsBy 38 = .ok (.bipush 45, 2) := by decide +kernel
theorem dX7_fallsBy_40 : decode cX7_fallsBy 40 = .ok (.iload_n 1, 1) := by decide +kernel
theorem dX7_fallsBy_41 : decode cX7_fallsBy 41 = .ok (.iadd, 1) := by decide +kernel
theorem dX7_fallsBy_42 : decode cX7_fallsBy 42 = .ok (.iaload, 1) := by decide +kernel
theorem dX7_fallsBy_43 : decode cX7_fallsBy 43 = .ok (.istore 4, 2) := by decide +kernel
theorem dX7_fallsBy_45 : decode cX7_fallsBy 45 = .ok (.aload_n 0, 1) := by decide +kernel
theorem dX7_fallsBy_46 : decode cX7_fallsBy 46 = .ok (.getfield 7, 3) := by decide +kernel
theorem dX7_fallsBy_49 : decode cX7_fallsBy 49 = .ok (.bipush 45, 2) := by decide +kernel
theorem dX7_fallsBy_51 : decode cX7_fallsBy 51 = .ok (.iload_n 1, 1) := by decide +kernel
theorem dX7_fallsBy_52 : decode cX7_fallsBy 52 = .ok (.iadd, 1) := by decide +kernel
theorem dX7_fallsBy_53 : decode cX7_fallsBy 53 = .ok (.iconst (-1), 1) := by decide +kernel
theorem dX7_fallsBy_54 : decode cX7_fallsBy 54 = .ok (.iastore, 1) := by decide +kernel
theorem dX7_fallsBy_55 : decode cX7_fallsBy 55 = .ok (.aload_n 0, 1) := by decide +kernel
theorem dX7_fallsBy_56 : decode cX7_fallsBy 56 = .ok (.invokevirtual 88, 3) := by decide +kernel
theorem dX7_fallsBy_59 : decode cX7_fallsBy 59 = .ok (.istore 5, 2) := by decide +kernel
theorem dX7_fallsBy_61 : decode cX7_fallsBy 61 = .ok (.aload_n 0, 1) := by decide +kernel
theorem dX7_fallsBy_62 : decode cX7_fallsBy 62 = .ok (.getfield 7, 3) := by decide +kernel
theorem dX7_fallsBy_65 : decode cX7_fallsBy 65 = .ok (.bipush 45, 2) := by decide +kernel
theorem dX7_fallsBy_67 : decode cX7_fallsBy 67 = .ok (.iload_n 1, 1) := by decide +kernel
theorem dX7_fallsBy_68 : decode cX7_fallsBy 68 = .ok (.iadd, 1) := by decide +kernel
theorem dX7_fallsBy_69 : decode cX7_fallsBy 69 = .ok (.iload 4, 2) := by decide +kernel
theorem dX7_fallsBy_71 : decode cX7_fallsBy 71 = .ok (.iastore, 1) := by decide +kernel
theorem dX7_fallsBy_72 : decode cX7_fallsBy 72 = .ok (.iload_n 2, 1) := by decide +kernel
theorem dX7_fallsBy_73 : decode cX7_fallsBy 73 = .ok (.iload_n 3, 1) := by decide +kernel
theorem dX7_fallsBy_74 : decode cX7_fallsBy 74 = .ok (.isub, 1) := by decide +kernel
theorem dX7_fallsBy_75 : decode cX7_fallsBy 75 = .ok (.iload 5, 2) := by decide +kernel
theorem dX7_fallsBy_77 : decode cX7_fallsBy 77 = .ok (.isub, 1) := by decide +kernel
theorem dX7_fallsBy_78 : decode cX7_fallsBy 78 = .ok (.ireturn, 1) := by decide +kernel
theorem dX7_kind_0 : decode cX7_kind 0 = .ok (.iload_n 1, 1) := by decide +kernel
theorem dX7_kind_1 : decode cX7_kind 1 = .ok (.iconst 0, 1) := by decide +kernel
theorem dX7_kind_2 : decode cX7_kind 2 = .ok (.bipush 6, 2) := by decide +kernel
theorem dX7_kind_4 : decode cX7_kind 4 = .ok (.invokestatic 69, 3) := by decide +kernel
theorem dX7_kind_7 : decode cX7_kind 7 = .ok (.ifCond .eq 34, 3) := by decide +kernel
theorem dX7_kind_10 : decode cX7_kind 10 = .ok (.iload_n 2, 1) := by decide +kernel
theorem dX7_kind_11 : decode cX7_kind 11 = .ok (.iconst 0, 1) := by decide +kernel
theorem dX7_kind_12 : decode cX7_kind 12 = .ok (.bipush 6, 2) := by decide +kernel
end
section
theorem dX7_kind_14 : decode cX7_kind 14 = .ok (.invokestatic 69, 3) := by decide +kernel
theorem dX7_kind_17 : decode cX7_kind 17 = .ok (.ifCond .eq 24, 3) := by decide +kernel
theorem dX7_kind_20 : decode cX7_kind 20 = .ok (.iload_n 3, 1) := by decide +kernel
theorem dX7_kind_21 : decode cX7_kind 21 = .ok (.iconst 0, 1) := by decide +kernel
theorem dX7_kind_22 : decode cX7_kind 22 = .ok (.bipush 6, 2) := by decide +kernel
theorem dX7_kind_24 : decode cX7_kind 24 = .ok (.invokestatic 69, 3) := by decide +kernel
theorem dX7_kind_27 : decode cX7_kind 27 = .ok (.ifCond .eq 14, 3) := by decide +kernel
theorem dX7_kind_30 : decode cX7_kind 30 = .ok (.iload 4, 2) := by decide +kernel
theorem dX7_kind_32 : decode cX7_kind 32 = .ok (.iconst 0, 1) := by decide +kernel
theorem dX7_kind_33 : decode cX7_kind 33 = .ok (.bipush 6, 2) := by decide +kernel
theorem dX7_kind_35 : decode cX7_kind 35 = .ok (.invokestatic 69, 3) := by decide +kernel
theorem dX7_kind_38 : decode cX7_kind 38 = .ok (.ifCond .ne 10, 3) := by decide +kernel
theorem dX7_kind_41 : decode cX7_kind 41 = .ok (.aload_n 0, 1) := by decide +kernel
theorem dX7_kind_42 : decode cX7_kind 42 = .ok (.iconst 1, 1) := by decide +kernel
theorem dX7_kind_43 : decode cX7_kind 43 = .ok (.iconst 0, 1) := by decide +kernel
theorem dX7_kind_44 : decode cX7_kind 44 = .ok (.invokevirtual 92, 3) := by decide +kernel
theorem dX7_kind_47 : decode cX7_kind 47 = .ok (.ireturn, 1) := by decide +kernel
theorem dX7_kind_48 : decode cX7_kind 48 = .ok (.aload_n 0, 1) := by decide +kernel
theorem dX7_kind_49 : decode cX7_kind 49 = .ok (.getfield 7, 3) := by decide +kernel
theorem dX7_kind_52 : decode cX7_kind 52 = .ok (.iconst 0, 1) := by decide +kernel
theorem dX7_kind_53 : decode cX7_kind 53 = .ok (.iaload, 1) := by decide +kernel
theorem dX7_kind_54 : decode cX7_kind 54 = .ok (.bipush 8, 2) := by decide +kernel
theorem dX7_kind_56 : decode cX7_kind 56 = .ok (.if_icmp .ne 11, 3) := by decide +kernel
theorem dX7_kind_59 : decode cX7_kind 59 = .ok (.aload_n 0, 1) := by decide +kernel
theorem dX7_kind_60 : decode cX7_kind 60 = .ok (.iconst 2, 1) := by decide +kernel
theorem dX7_kind_61 : decode cX7_kind 61 = .ok (.bipush 8, 2) := by decide +kernel
theorem dX7_kind_63 : decode cX7_kind 63 = .ok (.invokevirtual 92, 3) := by decide +kernel
theorem dX7_kind_66 : decode cX7_kind 66 = .ok (.ireturn, 1) := by decide +kernel
theorem dX7_kind_67 : decode cX7_kind 67 = .ok (.aload_n 0, 1) := by decide +kernel
theorem dX7_kind_68 : decode cX7_kind 68 = .ok (.aload_n 0, 1) := by decide +kernel
theorem dX7_kind_69 : decode cX7_kind 69 = .ok (.getfield 7, 3) := by decide +kernel
theorem dX7_kind_72 : decode cX7_kind 72 = .ok (.invokevirtual 95, 3) := by decide +kernel
theorem dX7_kind_75 : decode cX7_kind 75 = .ok (.bipush 13, 2) := by decide +kernel
theorem dX7_kind_77 : decode cX7_kind 77 = .ok (.iconst 4, 1) := by decide +kernel
theorem dX7_kind_78 : decode cX7_kind 78 = .ok (.aload_n 0, 1) := by decide +kernel
theorem dX7_kind_79 : decode cX7_kind 79 = .ok (.getfield 7, 3) := by decide +kernel
theorem dX7_kind_82 : decode cX7_kind 82 = .ok (.iconst 0, 1) := by decide +kernel
theorem dX7_kind_83 : decode cX7_kind 83 = .ok (.iaload, 1) := by decide +kernel
theorem dX7_kind_84 : decode cX7_kind 84 = .ok (.imul, 1) := by decide +kernel
theorem dX7_kind_85 : decode cX7_kind 85 = .ok (.iadd, 1) := by decide +kernel
theorem dX7_kind_86 : decode cX7_kind 86 = .ok (.istore 5, 2) := by decide +kernel
theorem dX7_kind_88 : decode cX7_kind 88 = .ok (.aload_n 0, 1) := by decide +kernel
theorem dX7_kind_89 : decode cX7_kind 89 = .ok (.getfield 7, 3) := by decide +kernel
theorem dX7_kind_92 : decode cX7_kind 92 = .ok (.iload 5, 2) := by decide +kernel
theorem dX7_kind_94 : decode cX7_kind 94 = .ok (.iload_n 1, 1) := by decide +kernel
theorem dX7_kind_95 : decode cX7_kind 95 = .ok (.iastore, 1) := by decide +kernel
theorem dX7_kind_96 : decode cX7_kind 96 = .ok (.aload_n 0, 1) := by decide +kernel
theorem dX7_kind_97 : decode cX7_kind 97 = .ok (.getfield 7, 3) := by decide +kernel
theorem dX7_kind_100 : decode cX7_kind 100 = .ok (.iload 5, 2) := by decide +kernel
theorem dX7_kind_102 : decode cX7_kind 102 = .ok (.iconst 1, 1) := by decide +kernel
theorem dX7_kind_103 : decode cX7_kind 103 = .ok (.iadd, 1) := by decide +kernel
theorem dX7_kind_104 : decode cX7_kind 104 = .ok (.iload_n 2, 1) := by decide +kernel
theorem dX7_kind_105 : decode cX7_kind 105 = .ok (.iastore, 1) := by decide +kernel
theorem dX7_kind_106 : decode cX7_kind 106 = .ok (.aload_n 0, 1) := by decide +kernel
theorem dX7_kind_107 : decode cX7_kind 107 = .ok (.getfield 7, 3) := by decide +kernel
theorem dX7_kind_110 : decode cX7_kind 110 = .ok (.iload 5, 2) := by decide +kernel
theorem dX7_kind_112 : decode cX7_kind 112 = .ok (.iconst 2, 1) := by decide +kernel
theorem dX7_kind_113 : decode cX7_kind 113 = .ok (.iadd, 1) := by decide +kernel
theorem dX7_kind_114 : decode cX7_kind 114 = .ok (.iload_n 3, 1) := by decide +kernel
theorem dX7_kind_115 : decode cX7_kind 115 = .ok (.iastore, 1) := by decide +kernel
theorem dX7_kind_116 : decode cX7_kind 116 = .ok (.aload_n 0, 1) := by decide +kernel
theorem dX7_kind_117 : decode cX7_kind 117 = .ok (.getfield 7, 3) := by decide +kernel
theorem dX7_kind_120 : decode cX7_kind 120 = .ok (.iload 5, 2) := by decide +kernel
theorem dX7_kind_122 : decode cX7_kind 122 = .ok (.iconst 3, 1) := by decide +kernel
theorem dX7_kind_123 : decode cX7_kind 123 = .ok (.iadd, 1) := by decide +kernel
theorem dX7_kind_124 : decode cX7_kind 124 = .ok (.iload 4, 2) := by decide +kernel
theorem dX7_kind_126 : decode cX7_kind 126 = .ok (.iastore, 1) := by decide +kernel
theorem dX7_kind_127 : decode cX7_kind 127 = .ok (.aload_n 0, 1) := by decide +kernel
theorem dX7_kind_128 : decode cX7_kind 128 = .ok (.getfield 7, 3) := by decide +kernel
theorem dX7_kind_131 : decode cX7_kind 131 = .ok (.iconst 0, 1) := by decide +kernel
theorem dX7_kind_132 : decode cX7_kind 132 = .ok (.dup2, 1) := by decide +kernel
theorem dX7_kind_133 : decode cX7_kind 133 = .ok (.iaload, 1) := by decide +kernel
theorem dX7_kind_134 : decode cX7_kind 134 = .ok (.iconst 1, 1) := by decide +kernel
theorem dX7_kind_135 : decode cX7_kind 135 = .ok (.iadd, 1) := by decide +kernel
theorem dX7_kind_136 : decode cX7_kind 136 = .ok (.iastore, 1) := by decide +kernel
theorem dX7_kind_137 : decode cX7_kind 137 = .ok (.aload_n 0, 1) := by decide +kernel
theorem dX7_kind_138 : decode cX7_kind 138 = .ok (.getfield 7, 3) := by decide +kernel
theorem dX7_kind_141 : decode cX7_kind 141 = .ok (.iconst 0, 1) := by decide +kernel
theorem dX7_kind_142 : decode cX7_kind 142 = .ok (.iaload, 1) := by decide +kernel
theorem dX7_kind_143 : decode cX7_kind 143 = .ok (.iconst 1, 1) := by decide +kernel
theorem dX7_kind_144 : decode cX7_kind 144 = .ok (.isub, 1) := by decide +kernel
theorem dX7_kind_145 : decode cX7_kind 145 = .ok (.ireturn, 1) := by decide +kernel
theorem dX7_lay_0 : decode cX7_lay 0 = .ok (.iload_n 1, 1) := by decide +kernel
theorem dX7_lay_1 : decode cX7_lay 1 = .ok (.invokestatic 99, 3) := by decide +kernel
theorem dX7_lay_4 : decode cX7_lay 4 = .ok (.ifCond .eq 12, 3) := by decide +kernel
theorem dX7_lay_7 : decode cX7_lay 7 = .ok (.iload_n 3, 1) := by decide +kernel
theorem dX7_lay_8 : decode cX7_lay 8 = .ok (.iconst 0, 1) := by decide +kernel
theorem dX7_lay_9 : decode cX7_lay 9 = .ok (.iconst 3, 1) := by decide +kernel
theorem dX7_lay_10 : decode cX7_lay 10 = .ok (.invokestatic 69, 3) := by decide +kernel
theorem dX7_lay_13 : decode cX7_lay 13 = .ok (.ifCond .ne 10, 3) := by decide +kernel
theorem dX7_lay_16 : decode cX7_lay 16 = .ok (.aload_n 0, 1) := by decide +kernel
theorem dX7_lay_17 : decode cX7_lay 17 = .ok (.iconst 1, 1) := by decide +kernel
theorem dX7_lay_18 : decode cX7_lay 18 = .ok (.iconst 0, 1) := by decide +kernel
theorem dX7_lay_19 : decode cX7_lay 19 = .ok (.invokevirtual 92, 3) := by decide +kernel
theorem dX7_lay_22 : decode cX7_lay 22 = .ok (.ireturn, 1) := by decide +kernel
theorem dX7_lay_23 : decode cX7_lay 23 = .ok (.aload_n 0, 1) := by decide +kernel
theorem dX7_lay_24 : decode cX7_lay 24 = .ok (.iload_n 2, 1) := by decide +kernel
theorem dX7_lay_25 : decode cX7_lay 25 = .ok (.invokevirtual 102, 3) := by decide +kernel
theorem dX7_lay_28 : decode cX7_lay 28 = .ok (.ifCond .ne 10, 3) := by decide +kernel
theorem dX7_lay_31 : decode cX7_lay 31 = .ok (.aload_n 0, 1) := by decide +kernel
theorem dX7_lay_32 : decode cX7_lay 32 = .ok (.iconst 3, 1) := by decide +kernel
theorem dX7_lay_33 : decode cX7_lay 33 = .ok (.iload_n 2, 1) := by decide +kernel
theorem dX7_lay_34 : decode cX7_lay 34 = .ok (.invokevirtual 92, 3) := by decide +kernel
theorem dX7_lay_37 : decode cX7_lay 37 = .ok (.ireturn, 1) := by decide +kernel
theorem dX7_lay_38 : decode cX7_lay 38 = .ok (.aload_n 0, 1) := by decide +kernel
theorem dX7_lay_39 : decode cX7_lay 39 = .ok (.iload_n 1, 1) := by decide +kernel
theorem dX7_lay_40 : decode cX7_lay 40 = .ok (.invokevirtual 77, 3) := by decide +kernel
theorem dX7_lay_43 : decode cX7_lay 43 = .ok (.ifCond .ne 20, 3) := by decide +kernel
theorem dX7_lay_46 : decode cX7_lay 46 = .ok (.aload_n 0, 1) := by decide +kernel
theorem dX7_lay_47 : decode cX7_lay 47 = .ok (.iconst 4, 1) := by decide +kernel
theorem dX7_lay_48 : decode cX7_lay 48 = .ok (.aload_n 0, 1) := by decide +kernel
theorem dX7_lay_49 : decode cX7_lay 49 = .ok (.getfield 7, 3) := by decide +kernel
theorem dX7_lay_52 : decode cX7_lay 52 = .ok (.bipush 45, 2) := by decide +kernel
theorem dX7_lay_54 : decode cX7_lay 54 = .ok (.iload_n 1, 1) := by decide +kernel
theorem dX7_lay_55 : decode cX7_lay 55 = .ok (.iadd, 1) := by decide +kernel
theorem dX7_lay_56 : decode cX7_lay 56 = .ok (.iaload, 1) := by decide +kernel
theorem dX7_lay_57 : decode cX7_lay 57 = .ok (.iconst 4, 1) := by decide +kernel
theorem dX7_lay_58 : decode cX7_lay 58 = .ok (.idiv, 1) := by decide +kernel
theorem dX7_lay_59 : decode cX7_lay 59 = .ok (.invokevirtual 92, 3) := by decide +kernel
theorem dX7_lay_62 : decode cX7_lay 62 = .ok (.ireturn, 1) := by decide +kernel
theorem dX7_lay_63 : decode cX7_lay 63 = .ok (.aload_n 0, 1) := by decide +kernel
theorem dX7_lay_64 : decode cX7_lay 64 = .ok (.iload_n 1, 1) := by decide +kernel
theorem dX7_lay_65 : decode cX7_lay 65 = .ok (.iconst 4, 1) := by decide +kernel
theorem dX7_lay_66 : decode cX7_lay 66 = .ok (.iload_n 2, 1) := by decide +kernel
theorem dX7_lay_67 : decode cX7_lay 67 = .ok (.imul, 1) := by decide +kernel
theorem dX7_lay_68 : decode cX7_lay 68 = .ok (.iload_n 3, 1) := by decide +kernel
theorem dX7_lay_69 : decode cX7_lay 69 = .ok (.iadd, 1) := by decide +kernel
theorem dX7_lay_70 : decode cX7_lay 70 = .ok (.invokevirtual 105, 3) := by decide +kernel
theorem dX7_lay_73 : decode cX7_lay 73 = .ok (.istore 4, 2) := by decide +kernel
theorem dX7_lay_75 : decode cX7_lay 75 = .ok (.aload_n 0, 1) := by decide +kernel
theorem dX7_lay_76 : decode cX7_lay 76 = .ok (.getfield 7, 3) := by decide +kernel
theorem dX7_lay_79 : decode cX7_lay 79 = .ok (.iconst 1, 1) := by decide +kernel
theorem dX7_lay_80 : decode cX7_lay 80 = .ok (.iaload, 1) := by decide +kernel
theorem dX7_lay_81 : decode cX7_lay 81 = .ok (.ifCond .lt 29, 3) := by decide +kernel
theorem dX7_lay_84 : decode cX7_lay 84 = .ok (.iload 4, 2) := by decide +kernel
theorem dX7_lay_86 : decode cX7_lay 86 = .ok (.aload_n 0, 1) := by decide +kernel
theorem dX7_lay_87 : decode cX7_lay 87 = .ok (.getfield 7, 3) := by decide +kernel
theorem dX7_lay_90 : decode cX7_lay 90 = .ok (.iconst 2, 1) := by decide +kernel
theorem dX7_lay_91 : decode cX7_lay 91 = .ok (.iaload, 1) := by decide +kernel
theorem dX7_lay_92 : decode cX7_lay 92 = .ok (.if_icmp .ge 18, 3) := by decide +kernel
theorem dX7_lay_95 : decode cX7_lay 95 = .ok (.aload_n 0, 1) := by decide +kernel
theorem dX7_lay_96 : decode cX7_lay 96 = .ok (.iconst 5, 1) := by decide +kernel
theorem dX7_lay_97 : decode cX7_lay 97 = .ok (.aload_n 0, 1) := by decide +kernel
theorem dX7_lay_98 : decode cX7_lay 98 = .ok (.getfield 7, 3) := by decide +kernel
theorem dX7_lay_101 : decode cX7_lay 101 = .ok (.iconst 2, 1) := by decide +kernel
theorem dX7_lay_102 : decode cX7_lay 102 = .ok (.iaload, 1) := by decide +kernel
theorem dX7_lay_103 : decode cX7_lay 103 = .ok (.iload 4, 2) := by decide +kernel
theorem dX7_lay_105 : decode cX7_lay 105 = .ok (.isub, 1) := by decide +kernel
theorem dX7_lay_106 : decode cX7_lay 106 = .ok (.invokevirtual 92, 3) := by decide +kernel
theorem dX7_lay_109 : decode cX7_lay 109 = .ok (.ireturn, 1) := by decide +kernel
theorem dX7_lay_110 : decode cX7_lay 110 = .ok (.aload_n 0, 1) := by decide +kernel
theorem dX7_lay_111 : decode cX7_lay 111 = .ok (.aload_n 0, 1) := by decide +kernel
theorem dX7_lay_112 : decode cX7_lay 112 = .ok (.getfield 7, 3) := by decide +kernel
theorem dX7_lay_115 : decode cX7_lay 115 = .ok (.invokevirtual 95, 3) := by decide +kernel
theorem dX7_lay_118 : decode cX7_lay 118 = .ok (.aload_n 0, 1) := by decide +kernel
theorem dX7_lay_119 : decode cX7_lay 119 = .ok (.getfield 7, 3) := by decide +kernel
theorem dX7_lay_122 : decode cX7_lay 122 = .ok (.iconst 1, 1) := by decide +kernel
theorem dX7_lay_123 : decode cX7_lay 123 = .ok (.iaload, 1) := by decide +kernel
theorem dX7_lay_124 : decode cX7_lay 124 = .ok (.ifCond .ge 7, 3) := by decide +kernel
theorem dX7_lay_127 : decode cX7_lay 127 = .ok (.iconst 1, 1) := by decide +kernel
theorem dX7_lay_128 : decode cX7_lay 128 = .ok (.goto 4, 3) := by decide +kernel
theorem dX7_lay_131 : decode cX7_lay 131 = .ok (.iconst 0, 1) := by decide +kernel
theorem dX7_lay_132 : decode cX7_lay 132 = .ok (.istore 5, 2) := by decide +kernel
theorem dX7_lay_134 : decode cX7_lay 134 = .ok (.iload 5, 2) := by decide +kernel
theorem dX7_lay_136 : decode cX7_lay 136 = .ok (.ifCond .eq 10, 3) := by decide +kernel
theorem dX7_lay_139 : decode cX7_lay 139 = .ok (.aload_n 0, 1) := by decide +kernel
theorem dX7_lay_140 : decode cX7_lay 140 = .ok (.getfield 7, 3) := by decide +kernel
theorem dX7_lay_143 : decode cX7_lay 143 = .ok (.iconst 1, 1) := by decide +kernel
theorem dX7_lay_144 : decode cX7_lay 144 = .ok (.iload_n 1, 1) := by decide +kernel
theorem dX7_lay_145 : decode cX7_lay 145 = .ok (.iastore, 1) := by decide +kernel
theorem dX7_lay_146 : decode cX7_lay 146 = .ok (.aload_n 0, 1) := by decide +kernel
theorem dX7_lay_147 : decode cX7_lay 147 = .ok (.getfield 7, 3) := by decide +kernel
theorem dX7_lay_150 : decode cX7_lay 150 = .ok (.bipush 45, 2) := by decide +kernel
theorem dX7_lay_152 : decode cX7_lay 152 = .ok (.iload_n 1, 1) := by decide +kernel
theorem dX7_lay_153 : decode cX7_lay 153 = .ok (.iadd, 1) := by decide +kernel
theorem dX7_lay_154 : decode cX7_lay 154 = .ok (.iconst 4, 1) := by decide +kernel
theorem dX7_lay_155 : decode cX7_lay 155 = .ok (.iload_n 2, 1) := by decide +kernel
theorem dX7_lay_156 : decode cX7_lay 156 = .ok (.imul, 1) := by decide +kernel
theorem dX7_lay_157 : decode cX7_lay 157 = .ok (.iload_n 3, 1) := by decide +kernel
theorem dX7_lay_158 : decode cX7_lay 158 = .ok (.iadd, 1) := by decide +kernel
theorem dX7_lay_159 : decode cX7_lay 159 = .ok (.iastore, 1) := by decide +kernel
theorem dX7_lay_160 : decode cX7_lay 160 = .ok (.aload_n 0, 1) := by decide +kernel
theorem dX7_lay_161 : decode cX7_lay 161 = .ok (.getfield 7, 3) := by decide +kernel
theorem dX7_lay_164 : decode cX7_lay 164 = .ok (.iconst 3, 1) := by decide +kernel
theorem dX7_lay_165 : decode cX7_lay 165 = .ok (.dup2, 1) := by decide +kernel
theorem dX7_lay_166 : decode cX7_lay 166 = .ok (.iaload, 1) := by decide +kernel
theorem dX7_lay_167 : decode cX7_lay 167 = .ok (.iconst 1, 1) := by decide +kernel
theorem dX7_lay_168 : decode cX7_lay 168 = .ok (.iadd, 1) := by decide +kernel
theorem dX7_lay_169 : decode cX7_lay 169 = .ok (.iastore, 1) := by decide +kernel
theorem dX7_lay_170 : decode cX7_lay 170 = .ok (.iload 5, 2) := by decide +kernel
theorem dX7_lay_172 : decode cX7_lay 172 = .ok (.ifCond .eq 7, 3) := by decide +kernel
theorem dX7_lay_175 : decode cX7_lay 175 = .ok (.iconst 0, 1) := by decide +kernel
theorem dX7_lay_176 : decode cX7_lay 176 = .ok (.goto 5, 3) := by decide +kernel
theorem dX7_lay_179 : decode cX7_lay 179 = .ok (.iload 4, 2) := by decide +kernel
theorem dX7_lay_181 : decode cX7_lay 181 = .ok (.ireturn, 1) := by decide +kernel
theorem dX7_takeOut_0 : decode cX7_takeOut 0 = .ok (.iload_n 1, 1) := by decide +kernel
theorem dX7_takeOut_1 : decode cX7_takeOut 1 = .ok (.invokestatic 99, 3) := by decide +kernel
theorem dX7_takeOut_4 : decode cX7_takeOut 4 = .ok (.ifCond .ne 10, 3) := by decide +kernel
theorem dX7_takeOut_7 : decode cX7_takeOut 7 = .ok (.aload_n 0, 1) := by decide +kernel
theorem dX7_takeOut_8 : decode cX7_takeOut 8 = .ok (.iconst 1, 1) := by decide +kernel
theorem dX7_takeOut_9 : decode cX7_takeOut 9 = .ok (.iconst 0, 1) := by decide +kernel
theorem dX7_takeOut_10 : decode cX7_takeOut 10 = .ok (.invokevirtual 92, 3) := by decide +kernel
theorem dX7_takeOut_13 : decode cX7_takeOut 13 = .ok (.ireturn, 1) := by decide +kernel
theorem dX7_takeOut_14 : decode cX7_takeOut 14 = .ok (.aload_n 0, 1) := by decide +kernel
theorem dX7_takeOut_15 : decode cX7_takeOut 15 = .ok (.iload_n 1, 1) := by decide +kernel
theorem dX7_takeOut_16 : decode cX7_takeOut 16 = .ok (.invokevirtual 77, 3) := by decide +kernel
theorem dX7_takeOut_19 : decode cX7_takeOut 19 = .ok (.ifCond .eq 11, 3) := by decide +kernel
theorem dX7_takeOut_22 : decode cX7_takeOut 22 = .ok (.aload_n 0, 1) := by decide +kernel
theorem dX7_takeOut_23 : decode cX7_takeOut 23 = .ok (.bipush 6, 2) := by decide +kernel
theorem dX7_takeOut_25 : decode cX7_takeOut 25 = .ok (.iload_n 1, 1) := by decide +kernel
theorem dX7_takeOut_26 : decode cX7_takeOut 26 = .ok (.invokevirtual 92, 3) := by decide +kernel
theorem dX7_takeOut_29 : decode cX7_takeOut 29 = .ok (.ireturn, 1) := by decide +kernel
theorem dX7_takeOut_30 : decode cX7_takeOut 30 = .ok (.aload_n 0, 1) := by decide +kernel
theorem dX7_takeOut_31 : decode cX7_takeOut 31 = .ok (.iload_n 1, 1) := by decide +kernel
theorem dX7_takeOut_32 : decode cX7_takeOut 32 = .ok (.invokevirtual 108, 3) := by decide +kernel
theorem dX7_takeOut_35 : decode cX7_takeOut 35 = .ok (.istore_n 2, 1) := by decide +kernel
theorem dX7_takeOut_36 : decode cX7_takeOut 36 = .ok (.iload_n 2, 1) := by decide +kernel
theorem dX7_takeOut_37 : decode cX7_takeOut 37 = .ok (.ifCond .le 11, 3) := by decide +kernel
theorem dX7_takeOut_40 : decode cX7_takeOut 40 = .ok (.aload_n 0, 1) := by decide +kernel
theorem dX7_takeOut_41 : decode cX7_takeOut 41 = .ok (.bipush 7, 2) := by decide +kernel
theorem dX7_takeOut_43 : decode cX7_takeOut 43 = .ok (.iload_n 2, 1) := by decide +kernel
theorem dX7_takeOut_44 : decode cX7_takeOut 44 = .ok (.invokevirtual 92, 3) := by decide +kernel
theorem dX7_takeOut_47 : decode cX7_takeOut 47 = .ok (.ireturn, 1) := by decide +kernel
theorem dX7_takeOut_48 : decode cX7_takeOut 48 = .ok (.aload_n 0, 1) := by decide +kernel
theorem dX7_takeOut_49 : decode cX7_takeOut 49 = .ok (.aload_n 0, 1) := by decide +kernel
theorem dX7_takeOut_50 : decode cX7_takeOut 50 = .ok (.getfield 7, 3) := by decide +kernel
theorem dX7_takeOut_53 : decode cX7_takeOut 53 = .ok (.invokevirtual 95, 3) := by decide +kernel
theorem dX7_takeOut_56 : decode cX7_takeOut 56 = .ok (.aload_n 0, 1) := by decide +kernel
theorem dX7_takeOut_57 : decode cX7_takeOut 57 = .ok (.getfield 7, 3) := by decide +kernel
theorem dX7_takeOut_60 : decode cX7_takeOut 60 = .ok (.bipush 45, 2) := by decide +kernel
theorem dX7_takeOut_62 : decode cX7_takeOut 62 = .ok (.iload_n 1, 1) := by decide +kernel
theorem dX7_takeOut_63 : decode cX7_takeOut 63 = .ok (.iadd, 1) := by decide +kernel
theorem dX7_takeOut_64 : decode cX7_takeOut 64 = .ok (.iaload, 1) := by decide +kernel
theorem dX7_takeOut_65 : decode cX7_takeOut 65 = .ok (.iconst 4, 1) := by decide +kernel
theorem dX7_takeOut_66 : decode cX7_takeOut 66 = .ok (.idiv, 1) := by decide +kernel
theorem dX7_takeOut_67 : decode cX7_takeOut 67 = .ok (.istore_n 3, 1) := by decide +kernel
theorem dX7_takeOut_68 : decode cX7_takeOut 68 = .ok (.iload_n 1, 1) := by decide +kernel
theorem dX7_takeOut_69 : decode cX7_takeOut 69 = .ok (.aload_n 0, 1) := by decide +kernel
theorem dX7_takeOut_70 : decode cX7_takeOut 70 = .ok (.getfield 7, 3) := by decide +kernel
theorem dX7_takeOut_73 : decode cX7_takeOut 73 = .ok (.iconst 1, 1) := by decide +kernel
theorem dX7_takeOut_74 : decode cX7_takeOut 74 = .ok (.iaload, 1) := by decide +kernel
theorem dX7_takeOut_75 : decode cX7_takeOut 75 = .ok (.if_icmp .ne 10, 3) := by decide +kernel
theorem dX7_takeOut_78 : decode cX7_takeOut 78 = .ok (.aload_n 0, 1) := by decide +kernel
theorem dX7_takeOut_79 : decode cX7_takeOut 79 = .ok (.getfield 7, 3) := by decide +kernel
theorem dX7_takeOut_82 : decode cX7_takeOut 82 = .ok (.iconst 1, 1) := by decide +kernel
theorem dX7_takeOut_83 : decode cX7_takeOut 83 = .ok (.iconst (-1), 1) := by decide +kernel
theorem dX7_takeOut_84 : decode cX7_takeOut 84 = .ok (.iastore, 1) := by decide +kernel
theorem dX7_takeOut_85 : decode cX7_takeOut 85 = .ok (.aload_n 0, 1) := by decide +kernel
theorem dX7_takeOut_86 : decode cX7_takeOut 86 = .ok (.getfield 7, 3) := by decide +kernel
theorem dX7_takeOut_89 : decode cX7_takeOut 89 = .ok (.bipush 45, 2) := by decide +kernel
theorem dX7_takeOut_91 : decode cX7_takeOut 91 = .ok (.iload_n 1, 1) := by decide +kernel
theorem dX7_takeOut_92 : decode cX7_takeOut 92 = .ok (.iadd, 1) := by decide +kernel
theorem dX7_takeOut_93 : decode cX7_takeOut 93 = .ok (.iconst (-1), 1) := by decide +kernel
theorem dX7_takeOut_94 : decode cX7_takeOut 94 = .ok (.iastore, 1) := by decide +kernel
theorem dX7_takeOut_95 : decode cX7_takeOut 95 = .ok (.aload_n 0, 1) := by decide +kernel
theorem dX7_takeOut_96 : decode cX7_takeOut 96 = .ok (.getfield 7, 3) := by decide +kernel
theorem dX7_takeOut_99 : decode cX7_takeOut 99 = .ok (.iconst 5, 1) := by decide +kernel
theorem dX7_takeOut_100 : decode cX7_takeOut 100 = .ok (.dup2, 1) := by decide +kernel
theorem dX7_takeOut_101 : decode cX7_takeOut 101 = .ok (.iaload, 1) := by decide +kernel
theorem dX7_takeOut_102 : decode cX7_takeOut 102 = .ok (.iconst 1, 1) := by decide +kernel
theorem dX7_takeOut_103 : decode cX7_takeOut 103 = .ok (.iadd, 1) := by decide +kernel
theorem dX7_takeOut_104 : decode cX7_takeOut 104 = .ok (.iastore, 1) := by decide +kernel
theorem dX7_takeOut_105 : decode cX7_takeOut 105 = .ok (.iload_n 3, 1) := by decide +kernel
theorem dX7_takeOut_106 : decode cX7_takeOut 106 = .ok (.ireturn, 1) := by decide +kernel
theorem dX7_fits_0 : decode cX7_fits 0 = .ok (.aload_n 0, 1) := by decide +kernel
theorem dX7_fits_1 : decode cX7_fits 1 = .ok (.iload_n 1, 1) := by decide +kernel
theorem dX7_fits_2 : decode cX7_fits 2 = .ok (.iload_n 2, 1) := by decide +kernel
theorem dX7_fits_3 : decode cX7_fits 3 = .ok (.invokevirtual 105, 3) := by decide +kernel
theorem dX7_fits_6 : decode cX7_fits 6 = .ok (.aload_n 0, 1) := by decide +kernel
theorem dX7_fits_7 : decode cX7_fits 7 = .ok (.getfield 7, 3) := by decide +kernel
theorem dX7_fits_10 : decode cX7_fits 10 = .ok (.iconst 2, 1) := by decide +kernel
theorem dX7_fits_11 : decode cX7_fits 11 = .ok (.iaload, 1) := by decide +kernel
theorem dX7_fits_12 : decode cX7_fits 12 = .ok (.if_icmp .lt 16, 3) := by decide +kernel
theorem dX7_fits_15 : decode cX7_fits 15 = .ok (.aload_n 0, 1) := by decide +kernel
theorem dX7_fits_16 : decode cX7_fits 16 = .ok (.iload_n 1, 1) := by decide +kernel
theorem dX7_fits_17 : decode cX7_fits 17 = .ok (.iload_n 2, 1) := by decide +kernel
theorem dX7_fits_18 : decode cX7_fits 18 = .ok (.invokevirtual 112, 3) := by decide +kernel
theorem dX7_fits_21 : decode cX7_fits 21 = .ok (.ifCond .ne 7, 3) := by decide +kernel
theorem dX7_fits_24 : decode cX7_fits 24 = .ok (.iconst 1, 1) := by decide +kernel
theorem dX7_fits_25 : decode cX7_fits 25 = .ok (.goto 4, 3) := by decide +kernel
theorem dX7_fits_28 : decode cX7_fits 28 = .ok (.iconst 0, 1) := by decide +kernel
theorem dX7_fits_29 : decode cX7_fits 29 = .ok (.ireturn, 1) := by decide +kernel
theorem dX7_choicesAt_0 : decode cX7_choicesAt 0 = .ok (.iconst 0, 1) := by decide +kernel
theorem dX7_choicesAt_1 : decode cX7_choicesAt 1 = .ok (.istore_n 2, 1) := by decide +kernel
theorem dX7_choicesAt_2 : decode cX7_choicesAt 2 = .ok (.iconst 0, 1) := by decide +kernel
theorem dX7_choicesAt_3 : decode cX7_choicesAt 3 = .ok (.istore_n 3, 1) := by decide +kernel
theorem dX7_choicesAt_4 : decode cX7_choicesAt 4 = .ok (.iload_n 3, 1) := by decide +kernel
theorem dX7_choicesAt_5 : decode cX7_choicesAt 5 = .ok (.iconst 4, 1) := by decide +kernel
theorem dX7_choicesAt_6 : decode cX7_choicesAt 6 = .ok (.aload_n 0, 1) := by decide +kernel
theorem dX7_choicesAt_7 : decode cX7_choicesAt 7 = .ok (.getfield 7, 3) := by decide +kernel
theorem dX7_choicesAt_10 : decode cX7_choicesAt 10 = .ok (.iconst 0, 1) := by decide +kernel
theorem dX7_choicesAt_11 : decode cX7_choicesAt 11 = .ok (.iaload, 1) := by decide +kernel
theorem dX7_choicesAt_12 : decode cX7_choicesAt 12 = .ok (.imul, 1) := by decide +kernel
theorem dX7_choicesAt_13 : decode cX7_choicesAt 13 = .ok (.if_icmp .ge 26, 3) := by decide +kernel
theorem dX7_choicesAt_16 : decode cX7_choicesAt 16 = .ok (.iload_n 2, 1) := by decide +kernel
theorem dX7_choicesAt_17 : decode cX7_choicesAt 17 = .ok (.aload_n 0, 1) := by decide +kernel
theorem dX7_choicesAt_18 : decode cX7_choicesAt 18 = .ok (.iload_n 1, 1) := by decide +kernel
theorem dX7_choicesAt_19 : decode cX7_choicesAt 19 = .ok (.iload_n 3, 1) := by decide +kernel
theorem dX7_choicesAt_20 : decode cX7_choicesAt 20 = .ok (.invokevirtual 115, 3) := by decide +kernel
theorem dX7_choicesAt_23 : decode cX7_choicesAt 23 = .ok (.ifCond .eq 7, 3) := by decide +kernel
theorem dX7_choicesAt_26 : decode cX7_choicesAt 26 = .ok (.iconst 1, 1) := by decide +kernel
theorem dX7_choicesAt_27 : decode cX7_choicesAt 27 = .ok (.goto 4, 3) := by decide +kernel
theorem dX7_choicesAt_30 : decode cX7_choicesAt 30 = .ok (.iconst 0, 1) := by decide +kernel
theorem dX7_choicesAt_31 : decode cX7_choicesAt 31 = .ok (.iadd, 1) := by decide +kernel
theorem dX7_choicesAt_32 : decode cX7_choicesAt 32 = .ok (.istore_n 2, 1) := by decide +kernel
theorem dX7_choicesAt_33 : decode cX7_choicesAt 33 = .ok (.iinc 3 1, 3) := by decide +kernel
theorem dX7_choicesAt_36 : decode cX7_choicesAt 36 = .ok (.goto (-32), 3) := by decide +kernel
theorem dX7_choicesAt_39 : decode cX7_choicesAt 39 = .ok (.iload_n 2, 1) := by decide +kernel
theorem dX7_choicesAt_40 : decode cX7_choicesAt 40 = .ok (.ireturn, 1) := by decide +kernel
theorem dX7_growsAt_0 : decode cX7_growsAt 0 = .ok (.iconst 0, 1) := by decide +kernel
theorem dX7_growsAt_1 : decode cX7_growsAt 1 = .ok (.istore_n 1, 1) := by decide +kernel
theorem dX7_growsAt_2 : decode cX7_growsAt 2 = .ok (.iload_n 1, 1) := by decide +kernel
theorem dX7_growsAt_3 : decode cX7_growsAt 3 = .ok (.bipush 42, 2) := by decide +kernel
theorem dX7_growsAt_5 : decode cX7_growsAt 5 = .ok (.if_icmp .ge 27, 3) := by decide +kernel
theorem dX7_growsAt_8 : decode cX7_growsAt 8 = .ok (.aload_n 0, 1) := by decide +kernel
theorem dX7_growsAt_9 : decode cX7_growsAt 9 = .ok (.iload_n 1, 1) := by decide +kernel
theorem dX7_growsAt_10 : decode cX7_growsAt 10 = .ok (.invokevirtual 77, 3) := by decide +kernel
theorem dX7_growsAt_13 : decode cX7_growsAt 13 = .ok (.ifCond .eq 13, 3) := by decide +kernel
theorem dX7_growsAt_16 : decode cX7_growsAt 16 = .ok (.aload_n 0, 1) := by decide +kernel
theorem dX7_growsAt_17 : decode cX7_growsAt 17 = .ok (.iload_n 1, 1) := by decide +kernel
theorem dX7_growsAt_18 : decode cX7_growsAt 18 = .ok (.invokevirtual 119, 3) := by decide +kernel
theorem dX7_growsAt_21 : decode cX7_growsAt 21 = .ok (.ifCond .le 5, 3) := by decide +kernel
theorem dX7_growsAt_24 : decode cX7_growsAt 24 = .ok (.iload_n 1, 1) := by decide +kernel
theorem dX7_growsAt_25 : decode cX7_growsAt 25 = .ok (.ireturn, 1) := by decide +kernel
theorem dX7_growsAt_26 : decode cX7_growsAt 26 = .ok (.iinc 1 1, 3) := by decide +kernel
theorem dX7_growsAt_29 : decode cX7_growsAt 29 = .ok (.goto (-27), 3) := by decide +kernel
theorem dX7_growsAt_32 : decode cX7_growsAt 32 = .ok (.iconst (-1), 1) := by decide +kernel
theorem dX7_growsAt_33 : decode cX7_growsAt 33 = .ok (.ireturn, 1) := by decide +kernel
theorem dX7_growsWith_0 : decode cX7_growsWith 0 = .ok (.iconst (-1), 1) := by decide +kernel
theorem dX7_growsWith_1 : decode cX7_growsWith 1 = .ok (.istore_n 2, 1) := by decide +kernel
theorem dX7_growsWith_2 : decode cX7_growsWith 2 = .ok (.iconst 0, 1) := by decide +kernel
theorem dX7_growsWith_3 : decode cX7_growsWith 3 = .ok (.istore_n 3, 1) := by decide +kernel
theorem dX7_growsWith_4 : decode cX7_growsWith 4 = .ok (.iload_n 3, 1) := by decide +kernel
theorem dX7_growsWith_5 : decode cX7_growsWith 5 = .ok (.iconst 4, 1) := by decide +kernel
theorem dX7_growsWith_6 : decode cX7_growsWith 6 = .ok (.aload_n 0, 1) := by decide +kernel
theorem dX7_growsWith_7 : decode cX7_growsWith 7 = .ok (.getfield 7, 3) := by decide +kernel
theorem dX7_growsWith_10 : decode cX7_growsWith 10 = .ok (.iconst 0, 1) := by decide +kernel
theorem dX7_growsWith_11 : decode cX7_growsWith 11 = .ok (.iaload, 1) := by decide +kernel
theorem dX7_growsWith_12 : decode cX7_growsWith 12 = .ok (.imul, 1) := by decide +kernel
theorem dX7_growsWith_13 : decode cX7_growsWith 13 = .ok (.if_icmp .ge 39, 3) := by decide +kernel
theorem dX7_growsWith_16 : decode cX7_growsWith 16 = .ok (.aload_n 0, 1) := by decide +kernel
theorem dX7_growsWith_17 : decode cX7_growsWith 17 = .ok (.iload_n 1, 1) := by decide +kernel
theorem dX7_growsWith_18 : decode cX7_growsWith 18 = .ok (.iload_n 3, 1) := by decide +kernel
theorem dX7_growsWith_19 : decode cX7_growsWith 19 = .ok (.invokevirtual 115, 3) := by decide +kernel
theorem dX7_growsWith_22 : decode cX7_growsWith 22 = .ok (.ifCond .eq 24, 3) := by decide +kernel
theorem dX7_growsWith_25 : decode cX7_growsWith 25 = .ok (.iload_n 2, 1) := by decide +kernel
theorem dX7_growsWith_26 : decode cX7_growsWith 26 = .ok (.ifCond .lt 18, 3) := by decide +kernel
theorem dX7_growsWith_29 : decode cX7_growsWith 29 = .ok (.aload_n 0, 1) := by decide +kernel
theorem dX7_growsWith_30 : decode cX7_growsWith 30 = .ok (.iload_n 1, 1) := by decide +kernel
theorem dX7_growsWith_31 : decode cX7_growsWith 31 = .ok (.iload_n 3, 1) := by decide +kernel
theorem dX7_growsWith_32 : decode cX7_growsWith 32 = .ok (.invokevirtual 105, 3) := by decide +kernel
theorem dX7_growsWith_35 : decode cX7_growsWith 35 = .ok (.aload_n 0, 1) := by decide +kernel
theorem dX7_growsWith_36 : decode cX7_growsWith 36 = .ok (.iload_n 1, 1) := by decide +kernel
theorem dX7_growsWith_37 : decode cX7_growsWith 37 = .ok (.iload_n 2, 1) := by decide +kernel
theorem dX7_growsWith_38 : decode cX7_growsWith 38 = .ok (.invokevirtual 105, 3) := by decide +kernel
theorem dX7_growsWith_41 : decode cX7_growsWith 41 = .ok (.if_icmp .le 5, 3) := by decide +kernel
theorem dX7_growsWith_44 : decode cX7_growsWith 44 = .ok (.iload_n 3, 1) := by decide +kernel
theorem dX7_growsWith_45 : decode cX7_growsWith 45 = .ok (.istore_n 2, 1) := by decide +kernel
theorem dX7_growsWith_46 : decode cX7_growsWith 46 = .ok (.iinc 3 1, 3) := by decide +kernel
theorem dX7_growsWith_49 : decode cX7_growsWith 49 = .ok (.goto (-45), 3) := by decide +kernel
theorem dX7_growsWith_52 : decode cX7_growsWith 52 = .ok (.iload_n 2, 1) := by decide +kernel
theorem dX7_growsWith_53 : decode cX7_growsWith 53 = .ok (.ireturn, 1) := by decide +kernel
theorem dX7_growsBy_0 : decode cX7_growsBy 0 = .ok (.iconst 0, 1) := by decide +kernel
theorem dX7_growsBy_1 : decode cX7_growsBy 1 = .ok (.istore_n 2, 1) := by decide +kernel
theorem dX7_growsBy_2 : decode cX7_growsBy 2 = .ok (.aload_n 0, 1) := by decide +kernel
theorem dX7_growsBy_3 : decode cX7_growsBy 3 = .ok (.invokevirtual 122, 3) := by decide +kernel
theorem dX7_growsBy_6 : decode cX7_growsBy 6 = .ok (.istore_n 3, 1) := by decide +kernel
theorem dX7_growsBy_7 : decode cX7_growsBy 7 = .ok (.iload_n 2, 1) := by decide +kernel
theorem dX7_growsBy_8 : decode cX7_growsBy 8 = .ok (.iload_n 1, 1) := by decide +kernel
theorem dX7_growsBy_9 : decode cX7_growsBy 9 = .ok (.if_icmp .ge 52, 3) := by decide +kernel
theorem dX7_growsBy_12 : decode cX7_growsBy 12 = .ok (.iload_n 3, 1) := by decide +kernel
theorem dX7_growsBy_13 : decode cX7_growsBy 13 = .ok (.ifCond .lt 48, 3) := by decide +kernel
theorem dX7_growsBy_16 : decode cX7_growsBy 16 = .ok (.aload_n 0, 1) := by decide +kernel
theorem dX7_growsBy_17 : decode cX7_growsBy 17 = .ok (.getfield 7, 3) := by decide +kernel
theorem dX7_growsBy_20 : decode cX7_growsBy 20 = .ok (.bipush 45, 2) := by decide +kernel
theorem dX7_growsBy_22 : decode cX7_growsBy 22 = .ok (.iload_n 3, 1) := by decide +kernel
theorem dX7_growsBy_23 : decode cX7_growsBy 23 = .ok (.iadd, 1) := by decide +kernel
theorem dX7_growsBy_24 : decode cX7_growsBy 24 = .ok (.aload_n 0, 1) := by decide +kernel
theorem dX7_growsBy_25 : decode cX7_growsBy 25 = .ok (.iload_n 3, 1) := by decide +kernel
theorem dX7_growsBy_26 : decode cX7_growsBy 26 = .ok (.invokevirtual 125, 3) := by decide +kernel
theorem dX7_growsBy_29 : decode cX7_growsBy 29 = .ok (.iastore, 1) := by decide +kernel
theorem dX7_growsBy_30 : decode cX7_growsBy 30 = .ok (.aload_n 0, 1) := by decide +kernel
theorem dX7_growsBy_31 : decode cX7_growsBy 31 = .ok (.getfield 7, 3) := by decide +kernel
theorem dX7_growsBy_34 : decode cX7_growsBy 34 = .ok (.iconst 3, 1) := by decide +kernel
theorem dX7_growsBy_35 : decode cX7_growsBy 35 = .ok (.dup2, 1) := by decide +kernel
theorem dX7_growsBy_36 : decode cX7_growsBy 36 = .ok (.iaload, 1) := by decide +kernel
theorem dX7_growsBy_37 : decode cX7_growsBy 37 = .ok (.iconst 1, 1) := by decide +kernel
theorem dX7_growsBy_38 : decode cX7_growsBy 38 = .ok (.iadd, 1) := by decide +kernel
theorem dX7_growsBy_39 : decode cX7_growsBy 39 = .ok (.iastore, 1) := by decide +kernel
theorem dX7_growsBy_40 : decode cX7_growsBy 40 = .ok (.aload_n 0, 1) := by decide +kernel
theorem dX7_growsBy_41 : decode cX7_growsBy 41 = .ok (.getfield 7, 3) := by decide +kernel
theorem dX7_growsBy_44 : decode cX7_growsBy 44 = .ok (.iconst 4, 1) := by decide +kernel
theorem dX7_growsBy_45 : decode cX7_growsBy 45 = .ok (.dup2, 1) := by decide +kernel
theorem dX7_growsBy_46 : decode cX7_growsBy 46 = .ok (.iaload, 1) := by decide +kernel
theorem dX7_growsBy_47 : decode cX7_growsBy 47 = .ok (.iconst 1, 1) := by decide +kernel
theorem dX7_growsBy_48 : decode cX7_growsBy 48 = .ok (.iadd, 1) := by decide +kernel
theorem dX7_growsBy_49 : decode cX7_growsBy 49 = .ok (.iastore, 1) := by decide +kernel
theorem dX7_growsBy_50 : decode cX7_growsBy 50 = .ok (.iinc 2 1, 3) := by decide +kernel
theorem dX7_growsBy_53 : decode cX7_growsBy 53 = .ok (.aload_n 0, 1) := by decide +kernel
theorem dX7_growsBy_54 : decode cX7_growsBy 54 = .ok (.invokevirtual 122, 3) := by decide +kernel
theorem dX7_growsBy_57 : decode cX7_growsBy 57 = .ok (.istore_n 3, 1) := by decide +kernel
theorem dX7_growsBy_58 : decode cX7_growsBy 58 = .ok (.goto (-51), 3) := by decide +kernel
theorem dX7_growsBy_61 : decode cX7_growsBy 61 = .ok (.iload_n 2, 1) := by decide +kernel
theorem dX7_growsBy_62 : decode cX7_growsBy 62 = .ok (.ireturn, 1) := by decide +kernel
theorem dX7_stuckNow_0 : decode cX7_stuckNow 0 = .ok (.iconst 0, 1) := by decide +kernel
theorem dX7_stuckNow_1 : decode cX7_stuckNow 1 = .ok (.istore_n 1, 1) := by decide +kernel
theorem dX7_stuckNow_2 : decode cX7_stuckNow 2 = .ok (.iconst 0, 1) := by decide +kernel
theorem dX7_stuckNow_3 : decode cX7_stuckNow 3 = .ok (.istore_n 2, 1) := by decide +kernel
theorem dX7_stuckNow_4 : decode cX7_stuckNow 4 = .ok (.iload_n 2, 1) := by decide +kernel
theorem dX7_stuckNow_5 : decode cX7_stuckNow 5 = .ok (.bipush 42, 2) := by decide +kernel
theorem dX7_stuckNow_7 : decode cX7_stuckNow 7 = .ok (.if_icmp .ge 84, 3) := by decide +kernel
theorem dX7_stuckNow_10 : decode cX7_stuckNow 10 = .ok (.iconst 0, 1) := by decide +kernel
theorem dX7_stuckNow_11 : decode cX7_stuckNow 11 = .ok (.istore_n 3, 1) := by decide +kernel
theorem dX7_stuckNow_12 : decode cX7_stuckNow 12 = .ok (.iconst 0, 1) := by decide +kernel
theorem dX7_stuckNow_13 : decode cX7_stuckNow 13 = .ok (.istore 4, 2) := by decide +kernel
theorem dX7_stuckNow_15 : decode cX7_stuckNow 15 = .ok (.iload 4, 2) := by decide +kernel
theorem dX7_stuckNow_17 : decode cX7_stuckNow 17 = .ok (.iconst 4, 1) := by decide +kernel
theorem dX7_stuckNow_18 : decode cX7_stuckNow 18 = .ok (.if_icmp .ge 39, 3) := by decide +kernel
theorem dX7_stuckNow_21 : decode cX7_stuckNow 21 = .ok (.iload_n 3, 1) := by decide +kernel
theorem dX7_stuckNow_22 : decode cX7_stuckNow 22 = .ok (.iload_n 2, 1) := by decide +kernel
theorem dX7_stuckNow_23 : decode cX7_stuckNow 23 = .ok (.iload 4, 2) := by decide +kernel
theorem dX7_stuckNow_25 : decode cX7_stuckNow 25 = .ok (.invokestatic 73, 3) := by decide +kernel
theorem dX7_stuckNow_28 : decode cX7_stuckNow 28 = .ok (.ifCond .lt 20, 3) := by decide +kernel
theorem dX7_stuckNow_31 : decode cX7_stuckNow 31 = .ok (.aload_n 0, 1) := by decide +kernel
theorem dX7_stuckNow_32 : decode cX7_stuckNow 32 = .ok (.iload_n 2, 1) := by decide +kernel
theorem dX7_stuckNow_33 : decode cX7_stuckNow 33 = .ok (.iload 4, 2) := by decide +kernel
theorem dX7_stuckNow_35 : decode cX7_stuckNow 35 = .ok (.invokestatic 73, 3) := by decide +kernel
theorem dX7_stuckNow_38 : decode cX7_stuckNow 38 = .ok (.invokevirtual 77, 3) := by decide +kernel
theorem dX7_stuckNow_41 : decode cX7_stuckNow 41 = .ok (.ifCond .ne 7, 3) := by decide +kernel
theorem dX7_stuckNow_44 : decode cX7_stuckNow 44 = .ok (.iconst 1, 1) := by decide +kernel
theorem dX7_stuckNow_45 : decode cX7_stuckNow 45 = .ok (.goto 4, 3) := by decide +kernel
theorem dX7_stuckNow_48 : decode cX7_stuckNow 48 = .ok (.iconst 0, 1) := by decide +kernel
theorem dX7_stuckNow_49 : decode cX7_stuckNow 49 = .ok (.ior, 1) := by decide +kernel
theorem dX7_stuckNow_50 : decode cX7_stuckNow 50 = .ok (.istore_n 3, 1) := by decide +kernel
theorem dX7_stuckNow_51 : decode cX7_stuckNow 51 = .ok (.iinc 4 1, 3) := by decide +kernel
theorem dX7_stuckNow_54 : decode cX7_stuckNow 54 = .ok (.goto (-39), 3) := by decide +kernel
theorem dX7_stuckNow_57 : decode cX7_stuckNow 57 = .ok (.iload_n 1, 1) := by decide +kernel
theorem dX7_stuckNow_58 : decode cX7_stuckNow 58 = .ok (.aload_n 0, 1) := by decide +kernel
theorem dX7_stuckNow_59 : decode cX7_stuckNow 59 = .ok (.iload_n 2, 1) := by decide +kernel
theorem dX7_stuckNow_60 : decode cX7_stuckNow 60 = .ok (.invokevirtual 77, 3) := by decide +kernel
theorem dX7_stuckNow_63 : decode cX7_stuckNow 63 = .ok (.ifCond .eq 19, 3) := by decide +kernel
theorem dX7_stuckNow_66 : decode cX7_stuckNow 66 = .ok (.iload_n 3, 1) := by decide +kernel
theorem dX7_stuckNow_67 : decode cX7_stuckNow 67 = .ok (.ifCond .eq 15, 3) := by decide +kernel
theorem dX7_stuckNow_70 : decode cX7_stuckNow 70 = .ok (.aload_n 0, 1) := by decide +kernel
theorem dX7_stuckNow_71 : decode cX7_stuckNow 71 = .ok (.iload_n 2, 1) := by decide +kernel
theorem dX7_stuckNow_72 : decode cX7_stuckNow 72 = .ok (.invokevirtual 119, 3) := by decide +kernel
theorem dX7_stuckNow_75 : decode cX7_stuckNow 75 = .ok (.ifCond .ne 7, 3) := by decide +kernel
theorem dX7_stuckNow_78 : decode cX7_stuckNow 78 = .ok (.iconst 1, 1) := by decide +kernel
theorem dX7_stuckNow_79 : decode cX7_stuckNow 79 = .ok (.goto 4, 3) := by decide +kernel
theorem dX7_stuckNow_82 : decode cX7_stuckNow 82 = .ok (.iconst 0, 1) := by decide +kernel
theorem dX7_stuckNow_83 : decode cX7_stuckNow 83 = .ok (.iadd, 1) := by decide +kernel
theorem dX7_stuckNow_84 : decode cX7_stuckNow 84 = .ok (.istore_n 1, 1) := by decide +kernel
theorem dX7_stuckNow_85 : decode cX7_stuckNow 85 = .ok (.iinc 2 1, 3) := by decide +kernel
theorem dX7_stuckNow_88 : decode cX7_stuckNow 88 = .ok (.goto (-84), 3) := by decide +kernel
theorem dX7_stuckNow_91 : decode cX7_stuckNow 91 = .ok (.iload_n 1, 1) := by decide +kernel
theorem dX7_stuckNow_92 : decode cX7_stuckNow 92 = .ok (.ireturn, 1) := by decide +kernel
theorem dX7_grow_0 : decode cX7_grow 0 = .ok (.iload_n 1, 1) := by decide +kernel
theorem dX7_grow_1 : decode cX7_grow 1 = .ok (.iconst 1, 1) := by decide +kernel
theorem dX7_grow_2 : decode cX7_grow 2 = .ok (.bipush 42, 2) := by decide +kernel
theorem dX7_grow_4 : decode cX7_grow 4 = .ok (.invokestatic 69, 3) := by decide +kernel
theorem dX7_grow_7 : decode cX7_grow 7 = .ok (.ifCond .ne 10, 3) := by decide +kernel
theorem dX7_grow_10 : decode cX7_grow 10 = .ok (.aload_n 0, 1) := by decide +kernel
theorem dX7_grow_11 : decode cX7_grow 11 = .ok (.iconst 1, 1) := by decide +kernel
theorem dX7_grow_12 : decode cX7_grow 12 = .ok (.iconst 0, 1) := by decide +kernel
theorem dX7_grow_13 : decode cX7_grow 13 = .ok (.invokevirtual 92, 3) := by decide +kernel
theorem dX7_grow_16 : decode cX7_grow 16 = .ok (.ireturn, 1) := by decide +kernel
theorem dX7_grow_17 : decode cX7_grow 17 = .ok (.aload_n 0, 1) := by decide +kernel
theorem dX7_grow_18 : decode cX7_grow 18 = .ok (.invokevirtual 122, 3) := by decide +kernel
theorem dX7_grow_21 : decode cX7_grow 21 = .ok (.ifCond .ge 14, 3) := by decide +kernel
theorem dX7_grow_24 : decode cX7_grow 24 = .ok (.aload_n 0, 1) := by decide +kernel
theorem dX7_grow_25 : decode cX7_grow 25 = .ok (.bipush 8, 2) := by decide +kernel
theorem dX7_grow_27 : decode cX7_grow 27 = .ok (.aload_n 0, 1) := by decide +kernel
theorem dX7_grow_28 : decode cX7_grow 28 = .ok (.invokevirtual 128, 3) := by decide +kernel
theorem dX7_grow_31 : decode cX7_grow 31 = .ok (.invokevirtual 92, 3) := by decide +kernel
theorem dX7_grow_34 : decode cX7_grow 34 = .ok (.ireturn, 1) := by decide +kernel
theorem dX7_grow_35 : decode cX7_grow 35 = .ok (.aload_n 0, 1) := by decide +kernel
theorem dX7_grow_36 : decode cX7_grow 36 = .ok (.aload_n 0, 1) := by decide +kernel
theorem dX7_grow_37 : decode cX7_grow 37 = .ok (.getfield 7, 3) := by decide +kernel
theorem dX7_grow_40 : decode cX7_grow 40 = .ok (.invokevirtual 95, 3) := by decide +kernel
theorem dX7_grow_43 : decode cX7_grow 43 = .ok (.aload_n 0, 1) := by decide +kernel
theorem dX7_grow_44 : decode cX7_grow 44 = .ok (.iload_n 1, 1) := by decide +kernel
theorem dX7_grow_45 : decode cX7_grow 45 = .ok (.invokevirtual 131, 3) := by decide +kernel
theorem dX7_grow_48 : decode cX7_grow 48 = .ok (.ireturn, 1) := by decide +kernel
theorem dX7_strength_0 : decode cX7_strength 0 = .ok (.iload_n 1, 1) := by decide +kernel
theorem dX7_strength_1 : decode cX7_strength 1 = .ok (.iconst 1, 1) := by decide +kernel
theorem dX7_strength_2 : decode cX7_strength 2 = .ok (.bipush 6, 2) := by decide +kernel
theorem dX7_strength_4 : decode cX7_strength 4 = .ok (.invokestatic 69, 3) := by decide +kernel
theorem dX7_strength_7 : decode cX7_strength 7 = .ok (.ifCond .eq 12, 3) := by decide +kernel
theorem dX7_strength_10 : decode cX7_strength 10 = .ok (.iload_n 2, 1) := by decide +kernel
theorem dX7_strength_11 : decode cX7_strength 11 = .ok (.iconst 0, 1) := by decide +kernel
theorem dX7_strength_12 : decode cX7_strength 12 = .ok (.iconst 3, 1) := by decide +kernel
theorem dX7_strength_13 : decode cX7_strength 13 = .ok (.invokestatic 69, 3) := by decide +kernel
theorem dX7_strength_16 : decode cX7_strength 16 = .ok (.ifCond .ne 10, 3) := by decide +kernel
theorem dX7_strength_19 : decode cX7_strength 19 = .ok (.aload_n 0, 1) := by decide +kernel
theorem dX7_strength_20 : decode cX7_strength 20 = .ok (.iconst 1, 1) := by decide +kernel
theorem dX7_strength_21 : decode cX7_strength 21 = .ok (.iconst 0, 1) := by decide +kernel
theorem dX7_strength_22 : decode cX7_strength 22 = .ok (.invokevirtual 92, 3) := by decide +kernel
theorem dX7_strength_25 : decode cX7_strength 25 = .ok (.ireturn, 1) := by decide +kernel
theorem dX7_strength_26 : decode cX7_strength 26 = .ok (.aload_n 0, 1) := by decide +kernel
theorem dX7_strength_27 : decode cX7_strength 27 = .ok (.getfield 7, 3) := by decide +kernel
theorem dX7_strength_30 : decode cX7_strength 30 = .ok (.bipush 6, 2) := by decide +kernel
theorem dX7_strength_32 : decode cX7_strength 32 = .ok (.iload_n 1, 1) := by decide +kernel
theorem dX7_strength_33 : decode cX7_strength 33 = .ok (.iadd, 1) := by decide +kernel
theorem dX7_strength_34 : decode cX7_strength 34 = .ok (.iaload, 1) := by decide +kernel
theorem dX7_strength_35 : decode cX7_strength 35 = .ok (.istore_n 3, 1) := by decide +kernel
theorem dX7_strength_36 : decode cX7_strength 36 = .ok (.iload_n 3, 1) := by decide +kernel
theorem dX7_strength_37 : decode cX7_strength 37 = .ok (.iload_n 2, 1) := by decide +kernel
theorem dX7_strength_38 : decode cX7_strength 38 = .ok (.if_icmp .ne 11, 3) := by decide +kernel
theorem dX7_strength_41 : decode cX7_strength 41 = .ok (.aload_n 0, 1) := by decide +kernel
theorem dX7_strength_42 : decode cX7_strength 42 = .ok (.bipush 9, 2) := by decide +kernel
theorem dX7_strength_44 : decode cX7_strength 44 = .ok (.iconst 0, 1) := by decide +kernel
theorem dX7_strength_45 : decode cX7_strength 45 = .ok (.invokevirtual 92, 3) := by decide +kernel
theorem dX7_strength_48 : decode cX7_strength 48 = .ok (.ireturn, 1) := by decide +kernel
theorem dX7_strength_49 : decode cX7_strength 49 = .ok (.aload_n 0, 1) := by decide +kernel
theorem dX7_strength_50 : decode cX7_strength 50 = .ok (.aload_n 0, 1) := by decide +kernel
theorem dX7_strength_51 : decode cX7_strength 51 = .ok (.getfield 7, 3) := by decide +kernel
theorem dX7_strength_54 : decode cX7_strength 54 = .ok (.invokevirtual 95, 3) := by decide +kernel
theorem dX7_strength_57 : decode cX7_strength 57 = .ok (.aload_n 0, 1) := by decide +kernel
theorem dX7_strength_58 : decode cX7_strength 58 = .ok (.getfield 7, 3) := by decide +kernel
theorem dX7_strength_61 : decode cX7_strength 61 = .ok (.bipush 6, 2) := by decide +kernel
theorem dX7_strength_63 : decode cX7_strength 63 = .ok (.iload_n 1, 1) := by decide +kernel
theorem dX7_strength_64 : decode cX7_strength 64 = .ok (.iadd, 1) := by decide +kernel
theorem dX7_strength_65 : decode cX7_strength 65 = .ok (.iload_n 2, 1) := by decide +kernel
theorem dX7_strength_66 : decode cX7_strength 66 = .ok (.iastore, 1) := by decide +kernel
theorem dX7_strength_67 : decode cX7_strength 67 = .ok (.iload_n 3, 1) := by decide +kernel
theorem dX7_strength_68 : decode cX7_strength 68 = .ok (.ireturn, 1) := by decide +kernel
theorem dX7_need_0 : decode cX7_need 0 = .ok (.iload_n 1, 1) := by decide +kernel
theorem dX7_need_1 : decode cX7_need 1 = .ok (.iconst 1, 1) := by decide +kernel
theorem dX7_need_2 : decode cX7_need 2 = .ok (.bipush 6, 2) := by decide +kernel
theorem dX7_need_4 : decode cX7_need 4 = .ok (.invokestatic 69, 3) := by decide +kernel
theorem dX7_need_7 : decode cX7_need 7 = .ok (.ifCond .ne 10, 3) := by decide +kernel
theorem dX7_need_10 : decode cX7_need 10 = .ok (.aload_n 0, 1) := by decide +kernel
theorem dX7_need_11 : decode cX7_need 11 = .ok (.iconst 1, 1) := by decide +kernel
theorem dX7_need_12 : decode cX7_need 12 = .ok (.iconst 0, 1) := by decide +kernel
theorem dX7_need_13 : decode cX7_need 13 = .ok (.invokevirtual 92, 3) := by decide +kernel
theorem dX7_need_16 : decode cX7_need 16 = .ok (.ireturn, 1) := by decide +kernel
theorem dX7_need_17 : decode cX7_need 17 = .ok (.iload_n 1, 1) := by decide +kernel
theorem dX7_need_18 : decode cX7_need 18 = .ok (.aload_n 0, 1) := by decide +kernel
theorem dX7_need_19 : decode cX7_need 19 = .ok (.getfield 7, 3) := by decide +kernel
theorem dX7_need_22 : decode cX7_need 22 = .ok (.iconst 2, 1) := by decide +kernel
theorem dX7_need_23 : decode cX7_need 23 = .ok (.iaload, 1) := by decide +kernel
theorem dX7_need_24 : decode cX7_need 24 = .ok (.if_icmp .ne 11, 3) := by decide +kernel
theorem dX7_need_27 : decode cX7_need 27 = .ok (.aload_n 0, 1) := by decide +kernel
theorem dX7_need_28 : decode cX7_need 28 = .ok (.bipush 9, 2) := by decide +kernel
theorem dX7_need_30 : decode cX7_need 30 = .ok (.iconst 0, 1) := by decide +kernel
theorem dX7_need_31 : decode cX7_need 31 = .ok (.invokevirtual 92, 3) := by decide +kernel
theorem dX7_need_34 : decode cX7_need 34 = .ok (.ireturn, 1) := by decide +kernel
theorem dX7_need_35 : decode cX7_need 35 = .ok (.aload_n 0, 1) := by decide +kernel
theorem dX7_need_36 : decode cX7_need 36 = .ok (.aload_n 0, 1) := by decide +kernel
theorem dX7_need_37 : decode cX7_need 37 = .ok (.getfield 7, 3) := by decide +kernel
theorem dX7_need_40 : decode cX7_need 40 = .ok (.invokevirtual 95, 3) := by decide +kernel
theorem dX7_need_43 : decode cX7_need 43 = .ok (.aload_n 0, 1) := by decide +kernel
theorem dX7_need_44 : decode cX7_need 44 = .ok (.getfield 7, 3) := by decide +kernel
theorem dX7_need_47 : decode cX7_need 47 = .ok (.iconst 2, 1) := by decide +kernel
theorem dX7_need_48 : decode cX7_need 48 = .ok (.iaload, 1) := by decide +kernel
theorem dX7_need_49 : decode cX7_need 49 = .ok (.istore_n 2, 1) := by decide +kernel
theorem dX7_need_50 : decode cX7_need 50 = .ok (.aload_n 0, 1) := by decide +kernel
theorem dX7_need_51 : decode cX7_need 51 = .ok (.getfield 7, 3) := by decide +kernel
theorem dX7_need_54 : decode cX7_need 54 = .ok (.iconst 2, 1) := by decide +kernel
theorem dX7_need_55 : decode cX7_need 55 = .ok (.iload_n 1, 1) := by decide +kernel
theorem dX7_need_56 : decode cX7_need 56 = .ok (.iastore, 1) := by decide +kernel
theorem dX7_need_57 : decode cX7_need 57 = .ok (.iload_n 2, 1) := by decide +kernel
theorem dX7_need_58 : decode cX7_need 58 = .ok (.ireturn, 1) := by decide +kernel
theorem dX7_glueOf_0 : decode cX7_glueOf 0 = .ok (.aload_n 0, 1) := by decide +kernel
theorem dX7_glueOf_1 : decode cX7_glueOf 1 = .ok (.aload_n 0, 1) := by decide +kernel
theorem dX7_glueOf_2 : decode cX7_glueOf 2 = .ok (.iload_n 1, 1) := by decide +kernel
theorem dX7_glueOf_3 : decode cX7_glueOf 3 = .ok (.invokevirtual 102, 3) := by decide +kernel
theorem dX7_glueOf_6 : decode cX7_glueOf 6 = .ok (.ifCond .ne 7, 3) := by decide +kernel
theorem dX7_glueOf_9 : decode cX7_glueOf 9 = .ok (.iconst 1, 1) := by decide +kernel
theorem dX7_glueOf_10 : decode cX7_glueOf 10 = .ok (.goto 26, 3) := by decide +kernel
theorem dX7_glueOf_13 : decode cX7_glueOf 13 = .ok (.iload_n 2, 1) := by decide +kernel
theorem dX7_glueOf_14 : decode cX7_glueOf 14 = .ok (.iconst 0, 1) := by decide +kernel
theorem dX7_glueOf_15 : decode cX7_glueOf 15 = .ok (.iconst 3, 1) := by decide +kernel
theorem dX7_glueOf_16 : decode cX7_glueOf 16 = .ok (.invokestatic 69, 3) := by decide +kernel
theorem dX7_glueOf_19 : decode cX7_glueOf 19 = .ok (.ifCond .eq 16, 3) := by decide +kernel
theorem dX7_glueOf_22 : decode cX7_glueOf 22 = .ok (.iload_n 3, 1) := by decide +kernel
theorem dX7_glueOf_23 : decode cX7_glueOf 23 = .ok (.iconst 0, 1) := by decide +kernel
theorem dX7_glueOf_24 : decode cX7_glueOf 24 = .ok (.iconst 3, 1) := by decide +kernel
theorem dX7_glueOf_25 : decode cX7_glueOf 25 = .ok (.invokestatic 69, 3) := by decide +kernel
theorem dX7_glueOf_28 : decode cX7_glueOf 28 = .ok (.ifCond .eq 7, 3) := by decide +kernel
theorem dX7_glueOf_31 : decode cX7_glueOf 31 = .ok (.iconst 0, 1) := by decide +kernel
theorem dX7_glueOf_32 : decode cX7_glueOf 32 = .ok (.goto 4, 3) := by decide +kernel
theorem dX7_glueOf_35 : decode cX7_glueOf 35 = .ok (.iconst 2, 1) := by decide +kernel
theorem dX7_glueOf_36 : decode cX7_glueOf 36 = .ok (.invokevirtual 134, 3) := by decide +kernel
theorem dX7_glueOf_39 : decode cX7_glueOf 39 = .ok (.ifCond .eq 7, 3) := by decide +kernel
theorem dX7_glueOf_42 : decode cX7_glueOf 42 = .ok (.iconst 0, 1) := by decide +kernel
theorem dX7_glueOf_43 : decode cX7_glueOf 43 = .ok (.goto 13, 3) := by decide +kernel
theorem dX7_glueOf_46 : decode cX7_glueOf 46 = .ok (.aload_n 0, 1) := by decide +kernel
theorem dX7_glueOf_47 : decode cX7_glueOf 47 = .ok (.iconst 4, 1) := by decide +kernel
theorem dX7_glueOf_48 : decode cX7_glueOf 48 = .ok (.iload_n 1, 1) := by decide +kernel
theorem dX7_glueOf_49 : decode cX7_glueOf 49 = .ok (.imul, 1) := by decide +kernel
theorem dX7_glueOf_50 : decode cX7_glueOf 50 = .ok (.iload_n 2, 1) := by decide +kernel
theorem dX7_glueOf_51 : decode cX7_glueOf 51 = .ok (.iadd, 1) := by decide +kernel
theorem dX7_glueOf_52 : decode cX7_glueOf 52 = .ok (.iload_n 3, 1) := by decide +kernel
theorem dX7_glueOf_53 : decode cX7_glueOf 53 = .ok (.invokevirtual 81, 3) := by decide +kernel
theorem dX7_glueOf_56 : decode cX7_glueOf 56 = .ok (.ireturn, 1) := by decide +kernel
theorem dX7_strengthOf_0 : decode cX7_strengthOf 0 = .ok (.aload_n 0, 1) := by decide +kernel
theorem dX7_strengthOf_1 : decode cX7_strengthOf 1 = .ok (.iload_n 1, 1) := by decide +kernel
theorem dX7_strengthOf_2 : decode cX7_strengthOf 2 = .ok (.iconst 0, 1) := by decide +kernel
theorem dX7_strengthOf_3 : decode cX7_strengthOf 3 = .ok (.bipush 6, 2) := by decide +kernel
theorem dX7_strengthOf_5 : decode cX7_strengthOf 5 = .ok (.invokestatic 69, 3) := by decide +kernel
theorem dX7_strengthOf_8 : decode cX7_strengthOf 8 = .ok (.ifCond .eq 7, 3) := by decide +kernel
theorem dX7_strengthOf_11 : decode cX7_strengthOf 11 = .ok (.iconst 0, 1) := by decide +kernel
theorem dX7_strengthOf_12 : decode cX7_strengthOf 12 = .ok (.goto 4, 3) := by decide +kernel
theorem dX7_strengthOf_15 : decode cX7_strengthOf 15 = .ok (.iconst 1, 1) := by decide +kernel
theorem dX7_strengthOf_16 : decode cX7_strengthOf 16 = .ok (.invokevirtual 134, 3) := by decide +kernel
theorem dX7_strengthOf_19 : decode cX7_strengthOf 19 = .ok (.ifCond .eq 7, 3) := by decide +kernel
theorem dX7_strengthOf_22 : decode cX7_strengthOf 22 = .ok (.iconst 0, 1) := by decide +kernel
theorem dX7_strengthOf_23 : decode cX7_strengthOf 23 = .ok (.goto 12, 3) := by decide +kernel
theorem dX7_strengthOf_26 : decode cX7_strengthOf 26 = .ok (.aload_n 0, 1) := by decide +kernel
theorem dX7_strengthOf_27 : decode cX7_strengthOf 27 = .ok (.getfield 7, 3) := by decide +kernel
theorem dX7_strengthOf_30 : decode cX7_strengthOf 30 = .ok (.bipush 6, 2) := by decide +kernel
theorem dX7_strengthOf_32 : decode cX7_strengthOf 32 = .ok (.iload_n 1, 1) := by decide +kernel
theorem dX7_strengthOf_33 : decode cX7_strengthOf 33 = .ok (.iadd, 1) := by decide +kernel
theorem dX7_strengthOf_34 : decode cX7_strengthOf 34 = .ok (.iaload, 1) := by decide +kernel
theorem dX7_strengthOf_35 : decode cX7_strengthOf 35 = .ok (.ireturn, 1) := by decide +kernel
theorem dX7_isNoBrick_0 : decode cX7_isNoBrick 0 = .ok (.aload_n 0, 1) := by decide +kernel
theorem dX7_isNoBrick_1 : decode cX7_isNoBrick 1 = .ok (.iload_n 1, 1) := by decide +kernel
theorem dX7_isNoBrick_2 : decode cX7_isNoBrick 2 = .ok (.invokestatic 99, 3) := by decide +kernel
theorem dX7_isNoBrick_5 : decode cX7_isNoBrick 5 = .ok (.ifCond .ne 7, 3) := by decide +kernel
theorem dX7_isNoBrick_8 : decode cX7_isNoBrick 8 = .ok (.iconst 1, 1) := by decide +kernel
theorem dX7_isNoBrick_9 : decode cX7_isNoBrick 9 = .ok (.goto 16, 3) := by decide +kernel
theorem dX7_isNoBrick_12 : decode cX7_isNoBrick 12 = .ok (.aload_n 0, 1) := by decide +kernel
theorem dX7_isNoBrick_13 : decode cX7_isNoBrick 13 = .ok (.iload_n 1, 1) := by decide +kernel
theorem dX7_isNoBrick_14 : decode cX7_isNoBrick 14 = .ok (.invokevirtual 77, 3) := by decide +kernel
theorem dX7_isNoBrick_17 : decode cX7_isNoBrick 17 = .ok (.ifCond .eq 7, 3) := by decide +kernel
theorem dX7_isNoBrick_20 : decode cX7_isNoBrick 20 = .ok (.iconst 2, 1) := by decide +kernel
theorem dX7_isNoBrick_21 : decode cX7_isNoBrick 21 = .ok (.goto 4, 3) := by decide +kernel
theorem dX7_isNoBrick_24 : decode cX7_isNoBrick 24 = .ok (.iconst 0, 1) := by decide +kernel
theorem dX7_isNoBrick_25 : decode cX7_isNoBrick 25 = .ok (.invokevirtual 134, 3) := by decide +kernel
theorem dX7_isNoBrick_28 : decode cX7_isNoBrick 28 = .ok (.ireturn, 1) := by decide +kernel
theorem dX7_brickAt_0 : decode cX7_brickAt 0 = .ok (.aload_n 0, 1) := by decide +kernel
theorem dX7_brickAt_1 : decode cX7_brickAt 1 = .ok (.iload_n 1, 1) := by decide +kernel
theorem dX7_brickAt_2 : decode cX7_brickAt 2 = .ok (.invokevirtual 137, 3) := by decide +kernel
theorem dX7_brickAt_5 : decode cX7_brickAt 5 = .ok (.ifCond .eq 7, 3) := by decide +kernel
theorem dX7_brickAt_8 : decode cX7_brickAt 8 = .ok (.iconst 0, 1) := by decide +kernel
theorem dX7_brickAt_9 : decode cX7_brickAt 9 = .ok (.goto 32, 3) := by decide +kernel
theorem dX7_brickAt_12 : decode cX7_brickAt 12 = .ok (.iload_n 2, 1) := by decide +kernel
theorem dX7_brickAt_13 : decode cX7_brickAt 13 = .ok (.ifCond .eq 17, 3) := by decide +kernel
theorem dX7_brickAt_16 : decode cX7_brickAt 16 = .ok (.aload_n 0, 1) := by decide +kernel
theorem dX7_brickAt_17 : decode cX7_brickAt 17 = .ok (.getfield 7, 3) := by decide +kernel
theorem dX7_brickAt_20 : decode cX7_brickAt 20 = .ok (.bipush 45, 2) := by decide +kernel
theorem dX7_brickAt_22 : decode cX7_brickAt 22 = .ok (.iload_n 1, 1) := by decide +kernel
theorem dX7_brickAt_23 : decode cX7_brickAt 23 = .ok (.iadd, 1) := by decide +kernel
theorem dX7_brickAt_24 : decode cX7_brickAt 24 = .ok (.iaload, 1) := by decide +kernel
theorem dX7_brickAt_25 : decode cX7_brickAt 25 = .ok (.iconst 4, 1) := by decide +kernel
theorem dX7_brickAt_26 : decode cX7_brickAt 26 = .ok (.irem, 1) := by decide +kernel
theorem dX7_brickAt_27 : decode cX7_brickAt 27 = .ok (.goto 14, 3) := by decide +kernel
theorem dX7_brickAt_30 : decode cX7_brickAt 30 = .ok (.aload_n 0, 1) := by decide +kernel
theorem dX7_brickAt_31 : decode cX7_brickAt 31 = .ok (.getfield 7, 3) := by decide +kernel
theorem dX7_brickAt_34 : decode cX7_brickAt 34 = .ok (.bipush 45, 2) := by decide +kernel
theorem dX7_brickAt_36 : decode cX7_brickAt 36 = .ok (.iload_n 1, 1) := by decide +kernel
theorem dX7_brickAt_37 : decode cX7_brickAt 37 = .ok (.iadd, 1) := by decide +kernel
theorem dX7_brickAt_38 : decode cX7_brickAt 38 = .ok (.iaload, 1) := by decide +kernel
theorem dX7_brickAt_39 : decode cX7_brickAt 39 = .ok (.iconst 4, 1) := by decide +kernel
theorem dX7_brickAt_40 : decode cX7_brickAt 40 = .ok (.idiv, 1) := by decide +kernel
theorem dX7_brickAt_41 : decode cX7_brickAt 41 = .ok (.ireturn, 1) := by decide +kernel
theorem dX7_seed_0 : decode cX7_seed 0 = .ok (.aload_n 0, 1) := by decide +kernel
theorem dX7_seed_1 : decode cX7_seed 1 = .ok (.aload_n 0, 1) := by decide +kernel
theorem dX7_seed_2 : decode cX7_seed 2 = .ok (.getfield 7, 3) := by decide +kernel
theorem dX7_seed_5 : decode cX7_seed 5 = .ok (.iconst 1, 1) := by decide +kernel
theorem dX7_seed_6 : decode cX7_seed 6 = .ok (.iaload, 1) := by decide +kernel
theorem dX7_seed_7 : decode cX7_seed 7 = .ok (.ifCond .ge 7, 3) := by decide +kernel
theorem dX7_seed_10 : decode cX7_seed 10 = .ok (.iconst 1, 1) := by decide +kernel
theorem dX7_seed_11 : decode cX7_seed 11 = .ok (.goto 4, 3) := by decide +kernel
theorem dX7_seed_14 : decode cX7_seed 14 = .ok (.iconst 0, 1) := by decide +kernel
theorem dX7_seed_15 : decode cX7_seed 15 = .ok (.invokevirtual 134, 3) := by decide +kernel
theorem dX7_seed_18 : decode cX7_seed 18 = .ok (.ifCond .eq 7, 3) := by decide +kernel
theorem dX7_seed_21 : decode cX7_seed 21 = .ok (.iconst 0, 1) := by decide +kernel
theorem dX7_seed_22 : decode cX7_seed 22 = .ok (.goto 9, 3) := by decide +kernel
theorem dX7_seed_25 : decode cX7_seed 25 = .ok (.aload_n 0, 1) := by decide +kernel
theorem dX7_seed_26 : decode cX7_seed 26 = .ok (.getfield 7, 3) := by decide +kernel
theorem dX7_seed_29 : decode cX7_seed 29 = .ok (.iconst 1, 1) := by decide +kernel
theorem dX7_seed_30 : decode cX7_seed 30 = .ok (.iaload, 1) := by decide +kernel
theorem dX7_seed_31 : decode cX7_seed 31 = .ok (.ireturn, 1) := by decide +kernel
theorem dX7_hold_0 : decode cX7_hold 0 = .ok (.aload_n 0, 1) := by decide +kernel
theorem dX7_hold_1 : decode cX7_hold 1 = .ok (.iload_n 1, 1) := by decide +kernel
theorem dX7_hold_2 : decode cX7_hold 2 = .ok (.invokevirtual 137, 3) := by decide +kernel
theorem dX7_hold_5 : decode cX7_hold 5 = .ok (.ifCond .eq 7, 3) := by decide +kernel
theorem dX7_hold_8 : decode cX7_hold 8 = .ok (.iconst 0, 1) := by decide +kernel
theorem dX7_hold_9 : decode cX7_hold 9 = .ok (.goto 17, 3) := by decide +kernel
theorem dX7_hold_12 : decode cX7_hold 12 = .ok (.aload_n 0, 1) := by decide +kernel
theorem dX7_hold_13 : decode cX7_hold 13 = .ok (.iload_n 1, 1) := by decide +kernel
theorem dX7_hold_14 : decode cX7_hold 14 = .ok (.aload_n 0, 1) := by decide +kernel
theorem dX7_hold_15 : decode cX7_hold 15 = .ok (.getfield 7, 3) := by decide +kernel
theorem dX7_hold_18 : decode cX7_hold 18 = .ok (.bipush 45, 2) := by decide +kernel
theorem dX7_hold_20 : decode cX7_hold 20 = .ok (.iload_n 1, 1) := by decide +kernel
theorem dX7_hold_21 : decode cX7_hold 21 = .ok (.iadd, 1) := by decide +kernel
theorem dX7_hold_22 : decode cX7_hold 22 = .ok (.iaload, 1) := by decide +kernel
theorem dX7_hold_23 : decode cX7_hold 23 = .ok (.invokevirtual 105, 3) := by decide +kernel
theorem dX7_hold_26 : decode cX7_hold 26 = .ok (.ireturn, 1) := by decide +kernel
theorem dX7_allHolds_0 : decode cX7_allHolds 0 = .ok (.iconst 0, 1) := by decide +kernel
theorem dX7_allHolds_1 : decode cX7_allHolds 1 = .ok (.istore_n 1, 1) := by decide +kernel
theorem dX7_allHolds_2 : decode cX7_allHolds 2 = .ok (.iconst 0, 1) := by decide +kernel
theorem dX7_allHolds_3 : decode cX7_allHolds 3 = .ok (.istore_n 2, 1) := by decide +kernel
theorem dX7_allHolds_4 : decode cX7_allHolds 4 = .ok (.iload_n 2, 1) := by decide +kernel
theorem dX7_allHolds_5 : decode cX7_allHolds 5 = .ok (.bipush 42, 2) := by decide +kernel
theorem dX7_allHolds_7 : decode cX7_allHolds 7 = .ok (.if_icmp .ge 38, 3) := by decide +kernel
theorem dX7_allHolds_10 : decode cX7_allHolds 10 = .ok (.iload_n 1, 1) := by decide +kernel
theorem dX7_allHolds_11 : decode cX7_allHolds 11 = .ok (.aload_n 0, 1) := by decide +kernel
theorem dX7_allHolds_12 : decode cX7_allHolds 12 = .ok (.iload_n 2, 1) := by decide +kernel
theorem dX7_allHolds_13 : decode cX7_allHolds 13 = .ok (.invokevirtual 77, 3) := by decide +kernel
theorem dX7_allHolds_16 : decode cX7_allHolds 16 = .ok (.ifCond .eq 7, 3) := by decide +kernel
theorem dX7_allHolds_19 : decode cX7_allHolds 19 = .ok (.iconst 0, 1) := by decide +kernel
theorem dX7_allHolds_20 : decode cX7_allHolds 20 = .ok (.goto 17, 3) := by decide +kernel
theorem dX7_allHolds_23 : decode cX7_allHolds 23 = .ok (.aload_n 0, 1) := by decide +kernel
theorem dX7_allHolds_24 : decode cX7_allHolds 24 = .ok (.iload_n 2, 1) := by decide +kernel
theorem dX7_allHolds_25 : decode cX7_allHolds 25 = .ok (.aload_n 0, 1) := by decide +kernel
theorem dX7_allHolds_26 : decode cX7_allHolds 26 = .ok (.getfield 7, 3) := by decide +kernel
theorem dX7_allHolds_29 : decode cX7_allHolds 29 = .ok (.bipush 45, 2) := by decide +kernel
theorem dX7_allHolds_31 : decode cX7_allHolds 31 = .ok (.iload_n 2, 1) := by decide +kernel
theorem dX7_allHolds_32 : decode cX7_allHolds 32 = .ok (.iadd, 1) := by decide +kernel
theorem dX7_allHolds_33 : decode cX7_allHolds 33 = .ok (.iaload, 1) := by decide +kernel
theorem dX7_allHolds_34 : decode cX7_allHolds 34 = .ok (.invokevirtual 105, 3) := by decide +kernel
theorem dX7_allHolds_37 : decode cX7_allHolds 37 = .ok (.iadd, 1) := by decide +kernel
theorem dX7_allHolds_38 : decode cX7_allHolds 38 = .ok (.istore_n 1, 1) := by decide +kernel
theorem dX7_allHolds_39 : decode cX7_allHolds 39 = .ok (.iinc 2 1, 3) := by decide +kernel
theorem dX7_allHolds_42 : decode cX7_allHolds 42 = .ok (.goto (-38), 3) := by decide +kernel
theorem dX7_allHolds_45 : decode cX7_allHolds 45 = .ok (.iload_n 1, 1) := by decide +kernel
theorem dX7_allHolds_46 : decode cX7_allHolds 46 = .ok (.ireturn, 1) := by decide +kernel
theorem dX7_holdAgain_0 : decode cX7_holdAgain 0 = .ok (.aload_n 0, 1) := by decide +kernel
theorem dX7_holdAgain_1 : decode cX7_holdAgain 1 = .ok (.iload_n 1, 1) := by decide +kernel
theorem dX7_holdAgain_2 : decode cX7_holdAgain 2 = .ok (.invokevirtual 137, 3) := by decide +kernel
theorem dX7_holdAgain_5 : decode cX7_holdAgain 5 = .ok (.ifCond .eq 5, 3) := by decide +kernel
theorem dX7_holdAgain_8 : decode cX7_holdAgain 8 = .ok (.iconst 0, 1) := by decide +kernel
theorem dX7_holdAgain_9 : decode cX7_holdAgain 9 = .ok (.ireturn, 1) := by decide +kernel
theorem dX7_holdAgain_10 : decode cX7_holdAgain 10 = .ok (.aload_n 0, 1) := by decide +kernel
theorem dX7_holdAgain_11 : decode cX7_holdAgain 11 = .ok (.invokevirtual 140, 3) := by decide +kernel
theorem dX7_holdAgain_14 : decode cX7_holdAgain 14 = .ok (.istore_n 2, 1) := by decide +kernel
theorem dX7_holdAgain_15 : decode cX7_holdAgain 15 = .ok (.aload_n 0, 1) := by decide +kernel
theorem dX7_holdAgain_16 : decode cX7_holdAgain 16 = .ok (.getfield 7, 3) := by decide +kernel
theorem dX7_holdAgain_19 : decode cX7_holdAgain 19 = .ok (.bipush 45, 2) := by decide +kernel
theorem dX7_holdAgain_21 : decode cX7_holdAgain 21 = .ok (.iload_n 1, 1) := by decide +kernel
theorem dX7_holdAgain_22 : decode cX7_holdAgain 22 = .ok (.iadd, 1) := by decide +kernel
theorem dX7_holdAgain_23 : decode cX7_holdAgain 23 = .ok (.iaload, 1) := by decide +kernel
theorem dX7_holdAgain_24 : decode cX7_holdAgain 24 = .ok (.istore_n 3, 1) := by decide +kernel
theorem dX7_holdAgain_25 : decode cX7_holdAgain 25 = .ok (.aload_n 0, 1) := by decide +kernel
theorem dX7_holdAgain_26 : decode cX7_holdAgain 26 = .ok (.getfield 7, 3) := by decide +kernel
theorem dX7_holdAgain_29 : decode cX7_holdAgain 29 = .ok (.bipush 45, 2) := by decide +kernel
theorem dX7_holdAgain_31 : decode cX7_holdAgain 31 = .ok (.iload_n 1, 1) := by decide +kernel
theorem dX7_holdAgain_32 : decode cX7_holdAgain 32 = .ok (.iadd, 1) := by decide +kernel
theorem dX7_holdAgain_33 : decode cX7_holdAgain 33 = .ok (.iconst (-1), 1) := by decide +kernel
theorem dX7_holdAgain_34 : decode cX7_holdAgain 34 = .ok (.iastore, 1) := by decide +kernel
theorem dX7_holdAgain_35 : decode cX7_holdAgain 35 = .ok (.aload_n 0, 1) := by decide +kernel
theorem dX7_holdAgain_36 : decode cX7_holdAgain 36 = .ok (.invokevirtual 140, 3) := by decide +kernel
theorem dX7_holdAgain_39 : decode cX7_holdAgain 39 = .ok (.istore 4, 2) := by decide +kernel
theorem dX7_holdAgain_41 : decode cX7_holdAgain 41 = .ok (.aload_n 0, 1) := by decide +kernel
theorem dX7_holdAgain_42 : decode cX7_holdAgain 42 = .ok (.getfield 7, 3) := by decide +kernel
theorem dX7_holdAgain_45 : decode cX7_holdAgain 45 = .ok (.bipush 45, 2) := by decide +kernel
theorem dX7_holdAgain_47 : decode cX7_holdAgain 47 = .ok (.iload_n 1, 1) := by decide +kernel
theorem dX7_holdAgain_48 : decode cX7_holdAgain 48 = .ok (.iadd, 1) := by decide +kernel
theorem dX7_holdAgain_49 : decode cX7_holdAgain 49 = .ok (.iload_n 3, 1) := by decide +kernel
theorem dX7_holdAgain_50 : decode cX7_holdAgain 50 = .ok (.iastore, 1) := by decide +kernel
theorem dX7_holdAgain_51 : decode cX7_holdAgain 51 = .ok (.iload_n 2, 1) := by decide +kernel
theorem dX7_holdAgain_52 : decode cX7_holdAgain 52 = .ok (.iload 4, 2) := by decide +kernel
theorem dX7_holdAgain_54 : decode cX7_holdAgain 54 = .ok (.isub, 1) := by decide +kernel
theorem dX7_holdAgain_55 : decode cX7_holdAgain 55 = .ok (.iconst 2, 1) := by decide +kernel
theorem dX7_holdAgain_56 : decode cX7_holdAgain 56 = .ok (.idiv, 1) := by decide +kernel
theorem dX7_holdAgain_57 : decode cX7_holdAgain 57 = .ok (.ireturn, 1) := by decide +kernel
theorem dX7_wouldHold_0 : decode cX7_wouldHold 0 = .ok (.aload_n 0, 1) := by decide +kernel
theorem dX7_wouldHold_1 : decode cX7_wouldHold 1 = .ok (.iload_n 1, 1) := by decide +kernel
theorem dX7_wouldHold_2 : decode cX7_wouldHold 2 = .ok (.invokestatic 99, 3) := by decide +kernel
theorem dX7_wouldHold_5 : decode cX7_wouldHold 5 = .ok (.ifCond .eq 11, 3) := by decide +kernel
theorem dX7_wouldHold_8 : decode cX7_wouldHold 8 = .ok (.aload_n 0, 1) := by decide +kernel
theorem dX7_wouldHold_9 : decode cX7_wouldHold 9 = .ok (.iload_n 2, 1) := by decide +kernel
theorem dX7_wouldHold_10 : decode cX7_wouldHold 10 = .ok (.invokevirtual 102, 3) := by decide +kernel
theorem dX7_wouldHold_13 : decode cX7_wouldHold 13 = .ok (.ifCond .ne 7, 3) := by decide +kernel
theorem dX7_wouldHold_16 : decode cX7_wouldHold 16 = .ok (.iconst 1, 1) := by decide +kernel
theorem dX7_wouldHold_17 : decode cX7_wouldHold 17 = .ok (.goto 29, 3) := by decide +kernel
theorem dX7_wouldHold_20 : decode cX7_wouldHold 20 = .ok (.iload_n 3, 1) := by decide +kernel
theorem dX7_wouldHold_21 : decode cX7_wouldHold 21 = .ok (.iconst 0, 1) := by decide +kernel
theorem dX7_wouldHold_22 : decode cX7_wouldHold 22 = .ok (.iconst 3, 1) := by decide +kernel
theorem dX7_wouldHold_23 : decode cX7_wouldHold 23 = .ok (.invokestatic 69, 3) := by decide +kernel
theorem dX7_wouldHold_26 : decode cX7_wouldHold 26 = .ok (.ifCond .ne 7, 3) := by decide +kernel
theorem dX7_wouldHold_29 : decode cX7_wouldHold 29 = .ok (.iconst 2, 1) := by decide +kernel
theorem dX7_wouldHold_30 : decode cX7_wouldHold 30 = .ok (.goto 16, 3) := by decide +kernel
theorem dX7_wouldHold_33 : decode cX7_wouldHold 33 = .ok (.aload_n 0, 1) := by decide +kernel
theorem dX7_wouldHold_34 : decode cX7_wouldHold 34 = .ok (.iload_n 1, 1) := by decide +kernel
theorem dX7_wouldHold_35 : decode cX7_wouldHold 35 = .ok (.invokevirtual 77, 3) := by decide +kernel
theorem dX7_wouldHold_38 : decode cX7_wouldHold 38 = .ok (.ifCond .eq 7, 3) := by decide +kernel
theorem dX7_wouldHold_41 : decode cX7_wouldHold 41 = .ok (.iconst 0, 1) := by decide +kernel
theorem dX7_wouldHold_42 : decode cX7_wouldHold 42 = .ok (.goto 4, 3) := by decide +kernel
theorem dX7_wouldHold_45 : decode cX7_wouldHold 45 = .ok (.iconst 3, 1) := by decide +kernel
theorem dX7_wouldHold_46 : decode cX7_wouldHold 46 = .ok (.invokevirtual 134, 3) := by decide +kernel
theorem dX7_wouldHold_49 : decode cX7_wouldHold 49 = .ok (.ifCond .eq 7, 3) := by decide +kernel
theorem dX7_wouldHold_52 : decode cX7_wouldHold 52 = .ok (.iconst 0, 1) := by decide +kernel
theorem dX7_wouldHold_53 : decode cX7_wouldHold 53 = .ok (.goto 13, 3) := by decide +kernel
theorem dX7_wouldHold_56 : decode cX7_wouldHold 56 = .ok (.aload_n 0, 1) := by decide +kernel
theorem dX7_wouldHold_57 : decode cX7_wouldHold 57 = .ok (.iload_n 1, 1) := by decide +kernel
theorem dX7_wouldHold_58 : decode cX7_wouldHold 58 = .ok (.iconst 4, 1) := by decide +kernel
theorem dX7_wouldHold_59 : decode cX7_wouldHold 59 = .ok (.iload_n 2, 1) := by decide +kernel
theorem dX7_wouldHold_60 : decode cX7_wouldHold 60 = .ok (.imul, 1) := by decide +kernel
theorem dX7_wouldHold_61 : decode cX7_wouldHold 61 = .ok (.iload_n 3, 1) := by decide +kernel
theorem dX7_wouldHold_62 : decode cX7_wouldHold 62 = .ok (.iadd, 1) := by decide +kernel
theorem dX7_wouldHold_63 : decode cX7_wouldHold 63 = .ok (.invokevirtual 105, 3) := by decide +kernel
theorem dX7_wouldHold_66 : decode cX7_wouldHold 66 = .ok (.ireturn, 1) := by decide +kernel
theorem dX7_stands_0 : decode cX7_stands 0 = .ok (.aload_n 0, 1) := by decide +kernel
theorem dX7_stands_1 : decode cX7_stands 1 = .ok (.iload_n 1, 1) := by decide +kernel
theorem dX7_stands_2 : decode cX7_stands 2 = .ok (.invokevirtual 137, 3) := by decide +kernel
theorem dX7_stands_5 : decode cX7_stands 5 = .ok (.ifCond .eq 5, 3) := by decide +kernel
theorem dX7_stands_8 : decode cX7_stands 8 = .ok (.iconst 0, 1) := by decide +kernel
theorem dX7_stands_9 : decode cX7_stands 9 = .ok (.ireturn, 1) := by decide +kernel
theorem dX7_stands_10 : decode cX7_stands 10 = .ok (.aload_n 0, 1) := by decide +kernel
theorem dX7_stands_11 : decode cX7_stands 11 = .ok (.invokevirtual 88, 3) := by decide +kernel
theorem dX7_stands_14 : decode cX7_stands 14 = .ok (.ifCond .le 16, 3) := by decide +kernel
theorem dX7_stands_17 : decode cX7_stands 17 = .ok (.aload_n 0, 1) := by decide +kernel
theorem dX7_stands_18 : decode cX7_stands 18 = .ok (.getfield 36, 3) := by decide +kernel
theorem dX7_stands_21 : decode cX7_stands 21 = .ok (.iload_n 1, 1) := by decide +kernel
theorem dX7_stands_22 : decode cX7_stands 22 = .ok (.baload, 1) := by decide +kernel
theorem dX7_stands_23 : decode cX7_stands 23 = .ok (.ifCond .eq 7, 3) := by decide +kernel
theorem dX7_stands_26 : decode cX7_stands 26 = .ok (.iconst 1, 1) := by decide +kernel
theorem dX7_stands_27 : decode cX7_stands 27 = .ok (.goto 4, 3) := by decide +kernel
theorem dX7_stands_30 : decode cX7_stands 30 = .ok (.iconst 0, 1) := by decide +kernel
theorem dX7_stands_31 : decode cX7_stands 31 = .ok (.ireturn, 1) := by decide +kernel
theorem dX7_fallen_0 : decode cX7_fallen 0 = .ok (.aload_n 0, 1) := by decide +kernel
theorem dX7_fallen_1 : decode cX7_fallen 1 = .ok (.iconst 0, 1) := by decide +kernel
theorem dX7_fallen_2 : decode cX7_fallen 2 = .ok (.putfield 43, 3) := by decide +kernel
theorem dX7_fallen_5 : decode cX7_fallen 5 = .ok (.aload_n 0, 1) := by decide +kernel
theorem dX7_fallen_6 : decode cX7_fallen 6 = .ok (.invokevirtual 143, 3) := by decide +kernel
theorem dX7_fallen_9 : decode cX7_fallen 9 = .ok (.aload_n 0, 1) := by decide +kernel
theorem dX7_fallen_10 : decode cX7_fallen 10 = .ok (.invokevirtual 88, 3) := by decide +kernel
theorem dX7_fallen_13 : decode cX7_fallen 13 = .ok (.isub, 1) := by decide +kernel
theorem dX7_fallen_14 : decode cX7_fallen 14 = .ok (.ireturn, 1) := by decide +kernel
theorem dX7_falls_0 : decode cX7_falls 0 = .ok (.aload_n 0, 1) := by decide +kernel
theorem dX7_falls_1 : decode cX7_falls 1 = .ok (.iload_n 1, 1) := by decide +kernel
theorem dX7_falls_2 : decode cX7_falls 2 = .ok (.invokevirtual 137, 3) := by decide +kernel
theorem dX7_falls_5 : decode cX7_falls 5 = .ok (.ifCond .eq 7, 3) := by decide +kernel
theorem dX7_falls_8 : decode cX7_falls 8 = .ok (.iconst 0, 1) := by decide +kernel
theorem dX7_falls_9 : decode cX7_falls 9 = .ok (.goto 8, 3) := by decide +kernel
theorem dX7_falls_12 : decode cX7_falls 12 = .ok (.aload_n 0, 1) := by decide +kernel
theorem dX7_falls_13 : decode cX7_falls 13 = .ok (.iload_n 1, 1) := by decide +kernel
theorem dX7_falls_14 : decode cX7_falls 14 = .ok (.invokevirtual 108, 3) := by decide +kernel
theorem dX7_falls_17 : decode cX7_falls 17 = .ok (.ireturn, 1) := by decide +kernel
theorem dX7_errors_0 : decode cX7_errors 0 = .ok (.aload_n 0, 1) := by decide +kernel
theorem dX7_errors_1 : decode cX7_errors 1 = .ok (.iconst 0, 1) := by decide +kernel
theorem dX7_errors_2 : decode cX7_errors 2 = .ok (.putfield 43, 3) := by decide +kernel
theorem dX7_errors_5 : decode cX7_errors 5 = .ok (.iconst 0, 1) := by decide +kernel
theorem dX7_errors_6 : decode cX7_errors 6 = .ok (.istore_n 1, 1) := by decide +kernel
theorem dX7_errors_7 : decode cX7_errors 7 = .ok (.iconst 0, 1) := by decide +kernel
theorem dX7_errors_8 : decode cX7_errors 8 = .ok (.istore_n 2, 1) := by decide +kernel
theorem dX7_errors_9 : decode cX7_errors 9 = .ok (.iload_n 2, 1) := by decide +kernel
theorem dX7_errors_10 : decode cX7_errors 10 = .ok (.bipush 42, 2) := by decide +kernel
theorem dX7_errors_12 : decode cX7_errors 12 = .ok (.if_icmp .ge 38, 3) := by decide +kernel
theorem dX7_errors_15 : decode cX7_errors 15 = .ok (.iload_n 1, 1) := by decide +kernel
theorem dX7_errors_16 : decode cX7_errors 16 = .ok (.aload_n 0, 1) := by decide +kernel
theorem dX7_errors_17 : decode cX7_errors 17 = .ok (.iload_n 2, 1) := by decide +kernel
theorem dX7_errors_18 : decode cX7_errors 18 = .ok (.invokevirtual 77, 3) := by decide +kernel
theorem dX7_errors_21 : decode cX7_errors 21 = .ok (.ifCond .eq 7, 3) := by decide +kernel
theorem dX7_errors_24 : decode cX7_errors 24 = .ok (.iconst 0, 1) := by decide +kernel
theorem dX7_errors_25 : decode cX7_errors 25 = .ok (.goto 17, 3) := by decide +kernel
theorem dX7_errors_28 : decode cX7_errors 28 = .ok (.aload_n 0, 1) := by decide +kernel
theorem dX7_errors_29 : decode cX7_errors 29 = .ok (.iload_n 2, 1) := by decide +kernel
theorem dX7_errors_30 : decode cX7_errors 30 = .ok (.aload_n 0, 1) := by decide +kernel
theorem dX7_errors_31 : decode cX7_errors 31 = .ok (.getfield 7, 3) := by decide +kernel
theorem dX7_errors_34 : decode cX7_errors 34 = .ok (.bipush 45, 2) := by decide +kernel
theorem dX7_errors_36 : decode cX7_errors 36 = .ok (.iload_n 2, 1) := by decide +kernel
theorem dX7_errors_37 : decode cX7_errors 37 = .ok (.iadd, 1) := by decide +kernel
theorem dX7_errors_38 : decode cX7_errors 38 = .ok (.iaload, 1) := by decide +kernel
theorem dX7_errors_39 : decode cX7_errors 39 = .ok (.invokevirtual 112, 3) := by decide +kernel
theorem dX7_errors_42 : decode cX7_errors 42 = .ok (.iadd, 1) := by decide +kernel
theorem dX7_errors_43 : decode cX7_errors 43 = .ok (.istore_n 1, 1) := by decide +kernel
theorem dX7_errors_44 : decode cX7_errors 44 = .ok (.iinc 2 1, 3) := by decide +kernel
theorem dX7_errors_47 : decode cX7_errors 47 = .ok (.goto (-38), 3) := by decide +kernel
theorem dX7_errors_50 : decode cX7_errors 50 = .ok (.iload_n 1, 1) := by decide +kernel
theorem dX7_errors_51 : decode cX7_errors 51 = .ok (.iconst 2, 1) := by decide +kernel
theorem dX7_errors_52 : decode cX7_errors 52 = .ok (.idiv, 1) := by decide +kernel
theorem dX7_errors_53 : decode cX7_errors 53 = .ok (.ireturn, 1) := by decide +kernel
theorem dX7_errorsAt_0 : decode cX7_errorsAt 0 = .ok (.aload_n 0, 1) := by decide +kernel
theorem dX7_errorsAt_1 : decode cX7_errorsAt 1 = .ok (.iload_n 1, 1) := by decide +kernel
theorem dX7_errorsAt_2 : decode cX7_errorsAt 2 = .ok (.invokevirtual 137, 3) := by decide +kernel
theorem dX7_errorsAt_5 : decode cX7_errorsAt 5 = .ok (.ifCond .eq 7, 3) := by decide +kernel
theorem dX7_errorsAt_8 : decode cX7_errorsAt 8 = .ok (.iconst 0, 1) := by decide +kernel
theorem dX7_errorsAt_9 : decode cX7_errorsAt 9 = .ok (.goto 17, 3) := by decide +kernel
theorem dX7_errorsAt_12 : decode cX7_errorsAt 12 = .ok (.aload_n 0, 1) := by decide +kernel
theorem dX7_errorsAt_13 : decode cX7_errorsAt 13 = .ok (.iload_n 1, 1) := by decide +kernel
theorem dX7_errorsAt_14 : decode cX7_errorsAt 14 = .ok (.aload_n 0, 1) := by decide +kernel
theorem dX7_errorsAt_15 : decode cX7_errorsAt 15 = .ok (.getfield 7, 3) := by decide +kernel
theorem dX7_errorsAt_18 : decode cX7_errorsAt 18 = .ok (.bipush 45, 2) := by decide +kernel
theorem dX7_errorsAt_20 : decode cX7_errorsAt 20 = .ok (.iload_n 1, 1) := by decide +kernel
theorem dX7_errorsAt_21 : decode cX7_errorsAt 21 = .ok (.iadd, 1) := by decide +kernel
theorem dX7_errorsAt_22 : decode cX7_errorsAt 22 = .ok (.iaload, 1) := by decide +kernel
theorem dX7_errorsAt_23 : decode cX7_errorsAt 23 = .ok (.invokevirtual 112, 3) := by decide +kernel
theorem dX7_errorsAt_26 : decode cX7_errorsAt 26 = .ok (.ireturn, 1) := by decide +kernel
theorem dX7_nextPlace_0 : decode cX7_nextPlace 0 = .ok (.aload_n 0, 1) := by decide +kernel
theorem dX7_nextPlace_1 : decode cX7_nextPlace 1 = .ok (.invokevirtual 122, 3) := by decide +kernel
theorem dX7_nextPlace_4 : decode cX7_nextPlace 4 = .ok (.istore_n 1, 1) := by decide +kernel
theorem dX7_nextPlace_5 : decode cX7_nextPlace 5 = .ok (.aload_n 0, 1) := by decide +kernel
theorem dX7_nextPlace_6 : decode cX7_nextPlace 6 = .ok (.iload_n 1, 1) := by decide +kernel
theorem dX7_nextPlace_7 : decode cX7_nextPlace 7 = .ok (.ifCond .ge 7, 3) := by decide +kernel
theorem dX7_nextPlace_10 : decode cX7_nextPlace 10 = .ok (.iconst 1, 1) := by decide +kernel
theorem dX7_nextPlace_11 : decode cX7_nextPlace 11 = .ok (.goto 4, 3) := by decide +kernel
theorem dX7_nextPlace_14 : decode cX7_nextPlace 14 = .ok (.iconst 0, 1) := by decide +kernel
theorem dX7_nextPlace_15 : decode cX7_nextPlace 15 = .ok (.invokevirtual 134, 3) := by decide +kernel
theorem dX7_nextPlace_18 : decode cX7_nextPlace 18 = .ok (.ifCond .eq 7, 3) := by decide +kernel
theorem dX7_nextPlace_21 : decode cX7_nextPlace 21 = .ok (.iconst 0, 1) := by decide +kernel
theorem dX7_nextPlace_22 : decode cX7_nextPlace 22 = .ok (.goto 4, 3) := by decide +kernel
theorem dX7_nextPlace_25 : decode cX7_nextPlace 25 = .ok (.iload_n 1, 1) := by decide +kernel
theorem dX7_nextPlace_26 : decode cX7_nextPlace 26 = .ok (.ireturn, 1) := by decide +kernel
theorem dX7_nextBrick_0 : decode cX7_nextBrick 0 = .ok (.aload_n 0, 1) := by decide +kernel
theorem dX7_nextBrick_1 : decode cX7_nextBrick 1 = .ok (.invokevirtual 122, 3) := by decide +kernel
theorem dX7_nextBrick_4 : decode cX7_nextBrick 4 = .ok (.istore_n 1, 1) := by decide +kernel
theorem dX7_nextBrick_5 : decode cX7_nextBrick 5 = .ok (.aload_n 0, 1) := by decide +kernel
theorem dX7_nextBrick_6 : decode cX7_nextBrick 6 = .ok (.iload_n 1, 1) := by decide +kernel
theorem dX7_nextBrick_7 : decode cX7_nextBrick 7 = .ok (.ifCond .ge 7, 3) := by decide +kernel
theorem dX7_nextBrick_10 : decode cX7_nextBrick 10 = .ok (.iconst 1, 1) := by decide +kernel
theorem dX7_nextBrick_11 : decode cX7_nextBrick 11 = .ok (.goto 4, 3) := by decide +kernel
theorem dX7_nextBrick_14 : decode cX7_nextBrick 14 = .ok (.iconst 0, 1) := by decide +kernel
theorem dX7_nextBrick_15 : decode cX7_nextBrick 15 = .ok (.invokevirtual 134, 3) := by decide +kernel
theorem dX7_nextBrick_18 : decode cX7_nextBrick 18 = .ok (.ifCond .eq 7, 3) := by decide +kernel
theorem dX7_nextBrick_21 : decode cX7_nextBrick 21 = .ok (.iconst 0, 1) := by decide +kernel
theorem dX7_nextBrick_22 : decode cX7_nextBrick 22 = .ok (.goto 8, 3) := by decide +kernel
theorem dX7_nextBrick_25 : decode cX7_nextBrick 25 = .ok (.aload_n 0, 1) := by decide +kernel
theorem dX7_nextBrick_26 : decode cX7_nextBrick 26 = .ok (.iload_n 1, 1) := by decide +kernel
theorem dX7_nextBrick_27 : decode cX7_nextBrick 27 = .ok (.invokevirtual 125, 3) := by decide +kernel
theorem dX7_nextBrick_30 : decode cX7_nextBrick 30 = .ok (.ireturn, 1) := by decide +kernel
theorem dX7_choices_0 : decode cX7_choices 0 = .ok (.aload_n 0, 1) := by decide +kernel
theorem dX7_choices_1 : decode cX7_choices 1 = .ok (.iload_n 1, 1) := by decide +kernel
theorem dX7_choices_2 : decode cX7_choices 2 = .ok (.invokestatic 99, 3) := by decide +kernel
theorem dX7_choices_5 : decode cX7_choices 5 = .ok (.ifCond .ne 7, 3) := by decide +kernel
theorem dX7_choices_8 : decode cX7_choices 8 = .ok (.iconst 1, 1) := by decide +kernel
theorem dX7_choices_9 : decode cX7_choices 9 = .ok (.goto 16, 3) := by decide +kernel
theorem dX7_choices_12 : decode cX7_choices 12 = .ok (.aload_n 0, 1) := by decide +kernel
theorem dX7_choices_13 : decode cX7_choices 13 = .ok (.iload_n 1, 1) := by decide +kernel
theorem dX7_choices_14 : decode cX7_choices 14 = .ok (.invokevirtual 77, 3) := by decide +kernel
theorem dX7_choices_17 : decode cX7_choices 17 = .ok (.ifCond .eq 7, 3) := by decide +kernel
theorem dX7_choices_20 : decode cX7_choices 20 = .ok (.iconst 0, 1) := by decide +kernel
theorem dX7_choices_21 : decode cX7_choices 21 = .ok (.goto 4, 3) := by decide +kernel
theorem dX7_choices_24 : decode cX7_choices 24 = .ok (.iconst 2, 1) := by decide +kernel
theorem dX7_choices_25 : decode cX7_choices 25 = .ok (.invokevirtual 134, 3) := by decide +kernel
theorem dX7_choices_28 : decode cX7_choices 28 = .ok (.ifCond .eq 7, 3) := by decide +kernel
theorem dX7_choices_31 : decode cX7_choices 31 = .ok (.iconst 0, 1) := by decide +kernel
theorem dX7_choices_32 : decode cX7_choices 32 = .ok (.goto 8, 3) := by decide +kernel
theorem dX7_choices_35 : decode cX7_choices 35 = .ok (.aload_n 0, 1) := by decide +kernel
theorem dX7_choices_36 : decode cX7_choices 36 = .ok (.iload_n 1, 1) := by decide +kernel
theorem dX7_choices_37 : decode cX7_choices 37 = .ok (.invokevirtual 119, 3) := by decide +kernel
theorem dX7_choices_40 : decode cX7_choices 40 = .ok (.ireturn, 1) := by decide +kernel
theorem dX7_stuck_0 : decode cX7_stuck 0 = .ok (.aload_n 0, 1) := by decide +kernel
theorem dX7_stuck_1 : decode cX7_stuck 1 = .ok (.iconst 0, 1) := by decide +kernel
theorem dX7_stuck_2 : decode cX7_stuck 2 = .ok (.putfield 43, 3) := by decide +kernel
theorem dX7_stuck_5 : decode cX7_stuck 5 = .ok (.aload_n 0, 1) := by decide +kernel
theorem dX7_stuck_6 : decode cX7_stuck 6 = .ok (.invokevirtual 128, 3) := by decide +kernel
theorem dX7_stuck_9 : decode cX7_stuck 9 = .ok (.ireturn, 1) := by decide +kernel
theorem dX7_growsTo_0 : decode cX7_growsTo 0 = .ok (.aload_n 0, 1) := by decide +kernel
theorem dX7_growsTo_1 : decode cX7_growsTo 1 = .ok (.iconst 0, 1) := by decide +kernel
theorem dX7_growsTo_2 : decode cX7_growsTo 2 = .ok (.putfield 43, 3) := by decide +kernel
theorem dX7_growsTo_5 : decode cX7_growsTo 5 = .ok (.aload_n 0, 1) := by decide +kernel
theorem dX7_growsTo_6 : decode cX7_growsTo 6 = .ok (.getfield 7, 3) := by decide +kernel
theorem dX7_growsTo_9 : decode cX7_growsTo 9 = .ok (.iconst 0, 1) := by decide +kernel
theorem dX7_growsTo_10 : decode cX7_growsTo 10 = .ok (.aload_n 0, 1) := by decide +kernel
theorem dX7_growsTo_11 : decode cX7_growsTo 11 = .ok (.getfield 22, 3) := by decide +kernel
theorem dX7_growsTo_14 : decode cX7_growsTo 14 = .ok (.iconst 0, 1) := by decide +kernel
theorem dX7_growsTo_15 : decode cX7_growsTo 15 = .ok (.invokestatic 65, 3) := by decide +kernel
theorem dX7_growsTo_18 : decode cX7_growsTo 18 = .ok (.aload_n 0, 1) := by decide +kernel
theorem dX7_growsTo_19 : decode cX7_growsTo 19 = .ok (.invokevirtual 143, 3) := by decide +kernel
theorem dX7_growsTo_22 : decode cX7_growsTo 22 = .ok (.aload_n 0, 1) := by decide +kernel
theorem dX7_growsTo_23 : decode cX7_growsTo 23 = .ok (.bipush 42, 2) := by decide +kernel
theorem dX7_growsTo_25 : decode cX7_growsTo 25 = .ok (.invokevirtual 131, 3) := by decide +kernel
theorem dX7_growsTo_28 : decode cX7_growsTo 28 = .ok (.iadd, 1) := by decide +kernel
theorem dX7_growsTo_29 : decode cX7_growsTo 29 = .ok (.istore_n 1, 1) := by decide +kernel
theorem dX7_growsTo_30 : decode cX7_growsTo 30 = .ok (.aload_n 0, 1) := by decide +kernel
theorem dX7_growsTo_31 : decode cX7_growsTo 31 = .ok (.getfield 22, 3) := by decide +kernel
theorem dX7_growsTo_34 : decode cX7_growsTo 34 = .ok (.iconst 0, 1) := by decide +kernel
theorem dX7_growsTo_35 : decode cX7_growsTo 35 = .ok (.aload_n 0, 1) := by decide +kernel
theorem dX7_growsTo_36 : decode cX7_growsTo 36 = .ok (.getfield 7, 3) := by decide +kernel
theorem dX7_growsTo_39 : decode cX7_growsTo 39 = .ok (.iconst 0, 1) := by decide +kernel
theorem dX7_growsTo_40 : decode cX7_growsTo 40 = .ok (.invokestatic 65, 3) := by decide +kernel
theorem dX7_growsTo_43 : decode cX7_growsTo 43 = .ok (.iload_n 1, 1) := by decide +kernel
theorem dX7_growsTo_44 : decode cX7_growsTo 44 = .ok (.ireturn, 1) := by decide +kernel
theorem dX7_inRow_0 : decode cX7_inRow 0 = .ok (.aload_n 0, 1) := by decide +kernel
theorem dX7_inRow_1 : decode cX7_inRow 1 = .ok (.iload_n 1, 1) := by decide +kernel
theorem dX7_inRow_2 : decode cX7_inRow 2 = .ok (.iconst 0, 1) := by decide +kernel
theorem dX7_inRow_3 : decode cX7_inRow 3 = .ok (.iload_n 2, 1) := by decide +kernel
theorem dX7_inRow_4 : decode cX7_inRow 4 = .ok (.ifCond .eq 8, 3) := by decide +kernel
theorem dX7_inRow_7 : decode cX7_inRow 7 = .ok (.bipush 6, 2) := by decide +kernel
theorem dX7_inRow_9 : decode cX7_inRow 9 = .ok (.goto 4, 3) := by decide +kernel
theorem dX7_inRow_12 : decode cX7_inRow 12 = .ok (.iconst 5, 1) := by decide +kernel
theorem dX7_inRow_13 : decode cX7_inRow 13 = .ok (.invokestatic 69, 3) := by decide +kernel
theorem dX7_inRow_16 : decode cX7_inRow 16 = .ok (.ifCond .eq 7, 3) := by decide +kernel
theorem dX7_inRow_19 : decode cX7_inRow 19 = .ok (.iconst 0, 1) := by decide +kernel
theorem dX7_inRow_20 : decode cX7_inRow 20 = .ok (.goto 4, 3) := by decide +kernel
theorem dX7_inRow_23 : decode cX7_inRow 23 = .ok (.iconst 1, 1) := by decide +kernel
theorem dX7_inRow_24 : decode cX7_inRow 24 = .ok (.invokevirtual 134, 3) := by decide +kernel
theorem dX7_inRow_27 : decode cX7_inRow 27 = .ok (.ifCond .eq 5, 3) := by decide +kernel
theorem dX7_inRow_30 : decode cX7_inRow 30 = .ok (.iconst 0, 1) := by decide +kernel
theorem dX7_inRow_31 : decode cX7_inRow 31 = .ok (.ireturn, 1) := by decide +kernel
theorem dX7_inRow_32 : decode cX7_inRow 32 = .ok (.iconst 0, 1) := by decide +kernel
theorem dX7_inRow_33 : decode cX7_inRow 33 = .ok (.istore_n 3, 1) := by decide +kernel
theorem dX7_inRow_34 : decode cX7_inRow 34 = .ok (.iconst 0, 1) := by decide +kernel
theorem dX7_inRow_35 : decode cX7_inRow 35 = .ok (.istore 4, 2) := by decide +kernel
theorem dX7_inRow_37 : decode cX7_inRow 37 = .ok (.iload 4, 2) := by decide +kernel
theorem dX7_inRow_39 : decode cX7_inRow 39 = .ok (.bipush 42, 2) := by decide +kernel
theorem dX7_inRow_41 : decode cX7_inRow 41 = .ok (.if_icmp .ge 47, 3) := by decide +kernel
theorem dX7_inRow_44 : decode cX7_inRow 44 = .ok (.iload_n 3, 1) := by decide +kernel
theorem dX7_inRow_45 : decode cX7_inRow 45 = .ok (.aload_n 0, 1) := by decide +kernel
theorem dX7_inRow_46 : decode cX7_inRow 46 = .ok (.iload 4, 2) := by decide +kernel
theorem dX7_inRow_48 : decode cX7_inRow 48 = .ok (.invokevirtual 77, 3) := by decide +kernel
theorem dX7_inRow_51 : decode cX7_inRow 51 = .ok (.ifCond .ne 28, 3) := by decide +kernel
theorem dX7_inRow_54 : decode cX7_inRow 54 = .ok (.iload_n 2, 1) := by decide +kernel
theorem dX7_inRow_55 : decode cX7_inRow 55 = .ok (.ifCond .eq 11, 3) := by decide +kernel
theorem dX7_inRow_58 : decode cX7_inRow 58 = .ok (.iload 4, 2) := by decide +kernel
theorem dX7_inRow_60 : decode cX7_inRow 60 = .ok (.bipush 7, 2) := by decide +kernel
theorem dX7_inRow_62 : decode cX7_inRow 62 = .ok (.irem, 1) := by decide +kernel
theorem dX7_inRow_63 : decode cX7_inRow 63 = .ok (.goto 8, 3) := by decide +kernel
theorem dX7_inRow_66 : decode cX7_inRow 66 = .ok (.iload 4, 2) := by decide +kernel
theorem dX7_inRow_68 : decode cX7_inRow 68 = .ok (.bipush 7, 2) := by decide +kernel
theorem dX7_inRow_70 : decode cX7_inRow 70 = .ok (.idiv, 1) := by decide +kernel
theorem dX7_inRow_71 : decode cX7_inRow 71 = .ok (.iload_n 1, 1) := by decide +kernel
theorem dX7_inRow_72 : decode cX7_inRow 72 = .ok (.if_icmp .ne 7, 3) := by decide +kernel
theorem dX7_inRow_75 : decode cX7_inRow 75 = .ok (.iconst 1, 1) := by decide +kernel
theorem dX7_inRow_76 : decode cX7_inRow 76 = .ok (.goto 4, 3) := by decide +kernel
theorem dX7_inRow_79 : decode cX7_inRow 79 = .ok (.iconst 0, 1) := by decide +kernel
theorem dX7_inRow_80 : decode cX7_inRow 80 = .ok (.iadd, 1) := by decide +kernel
theorem dX7_inRow_81 : decode cX7_inRow 81 = .ok (.istore_n 3, 1) := by decide +kernel
theorem dX7_inRow_82 : decode cX7_inRow 82 = .ok (.iinc 4 1, 3) := by decide +kernel
theorem dX7_inRow_85 : decode cX7_inRow 85 = .ok (.goto (-48), 3) := by decide +kernel
theorem dX7_inRow_88 : decode cX7_inRow 88 = .ok (.iload_n 3, 1) := by decide +kernel
theorem dX7_inRow_89 : decode cX7_inRow 89 = .ok (.ireturn, 1) := by decide +kernel
theorem dX7_weakest_0 : decode cX7_weakest 0 = .ok (.iconst 0, 1) := by decide +kernel
theorem dX7_weakest_1 : decode cX7_weakest 1 = .ok (.istore_n 2, 1) := by decide +kernel
theorem dX7_weakest_2 : decode cX7_weakest 2 = .ok (.iload_n 2, 1) := by decide +kernel
theorem dX7_weakest_3 : decode cX7_weakest 3 = .ok (.bipush 42, 2) := by decide +kernel
theorem dX7_weakest_5 : decode cX7_weakest 5 = .ok (.if_icmp .ge 126, 3) := by decide +kernel
theorem dX7_weakest_8 : decode cX7_weakest 8 = .ok (.aload_n 0, 1) := by decide +kernel
theorem dX7_weakest_9 : decode cX7_weakest 9 = .ok (.iload_n 2, 1) := by decide +kernel
theorem dX7_weakest_10 : decode cX7_weakest 10 = .ok (.invokevirtual 77, 3) := by decide +kernel
theorem dX7_weakest_13 : decode cX7_weakest 13 = .ok (.ifCond .eq 6, 3) := by decide +kernel
theorem dX7_weakest_16 : decode cX7_weakest 16 = .ok (.goto 109, 3) := by decide +kernel
theorem dX7_weakest_19 : decode cX7_weakest 19 = .ok (.iconst 0, 1) := by decide +kernel
theorem dX7_weakest_20 : decode cX7_weakest 20 = .ok (.istore_n 3, 1) := by decide +kernel
theorem dX7_weakest_21 : decode cX7_weakest 21 = .ok (.aload_n 0, 1) := by decide +kernel
theorem dX7_weakest_22 : decode cX7_weakest 22 = .ok (.iload_n 2, 1) := by decide +kernel
theorem dX7_weakest_23 : decode cX7_weakest 23 = .ok (.aload_n 0, 1) := by decide +kernel
theorem dX7_weakest_24 : decode cX7_weakest 24 = .ok (.getfield 7, 3) := by decide +kernel
theorem dX7_weakest_27 : decode cX7_weakest 27 = .ok (.bipush 45, 2) := by decide +kernel
theorem dX7_weakest_29 : decode cX7_weakest 29 = .ok (.iload_n 2, 1) := by decide +kernel
theorem dX7_weakest_30 : decode cX7_weakest 30 = .ok (.iadd, 1) := by decide +kernel
theorem dX7_weakest_31 : decode cX7_weakest 31 = .ok (.iaload, 1) := by decide +kernel
theorem dX7_weakest_32 : decode cX7_weakest 32 = .ok (.invokevirtual 105, 3) := by decide +kernel
theorem dX7_weakest_35 : decode cX7_weakest 35 = .ok (.istore 4, 2) := by decide +kernel
theorem dX7_weakest_37 : decode cX7_weakest 37 = .ok (.iconst 0, 1) := by decide +kernel
theorem dX7_weakest_38 : decode cX7_weakest 38 = .ok (.istore 5, 2) := by decide +kernel
theorem dX7_weakest_40 : decode cX7_weakest 40 = .ok (.iload 5, 2) := by decide +kernel
theorem dX7_weakest_42 : decode cX7_weakest 42 = .ok (.bipush 42, 2) := by decide +kernel
theorem dX7_weakest_44 : decode cX7_weakest 44 = .ok (.if_icmp .ge 66, 3) := by decide +kernel
theorem dX7_weakest_47 : decode cX7_weakest 47 = .ok (.aload_n 0, 1) := by decide +kernel
theorem dX7_weakest_48 : decode cX7_weakest 48 = .ok (.iload 5, 2) := by decide +kernel
theorem dX7_weakest_50 : decode cX7_weakest 50 = .ok (.invokevirtual 77, 3) := by decide +kernel
theorem dX7_weakest_53 : decode cX7_weakest 53 = .ok (.ifCond .eq 6, 3) := by decide +kernel
theorem dX7_weakest_56 : decode cX7_weakest 56 = .ok (.goto 48, 3) := by decide +kernel
theorem dX7_weakest_59 : decode cX7_weakest 59 = .ok (.aload_n 0, 1) := by decide +kernel
theorem dX7_weakest_60 : decode cX7_weakest 60 = .ok (.iload 5, 2) := by decide +kernel
theorem dX7_weakest_62 : decode cX7_weakest 62 = .ok (.aload_n 0, 1) := by decide +kernel
theorem dX7_weakest_63 : decode cX7_weakest 63 = .ok (.getfield 7, 3) := by decide +kernel
theorem dX7_weakest_66 : decode cX7_weakest 66 = .ok (.bipush 45, 2) := by decide +kernel
theorem dX7_weakest_68 : decode cX7_weakest 68 = .ok (.iload 5, 2) := by decide +kernel
theorem dX7_weakest_70 : decode cX7_weakest 70 = .ok (.iadd, 1) := by decide +kernel
theorem dX7_weakest_71 : decode cX7_weakest 71 = .ok (.iaload, 1) := by decide +kernel
theorem dX7_weakest_72 : decode cX7_weakest 72 = .ok (.invokevirtual 105, 3) := by decide +kernel
theorem dX7_weakest_75 : decode cX7_weakest 75 = .ok (.iload 4, 2) := by decide +kernel
theorem dX7_weakest_77 : decode cX7_weakest 77 = .ok (.isub, 1) := by decide +kernel
theorem dX7_weakest_78 : decode cX7_weakest 78 = .ok (.istore 6, 2) := by decide +kernel
theorem dX7_weakest_80 : decode cX7_weakest 80 = .ok (.iload_n 3, 1) := by decide +kernel
theorem dX7_weakest_81 : decode cX7_weakest 81 = .ok (.iload 6, 2) := by decide +kernel
theorem dX7_weakest_83 : decode cX7_weakest 83 = .ok (.ifCond .lt 14, 3) := by decide +kernel
theorem dX7_weakest_86 : decode cX7_weakest 86 = .ok (.iload 6, 2) := by decide +kernel
theorem dX7_weakest_88 : decode cX7_weakest 88 = .ok (.ifCond .ne 13, 3) := by decide +kernel
theorem dX7_weakest_91 : decode cX7_weakest 91 = .ok (.iload 5, 2) := by decide +kernel
theorem dX7_weakest_93 : decode cX7_weakest 93 = .ok (.iload_n 2, 1) := by decide +kernel
theorem dX7_weakest_94 : decode cX7_weakest 94 = .ok (.if_icmp .ge 7, 3) := by decide +kernel
theorem dX7_weakest_97 : decode cX7_weakest 97 = .ok (.iconst 1, 1) := by decide +kernel
theorem dX7_weakest_98 : decode cX7_weakest 98 = .ok (.goto 4, 3) := by decide +kernel
theorem dX7_weakest_101 : decode cX7_weakest 101 = .ok (.iconst 0, 1) := by decide +kernel
theorem dX7_weakest_102 : decode cX7_weakest 102 = .ok (.iadd, 1) := by decide +kernel
theorem dX7_weakest_103 : decode cX7_weakest 103 = .ok (.istore_n 3, 1) := by decide +kernel
theorem dX7_weakest_104 : decode cX7_weakest 104 = .ok (.iinc 5 1, 3) := by decide +kernel
theorem dX7_weakest_107 : decode cX7_weakest 107 = .ok (.goto (-67), 3) := by decide +kernel
theorem dX7_weakest_110 : decode cX7_weakest 110 = .ok (.iload_n 3, 1) := by decide +kernel
theorem dX7_weakest_111 : decode cX7_weakest 111 = .ok (.iload_n 1, 1) := by decide +kernel
theorem dX7_weakest_112 : decode cX7_weakest 112 = .ok (.if_icmp .eq 6, 3) := by decide +kernel
theorem dX7_weakest_115 : decode cX7_weakest 115 = .ok (.goto 10, 3) := by decide +kernel
theorem dX7_weakest_118 : decode cX7_weakest 118 = .ok (.aload_n 0, 1) := by decide +kernel
theorem dX7_weakest_119 : decode cX7_weakest 119 = .ok (.iconst 0, 1) := by decide +kernel
theorem dX7_weakest_120 : decode cX7_weakest 120 = .ok (.putfield 43, 3) := by decide +kernel
theorem dX7_weakest_123 : decode cX7_weakest 123 = .ok (.iload_n 2, 1) := by decide +kernel
theorem dX7_weakest_124 : decode cX7_weakest 124 = .ok (.ireturn, 1) := by decide +kernel
theorem dX7_weakest_125 : decode cX7_weakest 125 = .ok (.iinc 2 1, 3) := by decide +kernel
theorem dX7_weakest_128 : decode cX7_weakest 128 = .ok (.goto (-126), 3) := by decide +kernel
theorem dX7_weakest_131 : decode cX7_weakest 131 = .ok (.aload_n 0, 1) := by decide +kernel
theorem dX7_weakest_132 : decode cX7_weakest 132 = .ok (.iconst 1, 1) := by decide +kernel
theorem dX7_weakest_133 : decode cX7_weakest 133 = .ok (.putfield 43, 3) := by decide +kernel
theorem dX7_weakest_136 : decode cX7_weakest 136 = .ok (.iconst 0, 1) := by decide +kernel
theorem dX7_weakest_137 : decode cX7_weakest 137 = .ok (.ireturn, 1) := by decide +kernel
theorem dX7_append_0 : decode cX7_append 0 = .ok (.aload_n 0, 1) := by decide +kernel
theorem dX7_append_1 : decode cX7_append 1 = .ok (.aload_n 0, 1) := by decide +kernel
theorem dX7_append_2 : decode cX7_append 2 = .ok (.getfield 146, 3) := by decide +kernel
theorem dX7_append_5 : decode cX7_append 5 = .ok (.bipush 60, 2) := by decide +kernel
theorem dX7_append_7 : decode cX7_append 7 = .ok (.if_icmp .ne 7, 3) := by decide +kernel
theorem dX7_append_10 : decode cX7_append 10 = .ok (.iconst 1, 1) := by decide +kernel
theorem dX7_append_11 : decode cX7_append 11 = .ok (.goto 4, 3) := by decide +kernel
theorem dX7_append_14 : decode cX7_append 14 = .ok (.iconst 0, 1) := by decide +kernel
end
section
theorem dX7_append_15 : decode cX7_append 15 = .ok (.invokevirtual 134, 3) := by decide +kernel
theorem dX7_append_18 : decode cX7_append 18 = .ok (.ifCond .eq 5, 3) := by decide +kernel
theorem dX7_append_21 : decode cX7_append 21 = .ok (.iconst 0, 1) := by decide +kernel
theorem dX7_append_22 : decode cX7_append 22 = .ok (.ireturn, 1) := by decide +kernel
theorem dX7_append_23 : decode cX7_append 23 = .ok (.aload_n 0, 1) := by decide +kernel
theorem dX7_append_24 : decode cX7_append 24 = .ok (.getfield 25, 3) := by decide +kernel
theorem dX7_append_27 : decode cX7_append 27 = .ok (.aload_n 0, 1) := by decide +kernel
theorem dX7_append_28 : decode cX7_append 28 = .ok (.getfield 146, 3) := by decide +kernel
theorem dX7_append_31 : decode cX7_append 31 = .ok (.iload_n 1, 1) := by decide +kernel
theorem dX7_append_32 : decode cX7_append 32 = .ok (.iastore, 1) := by decide +kernel
theorem dX7_append_33 : decode cX7_append 33 = .ok (.aload_n 0, 1) := by decide +kernel
theorem dX7_append_34 : decode cX7_append 34 = .ok (.dup, 1) := by decide +kernel
theorem dX7_append_35 : decode cX7_append 35 = .ok (.getfield 146, 3) := by decide +kernel
theorem dX7_append_38 : decode cX7_append 38 = .ok (.iconst 1, 1) := by decide +kernel
theorem dX7_append_39 : decode cX7_append 39 = .ok (.iadd, 1) := by decide +kernel
theorem dX7_append_40 : decode cX7_append 40 = .ok (.putfield 146, 3) := by decide +kernel
theorem dX7_append_43 : decode cX7_append 43 = .ok (.aload_n 0, 1) := by decide +kernel
theorem dX7_append_44 : decode cX7_append 44 = .ok (.getfield 146, 3) := by decide +kernel
theorem dX7_append_47 : decode cX7_append 47 = .ok (.ireturn, 1) := by decide +kernel
theorem dX7_here_0 : decode cX7_here 0 = .ok (.aload_n 0, 1) := by decide +kernel
theorem dX7_here_1 : decode cX7_here 1 = .ok (.getfield 149, 3) := by decide +kernel
theorem dX7_here_4 : decode cX7_here 4 = .ok (.aload_n 0, 1) := by decide +kernel
theorem dX7_here_5 : decode cX7_here 5 = .ok (.getfield 146, 3) := by decide +kernel
theorem dX7_here_8 : decode cX7_here 8 = .ok (.if_icmp .ge 15, 3) := by decide +kernel
theorem dX7_here_11 : decode cX7_here 11 = .ok (.aload_n 0, 1) := by decide +kernel
theorem dX7_here_12 : decode cX7_here 12 = .ok (.getfield 25, 3) := by decide +kernel
theorem dX7_here_15 : decode cX7_here 15 = .ok (.aload_n 0, 1) := by decide +kernel
theorem dX7_here_16 : decode cX7_here 16 = .ok (.getfield 149, 3) := by decide +kernel
theorem dX7_here_19 : decode cX7_here 19 = .ok (.iaload, 1) := by decide +kernel
theorem dX7_here_20 : decode cX7_here 20 = .ok (.goto 4, 3) := by decide +kernel
theorem dX7_here_23 : decode cX7_here 23 = .ok (.iconst (-1), 1) := by decide +kernel
theorem dX7_here_24 : decode cX7_here 24 = .ok (.ireturn, 1) := by decide +kernel
theorem dX7_skips_0 : decode cX7_skips 0 = .ok (.aload_n 0, 1) := by decide +kernel
theorem dX7_skips_1 : decode cX7_skips 1 = .ok (.invokevirtual 152, 3) := by decide +kernel
theorem dX7_skips_4 : decode cX7_skips 4 = .ok (.iload_n 1, 1) := by decide +kernel
theorem dX7_skips_5 : decode cX7_skips 5 = .ok (.if_icmp .eq 5, 3) := by decide +kernel
theorem dX7_skips_8 : decode cX7_skips 8 = .ok (.iconst 0, 1) := by decide +kernel
theorem dX7_skips_9 : decode cX7_skips 9 = .ok (.ireturn, 1) := by decide +kernel
theorem dX7_skips_10 : decode cX7_skips 10 = .ok (.aload_n 0, 1) := by decide +kernel
theorem dX7_skips_11 : decode cX7_skips 11 = .ok (.dup, 1) := by decide +kernel
theorem dX7_skips_12 : decode cX7_skips 12 = .ok (.getfield 149, 3) := by decide +kernel
theorem dX7_skips_15 : decode cX7_skips 15 = .ok (.iconst 1, 1) := by decide +kernel
theorem dX7_skips_16 : decode cX7_skips 16 = .ok (.iadd, 1) := by decide +kernel
theorem dX7_skips_17 : decode cX7_skips 17 = .ok (.putfield 149, 3) := by decide +kernel
theorem dX7_skips_20 : decode cX7_skips 20 = .ok (.iconst 1, 1) := by decide +kernel
theorem dX7_skips_21 : decode cX7_skips 21 = .ok (.ireturn, 1) := by decide +kernel
theorem dX7_figures_0 : decode cX7_figures 0 = .ok (.aload_n 0, 1) := by decide +kernel
theorem dX7_figures_1 : decode cX7_figures 1 = .ok (.invokevirtual 152, 3) := by decide +kernel
theorem dX7_figures_4 : decode cX7_figures 4 = .ok (.bipush 48, 2) := by decide +kernel
theorem dX7_figures_6 : decode cX7_figures 6 = .ok (.bipush 57, 2) := by decide +kernel
theorem dX7_figures_8 : decode cX7_figures 8 = .ok (.invokestatic 69, 3) := by decide +kernel
theorem dX7_figures_11 : decode cX7_figures 11 = .ok (.ifCond .ne 5, 3) := by decide +kernel
theorem dX7_figures_14 : decode cX7_figures 14 = .ok (.iconst 0, 1) := by decide +kernel
theorem dX7_figures_15 : decode cX7_figures 15 = .ok (.ireturn, 1) := by decide +kernel
theorem dX7_figures_16 : decode cX7_figures 16 = .ok (.aload_n 0, 1) := by decide +kernel
theorem dX7_figures_17 : decode cX7_figures 17 = .ok (.getfield 40, 3) := by decide +kernel
theorem dX7_figures_20 : decode cX7_figures 20 = .ok (.iload_n 1, 1) := by decide +kernel
theorem dX7_figures_21 : decode cX7_figures 21 = .ok (.iconst 0, 1) := by decide +kernel
theorem dX7_figures_22 : decode cX7_figures 22 = .ok (.iastore, 1) := by decide +kernel
theorem dX7_figures_23 : decode cX7_figures 23 = .ok (.iconst 0, 1) := by decide +kernel
theorem dX7_figures_24 : decode cX7_figures 24 = .ok (.istore_n 3, 1) := by decide +kernel
theorem dX7_figures_25 : decode cX7_figures 25 = .ok (.iload_n 3, 1) := by decide +kernel
theorem dX7_figures_26 : decode cX7_figures 26 = .ok (.iload_n 2, 1) := by decide +kernel
theorem dX7_figures_27 : decode cX7_figures 27 = .ok (.if_icmp .ge 56, 3) := by decide +kernel
theorem dX7_figures_30 : decode cX7_figures 30 = .ok (.aload_n 0, 1) := by decide +kernel
theorem dX7_figures_31 : decode cX7_figures 31 = .ok (.invokevirtual 152, 3) := by decide +kernel
theorem dX7_figures_34 : decode cX7_figures 34 = .ok (.bipush 48, 2) := by decide +kernel
theorem dX7_figures_36 : decode cX7_figures 36 = .ok (.bipush 57, 2) := by decide +kernel
theorem dX7_figures_38 : decode cX7_figures 38 = .ok (.invokestatic 69, 3) := by decide +kernel
theorem dX7_figures_41 : decode cX7_figures 41 = .ok (.ifCond .eq 42, 3) := by decide +kernel
theorem dX7_figures_44 : decode cX7_figures 44 = .ok (.aload_n 0, 1) := by decide +kernel
theorem dX7_figures_45 : decode cX7_figures 45 = .ok (.getfield 40, 3) := by decide +kernel
theorem dX7_figures_48 : decode cX7_figures 48 = .ok (.iload_n 1, 1) := by decide +kernel
theorem dX7_figures_49 : decode cX7_figures 49 = .ok (.bipush 10, 2) := by decide +kernel
theorem dX7_figures_51 : decode cX7_figures 51 = .ok (.aload_n 0, 1) := by decide +kernel
theorem dX7_figures_52 : decode cX7_figures 52 = .ok (.getfield 40, 3) := by decide +kernel
theorem dX7_figures_55 : decode cX7_figures 55 = .ok (.iload_n 1, 1) := by decide +kernel
theorem dX7_figures_56 : decode cX7_figures 56 = .ok (.iaload, 1) := by decide +kernel
theorem dX7_figures_57 : decode cX7_figures 57 = .ok (.imul, 1) := by decide +kernel
theorem dX7_figures_58 : decode cX7_figures 58 = .ok (.aload_n 0, 1) := by decide +kernel
theorem dX7_figures_59 : decode cX7_figures 59 = .ok (.invokevirtual 152, 3) := by decide +kernel
theorem dX7_figures_62 : decode cX7_figures 62 = .ok (.iadd, 1) := by decide +kernel
theorem dX7_figures_63 : decode cX7_figures 63 = .ok (.bipush 48, 2) := by decide +kernel
theorem dX7_figures_65 : decode cX7_figures 65 = .ok (.isub, 1) := by decide +kernel
theorem dX7_figures_66 : decode cX7_figures 66 = .ok (.iastore, 1) := by decide +kernel
theorem dX7_figures_67 : decode cX7_figures 67 = .ok (.aload_n 0, 1) := by decide +kernel
theorem dX7_figures_68 : decode cX7_figures 68 = .ok (.dup, 1) := by decide +kernel
theorem dX7_figures_69 : decode cX7_figures 69 = .ok (.getfield 149, 3) := by decide +kernel
theorem dX7_figures_72 : decode cX7_figures 72 = .ok (.iconst 1, 1) := by decide +kernel
theorem dX7_figures_73 : decode cX7_figures 73 = .ok (.iadd, 1) := by decide +kernel
theorem dX7_figures_74 : decode cX7_figures 74 = .ok (.putfield 149, 3) := by decide +kernel
theorem dX7_figures_77 : decode cX7_figures 77 = .ok (.iinc 3 1, 3) := by decide +kernel
theorem dX7_figures_80 : decode cX7_figures 80 = .ok (.goto (-55), 3) := by decide +kernel
theorem dX7_figures_83 : decode cX7_figures 83 = .ok (.iconst 1, 1) := by decide +kernel
theorem dX7_figures_84 : decode cX7_figures 84 = .ok (.ireturn, 1) := by decide +kernel
theorem dX7_layHere_0 : decode cX7_layHere 0 = .ok (.aload_n 0, 1) := by decide +kernel
theorem dX7_layHere_1 : decode cX7_layHere 1 = .ok (.iload_n 1, 1) := by decide +kernel
theorem dX7_layHere_2 : decode cX7_layHere 2 = .ok (.iconst 1, 1) := by decide +kernel
theorem dX7_layHere_3 : decode cX7_layHere 3 = .ok (.iadd, 1) := by decide +kernel
theorem dX7_layHere_4 : decode cX7_layHere 4 = .ok (.iconst 2, 1) := by decide +kernel
theorem dX7_layHere_5 : decode cX7_layHere 5 = .ok (.invokevirtual 155, 3) := by decide +kernel
theorem dX7_layHere_8 : decode cX7_layHere 8 = .ok (.ifCond .eq 23, 3) := by decide +kernel
theorem dX7_layHere_11 : decode cX7_layHere 11 = .ok (.aload_n 0, 1) := by decide +kernel
theorem dX7_layHere_12 : decode cX7_layHere 12 = .ok (.bipush 58, 2) := by decide +kernel
theorem dX7_layHere_14 : decode cX7_layHere 14 = .ok (.invokevirtual 158, 3) := by decide +kernel
theorem dX7_layHere_17 : decode cX7_layHere 17 = .ok (.ifCond .eq 14, 3) := by decide +kernel
theorem dX7_layHere_20 : decode cX7_layHere 20 = .ok (.aload_n 0, 1) := by decide +kernel
theorem dX7_layHere_21 : decode cX7_layHere 21 = .ok (.iload_n 1, 1) := by decide +kernel
theorem dX7_layHere_22 : decode cX7_layHere 22 = .ok (.iconst 2, 1) := by decide +kernel
theorem dX7_layHere_23 : decode cX7_layHere 23 = .ok (.iadd, 1) := by decide +kernel
theorem dX7_layHere_24 : decode cX7_layHere 24 = .ok (.iconst 1, 1) := by decide +kernel
theorem dX7_layHere_25 : decode cX7_layHere 25 = .ok (.invokevirtual 155, 3) := by decide +kernel
theorem dX7_layHere_28 : decode cX7_layHere 28 = .ok (.ifCond .ne 5, 3) := by decide +kernel
theorem dX7_layHere_31 : decode cX7_layHere 31 = .ok (.iconst 0, 1) := by decide +kernel
theorem dX7_layHere_32 : decode cX7_layHere 32 = .ok (.ireturn, 1) := by decide +kernel
theorem dX7_layHere_33 : decode cX7_layHere 33 = .ok (.aload_n 0, 1) := by decide +kernel
theorem dX7_layHere_34 : decode cX7_layHere 34 = .ok (.getfield 40, 3) := by decide +kernel
theorem dX7_layHere_37 : decode cX7_layHere 37 = .ok (.iload_n 1, 1) := by decide +kernel
theorem dX7_layHere_38 : decode cX7_layHere 38 = .ok (.iconst 3, 1) := by decide +kernel
theorem dX7_layHere_39 : decode cX7_layHere 39 = .ok (.iadd, 1) := by decide +kernel
theorem dX7_layHere_40 : decode cX7_layHere 40 = .ok (.iconst 0, 1) := by decide +kernel
theorem dX7_layHere_41 : decode cX7_layHere 41 = .ok (.iastore, 1) := by decide +kernel
theorem dX7_layHere_42 : decode cX7_layHere 42 = .ok (.aload_n 0, 1) := by decide +kernel
theorem dX7_layHere_43 : decode cX7_layHere 43 = .ok (.getfield 40, 3) := by decide +kernel
theorem dX7_layHere_46 : decode cX7_layHere 46 = .ok (.iload_n 1, 1) := by decide +kernel
theorem dX7_layHere_47 : decode cX7_layHere 47 = .ok (.iconst 3, 1) := by decide +kernel
theorem dX7_layHere_48 : decode cX7_layHere 48 = .ok (.iadd, 1) := by decide +kernel
theorem dX7_layHere_49 : decode cX7_layHere 49 = .ok (.iaload, 1) := by decide +kernel
theorem dX7_layHere_50 : decode cX7_layHere 50 = .ok (.iconst 3, 1) := by decide +kernel
theorem dX7_layHere_51 : decode cX7_layHere 51 = .ok (.if_icmp .ge 27, 3) := by decide +kernel
theorem dX7_layHere_54 : decode cX7_layHere 54 = .ok (.aload_n 0, 1) := by decide +kernel
theorem dX7_layHere_55 : decode cX7_layHere 55 = .ok (.bipush 42, 2) := by decide +kernel
theorem dX7_layHere_57 : decode cX7_layHere 57 = .ok (.invokevirtual 158, 3) := by decide +kernel
theorem dX7_layHere_60 : decode cX7_layHere 60 = .ok (.ifCond .eq 18, 3) := by decide +kernel
theorem dX7_layHere_63 : decode cX7_layHere 63 = .ok (.aload_n 0, 1) := by decide +kernel
theorem dX7_layHere_64 : decode cX7_layHere 64 = .ok (.getfield 40, 3) := by decide +kernel
theorem dX7_layHere_67 : decode cX7_layHere 67 = .ok (.iload_n 1, 1) := by decide +kernel
theorem dX7_layHere_68 : decode cX7_layHere 68 = .ok (.iconst 3, 1) := by decide +kernel
theorem dX7_layHere_69 : decode cX7_layHere 69 = .ok (.iadd, 1) := by decide +kernel
theorem dX7_layHere_70 : decode cX7_layHere 70 = .ok (.dup2, 1) := by decide +kernel
theorem dX7_layHere_71 : decode cX7_layHere 71 = .ok (.iaload, 1) := by decide +kernel
theorem dX7_layHere_72 : decode cX7_layHere 72 = .ok (.iconst 1, 1) := by decide +kernel
theorem dX7_layHere_73 : decode cX7_layHere 73 = .ok (.iadd, 1) := by decide +kernel
theorem dX7_layHere_74 : decode cX7_layHere 74 = .ok (.iastore, 1) := by decide +kernel
theorem dX7_layHere_75 : decode cX7_layHere 75 = .ok (.goto (-33), 3) := by decide +kernel
theorem dX7_layHere_78 : decode cX7_layHere 78 = .ok (.iconst 1, 1) := by decide +kernel
theorem dX7_layHere_79 : decode cX7_layHere 79 = .ok (.ireturn, 1) := by decide +kernel
theorem dX7_commandHere_0 : decode cX7_commandHere 0 = .ok (.bipush 6, 2) := by decide +kernel
theorem dX7_commandHere_2 : decode cX7_commandHere 2 = .ok (.aload_n 0, 1) := by decide +kernel
theorem dX7_commandHere_3 : decode cX7_commandHere 3 = .ok (.getfield 161, 3) := by decide +kernel
theorem dX7_commandHere_6 : decode cX7_commandHere 6 = .ok (.imul, 1) := by decide +kernel
theorem dX7_commandHere_7 : decode cX7_commandHere 7 = .ok (.istore_n 1, 1) := by decide +kernel
theorem dX7_commandHere_8 : decode cX7_commandHere 8 = .ok (.aload_n 0, 1) := by decide +kernel
theorem dX7_commandHere_9 : decode cX7_commandHere 9 = .ok (.getfield 40, 3) := by decide +kernel
theorem dX7_commandHere_12 : decode cX7_commandHere 12 = .ok (.iload_n 1, 1) := by decide +kernel
theorem dX7_commandHere_13 : decode cX7_commandHere 13 = .ok (.aload_n 0, 1) := by decide +kernel
theorem dX7_commandHere_14 : decode cX7_commandHere 14 = .ok (.invokevirtual 152, 3) := by decide +kernel
theorem dX7_commandHere_17 : decode cX7_commandHere 17 = .ok (.iastore, 1) := by decide +kernel
theorem dX7_commandHere_18 : decode cX7_commandHere 18 = .ok (.aload_n 0, 1) := by decide +kernel
theorem dX7_commandHere_19 : decode cX7_commandHere 19 = .ok (.bipush 107, 2) := by decide +kernel
theorem dX7_commandHere_21 : decode cX7_commandHere 21 = .ok (.invokevirtual 158, 3) := by decide +kernel
theorem dX7_commandHere_24 : decode cX7_commandHere 24 = .ok (.ifCond .eq 53, 3) := by decide +kernel
theorem dX7_commandHere_27 : decode cX7_commandHere 27 = .ok (.aload_n 0, 1) := by decide +kernel
theorem dX7_commandHere_28 : decode cX7_commandHere 28 = .ok (.iload_n 1, 1) := by decide +kernel
theorem dX7_commandHere_29 : decode cX7_commandHere 29 = .ok (.iconst 1, 1) := by decide +kernel
theorem dX7_commandHere_30 : decode cX7_commandHere 30 = .ok (.iadd, 1) := by decide +kernel
theorem dX7_commandHere_31 : decode cX7_commandHere 31 = .ok (.iconst 1, 1) := by decide +kernel
theorem dX7_commandHere_32 : decode cX7_commandHere 32 = .ok (.invokevirtual 155, 3) := by decide +kernel
theorem dX7_commandHere_35 : decode cX7_commandHere 35 = .ok (.ifCond .eq 40, 3) := by decide +kernel
theorem dX7_commandHere_38 : decode cX7_commandHere 38 = .ok (.aload_n 0, 1) := by decide +kernel
theorem dX7_commandHere_39 : decode cX7_commandHere 39 = .ok (.iload_n 1, 1) := by decide +kernel
theorem dX7_commandHere_40 : decode cX7_commandHere 40 = .ok (.iconst 2, 1) := by decide +kernel
theorem dX7_commandHere_41 : decode cX7_commandHere 41 = .ok (.iadd, 1) := by decide +kernel
theorem dX7_commandHere_42 : decode cX7_commandHere 42 = .ok (.iconst 1, 1) := by decide +kernel
theorem dX7_commandHere_43 : decode cX7_commandHere 43 = .ok (.invokevirtual 155, 3) := by decide +kernel
theorem dX7_commandHere_46 : decode cX7_commandHere 46 = .ok (.ifCond .eq 29, 3) := by decide +kernel
theorem dX7_commandHere_49 : decode cX7_commandHere 49 = .ok (.aload_n 0, 1) := by decide +kernel
theorem dX7_commandHere_50 : decode cX7_commandHere 50 = .ok (.iload_n 1, 1) := by decide +kernel
theorem dX7_commandHere_51 : decode cX7_commandHere 51 = .ok (.iconst 3, 1) := by decide +kernel
theorem dX7_commandHere_52 : decode cX7_commandHere 52 = .ok (.iadd, 1) := by decide +kernel
theorem dX7_commandHere_53 : decode cX7_commandHere 53 = .ok (.iconst 1, 1) := by decide +kernel
theorem dX7_commandHere_54 : decode cX7_commandHere 54 = .ok (.invokevirtual 155, 3) := by decide +kernel
theorem dX7_commandHere_57 : decode cX7_commandHere 57 = .ok (.ifCond .eq 18, 3) := by decide +kernel
theorem dX7_commandHere_60 : decode cX7_commandHere 60 = .ok (.aload_n 0, 1) := by decide +kernel
theorem dX7_commandHere_61 : decode cX7_commandHere 61 = .ok (.iload_n 1, 1) := by decide +kernel
theorem dX7_commandHere_62 : decode cX7_commandHere 62 = .ok (.iconst 4, 1) := by decide +kernel
theorem dX7_commandHere_63 : decode cX7_commandHere 63 = .ok (.iadd, 1) := by decide +kernel
theorem dX7_commandHere_64 : decode cX7_commandHere 64 = .ok (.iconst 1, 1) := by decide +kernel
theorem dX7_commandHere_65 : decode cX7_commandHere 65 = .ok (.invokevirtual 155, 3) := by decide +kernel
theorem dX7_commandHere_68 : decode cX7_commandHere 68 = .ok (.ifCond .eq 7, 3) := by decide +kernel
theorem dX7_commandHere_71 : decode cX7_commandHere 71 = .ok (.iconst 1, 1) := by decide +kernel
theorem dX7_commandHere_72 : decode cX7_commandHere 72 = .ok (.goto 4, 3) := by decide +kernel
theorem dX7_commandHere_75 : decode cX7_commandHere 75 = .ok (.iconst 0, 1) := by decide +kernel
theorem dX7_commandHere_76 : decode cX7_commandHere 76 = .ok (.ireturn, 1) := by decide +kernel
theorem dX7_commandHere_77 : decode cX7_commandHere 77 = .ok (.aload_n 0, 1) := by decide +kernel
theorem dX7_commandHere_78 : decode cX7_commandHere 78 = .ok (.bipush 108, 2) := by decide +kernel
theorem dX7_commandHere_80 : decode cX7_commandHere 80 = .ok (.invokevirtual 158, 3) := by decide +kernel
theorem dX7_commandHere_83 : decode cX7_commandHere 83 = .ok (.ifCond .eq 9, 3) := by decide +kernel
theorem dX7_commandHere_86 : decode cX7_commandHere 86 = .ok (.aload_n 0, 1) := by decide +kernel
theorem dX7_commandHere_87 : decode cX7_commandHere 87 = .ok (.iload_n 1, 1) := by decide +kernel
theorem dX7_commandHere_88 : decode cX7_commandHere 88 = .ok (.invokevirtual 164, 3) := by decide +kernel
theorem dX7_commandHere_91 : decode cX7_commandHere 91 = .ok (.ireturn, 1) := by decide +kernel
theorem dX7_commandHere_92 : decode cX7_commandHere 92 = .ok (.aload_n 0, 1) := by decide +kernel
theorem dX7_commandHere_93 : decode cX7_commandHere 93 = .ok (.bipush 115, 2) := by decide +kernel
theorem dX7_commandHere_95 : decode cX7_commandHere 95 = .ok (.invokevirtual 158, 3) := by decide +kernel
theorem dX7_commandHere_98 : decode cX7_commandHere 98 = .ok (.ifCond .eq 31, 3) := by decide +kernel
theorem dX7_commandHere_101 : decode cX7_commandHere 101 = .ok (.aload_n 0, 1) := by decide +kernel
theorem dX7_commandHere_102 : decode cX7_commandHere 102 = .ok (.iload_n 1, 1) := by decide +kernel
theorem dX7_commandHere_103 : decode cX7_commandHere 103 = .ok (.iconst 1, 1) := by decide +kernel
theorem dX7_commandHere_104 : decode cX7_commandHere 104 = .ok (.iadd, 1) := by decide +kernel
theorem dX7_commandHere_105 : decode cX7_commandHere 105 = .ok (.iconst 1, 1) := by decide +kernel
theorem dX7_commandHere_106 : decode cX7_commandHere 106 = .ok (.invokevirtual 155, 3) := by decide +kernel
theorem dX7_commandHere_109 : decode cX7_commandHere 109 = .ok (.ifCond .eq 18, 3) := by decide +kernel
theorem dX7_commandHere_112 : decode cX7_commandHere 112 = .ok (.aload_n 0, 1) := by decide +kernel
theorem dX7_commandHere_113 : decode cX7_commandHere 113 = .ok (.iload_n 1, 1) := by decide +kernel
theorem dX7_commandHere_114 : decode cX7_commandHere 114 = .ok (.iconst 2, 1) := by decide +kernel
theorem dX7_commandHere_115 : decode cX7_commandHere 115 = .ok (.iadd, 1) := by decide +kernel
theorem dX7_commandHere_116 : decode cX7_commandHere 116 = .ok (.iconst 1, 1) := by decide +kernel
theorem dX7_commandHere_117 : decode cX7_commandHere 117 = .ok (.invokevirtual 155, 3) := by decide +kernel
theorem dX7_commandHere_120 : decode cX7_commandHere 120 = .ok (.ifCond .eq 7, 3) := by decide +kernel
theorem dX7_commandHere_123 : decode cX7_commandHere 123 = .ok (.iconst 1, 1) := by decide +kernel
theorem dX7_commandHere_124 : decode cX7_commandHere 124 = .ok (.goto 4, 3) := by decide +kernel
theorem dX7_commandHere_127 : decode cX7_commandHere 127 = .ok (.iconst 0, 1) := by decide +kernel
theorem dX7_commandHere_128 : decode cX7_commandHere 128 = .ok (.ireturn, 1) := by decide +kernel
theorem dX7_commandHere_129 : decode cX7_commandHere 129 = .ok (.aload_n 0, 1) := by decide +kernel
theorem dX7_commandHere_130 : decode cX7_commandHere 130 = .ok (.bipush 110, 2) := by decide +kernel
theorem dX7_commandHere_132 : decode cX7_commandHere 132 = .ok (.invokevirtual 158, 3) := by decide +kernel
theorem dX7_commandHere_135 : decode cX7_commandHere 135 = .ok (.ifCond .eq 12, 3) := by decide +kernel
theorem dX7_commandHere_138 : decode cX7_commandHere 138 = .ok (.aload_n 0, 1) := by decide +kernel
theorem dX7_commandHere_139 : decode cX7_commandHere 139 = .ok (.iload_n 1, 1) := by decide +kernel
theorem dX7_commandHere_140 : decode cX7_commandHere 140 = .ok (.iconst 1, 1) := by decide +kernel
theorem dX7_commandHere_141 : decode cX7_commandHere 141 = .ok (.iadd, 1) := by decide +kernel
theorem dX7_commandHere_142 : decode cX7_commandHere 142 = .ok (.iconst 1, 1) := by decide +kernel
theorem dX7_commandHere_143 : decode cX7_commandHere 143 = .ok (.invokevirtual 155, 3) := by decide +kernel
theorem dX7_commandHere_146 : decode cX7_commandHere 146 = .ok (.ireturn, 1) := by decide +kernel
theorem dX7_commandHere_147 : decode cX7_commandHere 147 = .ok (.aload_n 0, 1) := by decide +kernel
theorem dX7_commandHere_148 : decode cX7_commandHere 148 = .ok (.bipush 116, 2) := by decide +kernel
theorem dX7_commandHere_150 : decode cX7_commandHere 150 = .ok (.invokevirtual 158, 3) := by decide +kernel
theorem dX7_commandHere_153 : decode cX7_commandHere 153 = .ok (.ifCond .ne 12, 3) := by decide +kernel
theorem dX7_commandHere_156 : decode cX7_commandHere 156 = .ok (.aload_n 0, 1) := by decide +kernel
theorem dX7_commandHere_157 : decode cX7_commandHere 157 = .ok (.bipush 103, 2) := by decide +kernel
theorem dX7_commandHere_159 : decode cX7_commandHere 159 = .ok (.invokevirtual 158, 3) := by decide +kernel
theorem dX7_commandHere_162 : decode cX7_commandHere 162 = .ok (.ifCond .eq 18, 3) := by decide +kernel
theorem dX7_commandHere_165 : decode cX7_commandHere 165 = .ok (.aload_n 0, 1) := by decide +kernel
theorem dX7_commandHere_166 : decode cX7_commandHere 166 = .ok (.iload_n 1, 1) := by decide +kernel
theorem dX7_commandHere_167 : decode cX7_commandHere 167 = .ok (.iconst 1, 1) := by decide +kernel
theorem dX7_commandHere_168 : decode cX7_commandHere 168 = .ok (.iadd, 1) := by decide +kernel
theorem dX7_commandHere_169 : decode cX7_commandHere 169 = .ok (.iconst 2, 1) := by decide +kernel
theorem dX7_commandHere_170 : decode cX7_commandHere 170 = .ok (.invokevirtual 155, 3) := by decide +kernel
theorem dX7_commandHere_173 : decode cX7_commandHere 173 = .ok (.ifCond .eq 7, 3) := by decide +kernel
theorem dX7_commandHere_176 : decode cX7_commandHere 176 = .ok (.iconst 1, 1) := by decide +kernel
theorem dX7_commandHere_177 : decode cX7_commandHere 177 = .ok (.goto 4, 3) := by decide +kernel
theorem dX7_commandHere_180 : decode cX7_commandHere 180 = .ok (.iconst 0, 1) := by decide +kernel
theorem dX7_commandHere_181 : decode cX7_commandHere 181 = .ok (.ireturn, 1) := by decide +kernel
theorem dX7_isText_0 : decode cX7_isText 0 = .ok (.aload_n 0, 1) := by decide +kernel
theorem dX7_isText_1 : decode cX7_isText 1 = .ok (.iconst 0, 1) := by decide +kernel
theorem dX7_isText_2 : decode cX7_isText 2 = .ok (.putfield 149, 3) := by decide +kernel
theorem dX7_isText_5 : decode cX7_isText 5 = .ok (.aload_n 0, 1) := by decide +kernel
theorem dX7_isText_6 : decode cX7_isText 6 = .ok (.iconst 0, 1) := by decide +kernel
theorem dX7_isText_7 : decode cX7_isText 7 = .ok (.putfield 161, 3) := by decide +kernel
theorem dX7_isText_10 : decode cX7_isText 10 = .ok (.aload_n 0, 1) := by decide +kernel
theorem dX7_isText_11 : decode cX7_isText 11 = .ok (.invokevirtual 167, 3) := by decide +kernel
theorem dX7_isText_14 : decode cX7_isText 14 = .ok (.ifCond .ne 5, 3) := by decide +kernel
theorem dX7_isText_17 : decode cX7_isText 17 = .ok (.iconst 0, 1) := by decide +kernel
theorem dX7_isText_18 : decode cX7_isText 18 = .ok (.ireturn, 1) := by decide +kernel
theorem dX7_isText_19 : decode cX7_isText 19 = .ok (.aload_n 0, 1) := by decide +kernel
theorem dX7_isText_20 : decode cX7_isText 20 = .ok (.dup, 1) := by decide +kernel
theorem dX7_isText_21 : decode cX7_isText 21 = .ok (.getfield 161, 3) := by decide +kernel
theorem dX7_isText_24 : decode cX7_isText 24 = .ok (.iconst 1, 1) := by decide +kernel
theorem dX7_isText_25 : decode cX7_isText 25 = .ok (.iadd, 1) := by decide +kernel
theorem dX7_isText_26 : decode cX7_isText 26 = .ok (.putfield 161, 3) := by decide +kernel
theorem dX7_isText_29 : decode cX7_isText 29 = .ok (.aload_n 0, 1) := by decide +kernel
theorem dX7_isText_30 : decode cX7_isText 30 = .ok (.bipush 59, 2) := by decide +kernel
theorem dX7_isText_32 : decode cX7_isText 32 = .ok (.invokevirtual 158, 3) := by decide +kernel
theorem dX7_isText_35 : decode cX7_isText 35 = .ok (.ifCond .ne (-25), 3) := by decide +kernel
theorem dX7_isText_38 : decode cX7_isText 38 = .ok (.aload_n 0, 1) := by decide +kernel
theorem dX7_isText_39 : decode cX7_isText 39 = .ok (.getfield 149, 3) := by decide +kernel
theorem dX7_isText_42 : decode cX7_isText 42 = .ok (.aload_n 0, 1) := by decide +kernel
theorem dX7_isText_43 : decode cX7_isText 43 = .ok (.getfield 146, 3) := by decide +kernel
theorem dX7_isText_46 : decode cX7_isText 46 = .ok (.if_icmp .ne 7, 3) := by decide +kernel
theorem dX7_isText_49 : decode cX7_isText 49 = .ok (.iconst 1, 1) := by decide +kernel
theorem dX7_isText_50 : decode cX7_isText 50 = .ok (.goto 4, 3) := by decide +kernel
theorem dX7_isText_53 : decode cX7_isText 53 = .ok (.iconst 0, 1) := by decide +kernel
theorem dX7_isText_54 : decode cX7_isText 54 = .ok (.ireturn, 1) := by decide +kernel
theorem dX7_carries_0 : decode cX7_carries 0 = .ok (.aload_n 0, 1) := by decide +kernel
theorem dX7_carries_1 : decode cX7_carries 1 = .ok (.getfield 40, 3) := by decide +kernel
theorem dX7_carries_4 : decode cX7_carries 4 = .ok (.iload_n 1, 1) := by decide +kernel
theorem dX7_carries_5 : decode cX7_carries 5 = .ok (.iaload, 1) := by decide +kernel
theorem dX7_carries_6 : decode cX7_carries 6 = .ok (.tableswitch 167 107 116 #[54, 91, 167, 141, 167, 167, 167, 167, 120, 154], 54) := by decide +kernel
theorem dX7_carries_60 : decode cX7_carries 60 = .ok (.aload_n 0, 1) := by decide +kernel
theorem dX7_carries_61 : decode cX7_carries 61 = .ok (.aload_n 0, 1) := by decide +kernel
theorem dX7_carries_62 : decode cX7_carries 62 = .ok (.getfield 40, 3) := by decide +kernel
theorem dX7_carries_65 : decode cX7_carries 65 = .ok (.iload_n 1, 1) := by decide +kernel
theorem dX7_carries_66 : decode cX7_carries 66 = .ok (.iconst 1, 1) := by decide +kernel
theorem dX7_carries_67 : decode cX7_carries 67 = .ok (.iadd, 1) := by decide +kernel
theorem dX7_carries_68 : decode cX7_carries 68 = .ok (.iaload, 1) := by decide +kernel
theorem dX7_carries_69 : decode cX7_carries 69 = .ok (.aload_n 0, 1) := by decide +kernel
theorem dX7_carries_70 : decode cX7_carries 70 = .ok (.getfield 40, 3) := by decide +kernel
theorem dX7_carries_73 : decode cX7_carries 73 = .ok (.iload_n 1, 1) := by decide +kernel
theorem dX7_carries_74 : decode cX7_carries 74 = .ok (.iconst 2, 1) := by decide +kernel
theorem dX7_carries_75 : decode cX7_carries 75 = .ok (.iadd, 1) := by decide +kernel
theorem dX7_carries_76 : decode cX7_carries 76 = .ok (.iaload, 1) := by decide +kernel
theorem dX7_carries_77 : decode cX7_carries 77 = .ok (.aload_n 0, 1) := by decide +kernel
theorem dX7_carries_78 : decode cX7_carries 78 = .ok (.getfield 40, 3) := by decide +kernel
theorem dX7_carries_81 : decode cX7_carries 81 = .ok (.iload_n 1, 1) := by decide +kernel
theorem dX7_carries_82 : decode cX7_carries 82 = .ok (.iconst 3, 1) := by decide +kernel
theorem dX7_carries_83 : decode cX7_carries 83 = .ok (.iadd, 1) := by decide +kernel
theorem dX7_carries_84 : decode cX7_carries 84 = .ok (.iaload, 1) := by decide +kernel
theorem dX7_carries_85 : decode cX7_carries 85 = .ok (.aload_n 0, 1) := by decide +kernel
theorem dX7_carries_86 : decode cX7_carries 86 = .ok (.getfield 40, 3) := by decide +kernel
theorem dX7_carries_89 : decode cX7_carries 89 = .ok (.iload_n 1, 1) := by decide +kernel
theorem dX7_carries_90 : decode cX7_carries 90 = .ok (.iconst 4, 1) := by decide +kernel
theorem dX7_carries_91 : decode cX7_carries 91 = .ok (.iadd, 1) := by decide +kernel
theorem dX7_carries_92 : decode cX7_carries 92 = .ok (.iaload, 1) := by decide +kernel
theorem dX7_carries_93 : decode cX7_carries 93 = .ok (.invokevirtual 171, 3) := by decide +kernel
theorem dX7_carries_96 : decode cX7_carries 96 = .ok (.ireturn, 1) := by decide +kernel
theorem dX7_carries_97 : decode cX7_carries 97 = .ok (.aload_n 0, 1) := by decide +kernel
theorem dX7_carries_98 : decode cX7_carries 98 = .ok (.aload_n 0, 1) := by decide +kernel
theorem dX7_carries_99 : decode cX7_carries 99 = .ok (.getfield 40, 3) := by decide +kernel
theorem dX7_carries_102 : decode cX7_carries 102 = .ok (.iload_n 1, 1) := by decide +kernel
theorem dX7_carries_103 : decode cX7_carries 103 = .ok (.iconst 1, 1) := by decide +kernel
theorem dX7_carries_104 : decode cX7_carries 104 = .ok (.iadd, 1) := by decide +kernel
theorem dX7_carries_105 : decode cX7_carries 105 = .ok (.iaload, 1) := by decide +kernel
theorem dX7_carries_106 : decode cX7_carries 106 = .ok (.aload_n 0, 1) := by decide +kernel
theorem dX7_carries_107 : decode cX7_carries 107 = .ok (.getfield 40, 3) := by decide +kernel
theorem dX7_carries_110 : decode cX7_carries 110 = .ok (.iload_n 1, 1) := by decide +kernel
theorem dX7_carries_111 : decode cX7_carries 111 = .ok (.iconst 2, 1) := by decide +kernel
theorem dX7_carries_112 : decode cX7_carries 112 = .ok (.iadd, 1) := by decide +kernel
theorem dX7_carries_113 : decode cX7_carries 113 = .ok (.iaload, 1) := by decide +kernel
theorem dX7_carries_114 : decode cX7_carries 114 = .ok (.aload_n 0, 1) := by decide +kernel
theorem dX7_carries_115 : decode cX7_carries 115 = .ok (.getfield 40, 3) := by decide +kernel
theorem dX7_carries_118 : decode cX7_carries 118 = .ok (.iload_n 1, 1) := by decide +kernel
theorem dX7_carries_119 : decode cX7_carries 119 = .ok (.iconst 3, 1) := by decide +kernel
theorem dX7_carries_120 : decode cX7_carries 120 = .ok (.iadd, 1) := by decide +kernel
theorem dX7_carries_121 : decode cX7_carries 121 = .ok (.iaload, 1) := by decide +kernel
theorem dX7_carries_122 : decode cX7_carries 122 = .ok (.invokevirtual 175, 3) := by decide +kernel
theorem dX7_carries_125 : decode cX7_carries 125 = .ok (.ireturn, 1) := by decide +kernel
theorem dX7_carries_126 : decode cX7_carries 126 = .ok (.aload_n 0, 1) := by decide +kernel
theorem dX7_carries_127 : decode cX7_carries 127 = .ok (.aload_n 0, 1) := by decide +kernel
theorem dX7_carries_128 : decode cX7_carries 128 = .ok (.getfield 40, 3) := by decide +kernel
theorem dX7_carries_131 : decode cX7_carries 131 = .ok (.iload_n 1, 1) := by decide +kernel
theorem dX7_carries_132 : decode cX7_carries 132 = .ok (.iconst 1, 1) := by decide +kernel
theorem dX7_carries_133 : decode cX7_carries 133 = .ok (.iadd, 1) := by decide +kernel
theorem dX7_carries_134 : decode cX7_carries 134 = .ok (.iaload, 1) := by decide +kernel
theorem dX7_carries_135 : decode cX7_carries 135 = .ok (.aload_n 0, 1) := by decide +kernel
theorem dX7_carries_136 : decode cX7_carries 136 = .ok (.getfield 40, 3) := by decide +kernel
theorem dX7_carries_139 : decode cX7_carries 139 = .ok (.iload_n 1, 1) := by decide +kernel
theorem dX7_carries_140 : decode cX7_carries 140 = .ok (.iconst 2, 1) := by decide +kernel
theorem dX7_carries_141 : decode cX7_carries 141 = .ok (.iadd, 1) := by decide +kernel
theorem dX7_carries_142 : decode cX7_carries 142 = .ok (.iaload, 1) := by decide +kernel
theorem dX7_carries_143 : decode cX7_carries 143 = .ok (.invokevirtual 178, 3) := by decide +kernel
theorem dX7_carries_146 : decode cX7_carries 146 = .ok (.ireturn, 1) := by decide +kernel
theorem dX7_carries_147 : decode cX7_carries 147 = .ok (.aload_n 0, 1) := by decide +kernel
theorem dX7_carries_148 : decode cX7_carries 148 = .ok (.aload_n 0, 1) := by decide +kernel
theorem dX7_carries_149 : decode cX7_carries 149 = .ok (.getfield 40, 3) := by decide +kernel
theorem dX7_carries_152 : decode cX7_carries 152 = .ok (.iload_n 1, 1) := by decide +kernel
theorem dX7_carries_153 : decode cX7_carries 153 = .ok (.iconst 1, 1) := by decide +kernel
theorem dX7_carries_154 : decode cX7_carries 154 = .ok (.iadd, 1) := by decide +kernel
theorem dX7_carries_155 : decode cX7_carries 155 = .ok (.iaload, 1) := by decide +kernel
theorem dX7_carries_156 : decode cX7_carries 156 = .ok (.invokevirtual 181, 3) := by decide +kernel
theorem dX7_carries_159 : decode cX7_carries 159 = .ok (.ireturn, 1) := by decide +kernel
theorem dX7_carries_160 : decode cX7_carries 160 = .ok (.aload_n 0, 1) := by decide +kernel
theorem dX7_carries_161 : decode cX7_carries 161 = .ok (.aload_n 0, 1) := by decide +kernel
theorem dX7_carries_162 : decode cX7_carries 162 = .ok (.getfield 40, 3) := by decide +kernel
theorem dX7_carries_165 : decode cX7_carries 165 = .ok (.iload_n 1, 1) := by decide +kernel
theorem dX7_carries_166 : decode cX7_carries 166 = .ok (.iconst 1, 1) := by decide +kernel
theorem dX7_carries_167 : decode cX7_carries 167 = .ok (.iadd, 1) := by decide +kernel
theorem dX7_carries_168 : decode cX7_carries 168 = .ok (.iaload, 1) := by decide +kernel
theorem dX7_carries_169 : decode cX7_carries 169 = .ok (.invokevirtual 184, 3) := by decide +kernel
theorem dX7_carries_172 : decode cX7_carries 172 = .ok (.ireturn, 1) := by decide +kernel
theorem dX7_carries_173 : decode cX7_carries 173 = .ok (.aload_n 0, 1) := by decide +kernel
theorem dX7_carries_174 : decode cX7_carries 174 = .ok (.aload_n 0, 1) := by decide +kernel
theorem dX7_carries_175 : decode cX7_carries 175 = .ok (.getfield 40, 3) := by decide +kernel
theorem dX7_carries_178 : decode cX7_carries 178 = .ok (.iload_n 1, 1) := by decide +kernel
theorem dX7_carries_179 : decode cX7_carries 179 = .ok (.iconst 1, 1) := by decide +kernel
theorem dX7_carries_180 : decode cX7_carries 180 = .ok (.iadd, 1) := by decide +kernel
theorem dX7_carries_181 : decode cX7_carries 181 = .ok (.iaload, 1) := by decide +kernel
theorem dX7_carries_182 : decode cX7_carries 182 = .ok (.invokevirtual 187, 3) := by decide +kernel
theorem dX7_carries_185 : decode cX7_carries 185 = .ok (.ireturn, 1) := by decide +kernel
theorem dX7_commands_0 : decode cX7_commands 0 = .ok (.aload_n 0, 1) := by decide +kernel
theorem dX7_commands_1 : decode cX7_commands 1 = .ok (.invokevirtual 190, 3) := by decide +kernel
theorem dX7_commands_4 : decode cX7_commands 4 = .ok (.istore_n 1, 1) := by decide +kernel
theorem dX7_commands_5 : decode cX7_commands 5 = .ok (.aload_n 0, 1) := by decide +kernel
theorem dX7_commands_6 : decode cX7_commands 6 = .ok (.iload_n 1, 1) := by decide +kernel
theorem dX7_commands_7 : decode cX7_commands 7 = .ok (.ifCond .eq 7, 3) := by decide +kernel
theorem dX7_commands_10 : decode cX7_commands 10 = .ok (.iconst (-1), 1) := by decide +kernel
theorem dX7_commands_11 : decode cX7_commands 11 = .ok (.goto 7, 3) := by decide +kernel
theorem dX7_commands_14 : decode cX7_commands 14 = .ok (.aload_n 0, 1) := by decide +kernel
theorem dX7_commands_15 : decode cX7_commands 15 = .ok (.getfield 149, 3) := by decide +kernel
theorem dX7_commands_18 : decode cX7_commands 18 = .ok (.putfield 28, 3) := by decide +kernel
theorem dX7_commands_21 : decode cX7_commands 21 = .ok (.aload_n 0, 1) := by decide +kernel
theorem dX7_commands_22 : decode cX7_commands 22 = .ok (.iconst 0, 1) := by decide +kernel
theorem dX7_commands_23 : decode cX7_commands 23 = .ok (.putfield 146, 3) := by decide +kernel
theorem dX7_commands_26 : decode cX7_commands 26 = .ok (.aload_n 0, 1) := by decide +kernel
theorem dX7_commands_27 : decode cX7_commands 27 = .ok (.iload_n 1, 1) := by decide +kernel
theorem dX7_commands_28 : decode cX7_commands 28 = .ok (.ifCond .eq 7, 3) := by decide +kernel
theorem dX7_commands_31 : decode cX7_commands 31 = .ok (.iconst 0, 1) := by decide +kernel
theorem dX7_commands_32 : decode cX7_commands 32 = .ok (.goto 4, 3) := by decide +kernel
theorem dX7_commands_35 : decode cX7_commands 35 = .ok (.iconst 1, 1) := by decide +kernel
theorem dX7_commands_36 : decode cX7_commands 36 = .ok (.invokevirtual 134, 3) := by decide +kernel
theorem dX7_commands_39 : decode cX7_commands 39 = .ok (.ifCond .eq 5, 3) := by decide +kernel
theorem dX7_commands_42 : decode cX7_commands 42 = .ok (.iconst 0, 1) := by decide +kernel
theorem dX7_commands_43 : decode cX7_commands 43 = .ok (.ireturn, 1) := by decide +kernel
theorem dX7_commands_44 : decode cX7_commands 44 = .ok (.aload_n 0, 1) := by decide +kernel
theorem dX7_commands_45 : decode cX7_commands 45 = .ok (.getfield 7, 3) := by decide +kernel
theorem dX7_commands_48 : decode cX7_commands 48 = .ok (.iconst 0, 1) := by decide +kernel
theorem dX7_commands_49 : decode cX7_commands 49 = .ok (.aload_n 0, 1) := by decide +kernel
theorem dX7_commands_50 : decode cX7_commands 50 = .ok (.getfield 19, 3) := by decide +kernel
theorem dX7_commands_53 : decode cX7_commands 53 = .ok (.iconst 0, 1) := by decide +kernel
theorem dX7_commands_54 : decode cX7_commands 54 = .ok (.invokestatic 65, 3) := by decide +kernel
theorem dX7_commands_57 : decode cX7_commands 57 = .ok (.aload_n 0, 1) := by decide +kernel
theorem dX7_commands_58 : decode cX7_commands 58 = .ok (.iconst 1, 1) := by decide +kernel
theorem dX7_commands_59 : decode cX7_commands 59 = .ok (.putfield 52, 3) := by decide +kernel
theorem dX7_commands_62 : decode cX7_commands 62 = .ok (.aload_n 0, 1) := by decide +kernel
theorem dX7_commands_63 : decode cX7_commands 63 = .ok (.iconst 0, 1) := by decide +kernel
theorem dX7_commands_64 : decode cX7_commands 64 = .ok (.putfield 56, 3) := by decide +kernel
theorem dX7_commands_67 : decode cX7_commands 67 = .ok (.iconst 0, 1) := by decide +kernel
theorem dX7_commands_68 : decode cX7_commands 68 = .ok (.istore_n 2, 1) := by decide +kernel
theorem dX7_commands_69 : decode cX7_commands 69 = .ok (.aload_n 0, 1) := by decide +kernel
theorem dX7_commands_70 : decode cX7_commands 70 = .ok (.getfield 56, 3) := by decide +kernel
theorem dX7_commands_73 : decode cX7_commands 73 = .ok (.aload_n 0, 1) := by decide +kernel
theorem dX7_commands_74 : decode cX7_commands 74 = .ok (.getfield 161, 3) := by decide +kernel
theorem dX7_commands_77 : decode cX7_commands 77 = .ok (.if_icmp .ge 42, 3) := by decide +kernel
theorem dX7_commands_80 : decode cX7_commands 80 = .ok (.aload_n 0, 1) := by decide +kernel
theorem dX7_commands_81 : decode cX7_commands 81 = .ok (.getfield 43, 3) := by decide +kernel
theorem dX7_commands_84 : decode cX7_commands 84 = .ok (.ifCond .ne 35, 3) := by decide +kernel
theorem dX7_commands_87 : decode cX7_commands 87 = .ok (.aload_n 0, 1) := by decide +kernel
theorem dX7_commands_88 : decode cX7_commands 88 = .ok (.bipush 6, 2) := by decide +kernel
theorem dX7_commands_90 : decode cX7_commands 90 = .ok (.aload_n 0, 1) := by decide +kernel
theorem dX7_commands_91 : decode cX7_commands 91 = .ok (.getfield 56, 3) := by decide +kernel
theorem dX7_commands_94 : decode cX7_commands 94 = .ok (.imul, 1) := by decide +kernel
theorem dX7_commands_95 : decode cX7_commands 95 = .ok (.invokevirtual 193, 3) := by decide +kernel
theorem dX7_commands_98 : decode cX7_commands 98 = .ok (.istore_n 2, 1) := by decide +kernel
theorem dX7_commands_99 : decode cX7_commands 99 = .ok (.aload_n 0, 1) := by decide +kernel
theorem dX7_commands_100 : decode cX7_commands 100 = .ok (.getfield 43, 3) := by decide +kernel
theorem dX7_commands_103 : decode cX7_commands 103 = .ok (.ifCond .ne (-34), 3) := by decide +kernel
theorem dX7_commands_106 : decode cX7_commands 106 = .ok (.aload_n 0, 1) := by decide +kernel
theorem dX7_commands_107 : decode cX7_commands 107 = .ok (.dup, 1) := by decide +kernel
theorem dX7_commands_108 : decode cX7_commands 108 = .ok (.getfield 56, 3) := by decide +kernel
theorem dX7_commands_111 : decode cX7_commands 111 = .ok (.iconst 1, 1) := by decide +kernel
theorem dX7_commands_112 : decode cX7_commands 112 = .ok (.iadd, 1) := by decide +kernel
theorem dX7_commands_113 : decode cX7_commands 113 = .ok (.putfield 56, 3) := by decide +kernel
theorem dX7_commands_116 : decode cX7_commands 116 = .ok (.goto (-47), 3) := by decide +kernel
theorem dX7_commands_119 : decode cX7_commands 119 = .ok (.aload_n 0, 1) := by decide +kernel
theorem dX7_commands_120 : decode cX7_commands 120 = .ok (.iconst 0, 1) := by decide +kernel
theorem dX7_commands_121 : decode cX7_commands 121 = .ok (.putfield 52, 3) := by decide +kernel
theorem dX7_commands_124 : decode cX7_commands 124 = .ok (.aload_n 0, 1) := by decide +kernel
theorem dX7_commands_125 : decode cX7_commands 125 = .ok (.getfield 43, 3) := by decide +kernel
theorem dX7_commands_128 : decode cX7_commands 128 = .ok (.ifCond .le 31, 3) := by decide +kernel
theorem dX7_commands_131 : decode cX7_commands 131 = .ok (.aload_n 0, 1) := by decide +kernel
theorem dX7_commands_132 : decode cX7_commands 132 = .ok (.getfield 19, 3) := by decide +kernel
theorem dX7_commands_135 : decode cX7_commands 135 = .ok (.iconst 0, 1) := by decide +kernel
theorem dX7_commands_136 : decode cX7_commands 136 = .ok (.aload_n 0, 1) := by decide +kernel
theorem dX7_commands_137 : decode cX7_commands 137 = .ok (.getfield 7, 3) := by decide +kernel
theorem dX7_commands_140 : decode cX7_commands 140 = .ok (.iconst 0, 1) := by decide +kernel
theorem dX7_commands_141 : decode cX7_commands 141 = .ok (.invokestatic 65, 3) := by decide +kernel
theorem dX7_commands_144 : decode cX7_commands 144 = .ok (.aload_n 0, 1) := by decide +kernel
theorem dX7_commands_145 : decode cX7_commands 145 = .ok (.iconst 2, 1) := by decide +kernel
theorem dX7_commands_146 : decode cX7_commands 146 = .ok (.putfield 43, 3) := by decide +kernel
theorem dX7_commands_149 : decode cX7_commands 149 = .ok (.iload_n 2, 1) := by decide +kernel
theorem dX7_commands_150 : decode cX7_commands 150 = .ok (.ifCond .le 7, 3) := by decide +kernel
theorem dX7_commands_153 : decode cX7_commands 153 = .ok (.iconst 0, 1) := by decide +kernel
theorem dX7_commands_154 : decode cX7_commands 154 = .ok (.goto 4, 3) := by decide +kernel
theorem dX7_commands_157 : decode cX7_commands 157 = .ok (.iload_n 2, 1) := by decide +kernel
theorem dX7_commands_158 : decode cX7_commands 158 = .ok (.ireturn, 1) := by decide +kernel
theorem dX7_commands_159 : decode cX7_commands 159 = .ok (.aload_n 0, 1) := by decide +kernel
theorem dX7_commands_160 : decode cX7_commands 160 = .ok (.aload_n 0, 1) := by decide +kernel
theorem dX7_commands_161 : decode cX7_commands 161 = .ok (.getfield 19, 3) := by decide +kernel
theorem dX7_commands_164 : decode cX7_commands 164 = .ok (.invokevirtual 95, 3) := by decide +kernel
theorem dX7_commands_167 : decode cX7_commands 167 = .ok (.aload_n 0, 1) := by decide +kernel
theorem dX7_commands_168 : decode cX7_commands 168 = .ok (.getfield 161, 3) := by decide +kernel
theorem dX7_commands_171 : decode cX7_commands 171 = .ok (.ireturn, 1) := by decide +kernel
theorem dX7_faultPosition_0 : decode cX7_faultPosition 0 = .ok (.aload_n 0, 1) := by decide +kernel
theorem dX7_faultPosition_1 : decode cX7_faultPosition 1 = .ok (.iconst 0, 1) := by decide +kernel
theorem dX7_faultPosition_2 : decode cX7_faultPosition 2 = .ok (.putfield 43, 3) := by decide +kernel
theorem dX7_faultPosition_5 : decode cX7_faultPosition 5 = .ok (.aload_n 0, 1) := by decide +kernel
theorem dX7_faultPosition_6 : decode cX7_faultPosition 6 = .ok (.getfield 28, 3) := by decide +kernel
theorem dX7_faultPosition_9 : decode cX7_faultPosition 9 = .ok (.ireturn, 1) := by decide +kernel
theorem dX7_reason_0 : decode cX7_reason 0 = .ok (.aload_n 0, 1) := by decide +kernel
theorem dX7_reason_1 : decode cX7_reason 1 = .ok (.iload_n 1, 1) := by decide +kernel
theorem dX7_reason_2 : decode cX7_reason 2 = .ok (.iconst 0, 1) := by decide +kernel
theorem dX7_reason_3 : decode cX7_reason 3 = .ok (.iconst 2, 1) := by decide +kernel
theorem dX7_reason_4 : decode cX7_reason 4 = .ok (.invokestatic 69, 3) := by decide +kernel
theorem dX7_reason_7 : decode cX7_reason 7 = .ok (.ifCond .ne 7, 3) := by decide +kernel
theorem dX7_reason_10 : decode cX7_reason 10 = .ok (.iconst 1, 1) := by decide +kernel
theorem dX7_reason_11 : decode cX7_reason 11 = .ok (.goto 15, 3) := by decide +kernel
theorem dX7_reason_14 : decode cX7_reason 14 = .ok (.aload_n 0, 1) := by decide +kernel
theorem dX7_reason_15 : decode cX7_reason 15 = .ok (.getfield 46, 3) := by decide +kernel
theorem dX7_reason_18 : decode cX7_reason 18 = .ok (.ifCond .ne 7, 3) := by decide +kernel
theorem dX7_reason_21 : decode cX7_reason 21 = .ok (.iconst 2, 1) := by decide +kernel
theorem dX7_reason_22 : decode cX7_reason 22 = .ok (.goto 4, 3) := by decide +kernel
theorem dX7_reason_25 : decode cX7_reason 25 = .ok (.iconst 0, 1) := by decide +kernel
theorem dX7_reason_26 : decode cX7_reason 26 = .ok (.invokevirtual 134, 3) := by decide +kernel
theorem dX7_reason_29 : decode cX7_reason 29 = .ok (.ifCond .eq 7, 3) := by decide +kernel
theorem dX7_reason_32 : decode cX7_reason 32 = .ok (.iconst 0, 1) := by decide +kernel
theorem dX7_reason_33 : decode cX7_reason 33 = .ok (.goto 30, 3) := by decide +kernel
theorem dX7_reason_36 : decode cX7_reason 36 = .ok (.iload_n 1, 1) := by decide +kernel
theorem dX7_reason_37 : decode cX7_reason 37 = .ok (.ifCond .ne 10, 3) := by decide +kernel
theorem dX7_reason_40 : decode cX7_reason 40 = .ok (.aload_n 0, 1) := by decide +kernel
theorem dX7_reason_41 : decode cX7_reason 41 = .ok (.getfield 46, 3) := by decide +kernel
theorem dX7_reason_44 : decode cX7_reason 44 = .ok (.goto 19, 3) := by decide +kernel
theorem dX7_reason_47 : decode cX7_reason 47 = .ok (.iload_n 1, 1) := by decide +kernel
theorem dX7_reason_48 : decode cX7_reason 48 = .ok (.iconst 1, 1) := by decide +kernel
theorem dX7_reason_49 : decode cX7_reason 49 = .ok (.if_icmp .ne 10, 3) := by decide +kernel
theorem dX7_reason_52 : decode cX7_reason 52 = .ok (.aload_n 0, 1) := by decide +kernel
theorem dX7_reason_53 : decode cX7_reason 53 = .ok (.getfield 49, 3) := by decide +kernel
theorem dX7_reason_56 : decode cX7_reason 56 = .ok (.goto 7, 3) := by decide +kernel
theorem dX7_reason_59 : decode cX7_reason 59 = .ok (.aload_n 0, 1) := by decide +kernel
theorem dX7_reason_60 : decode cX7_reason 60 = .ok (.getfield 59, 3) := by decide +kernel
theorem dX7_reason_63 : decode cX7_reason 63 = .ok (.ireturn, 1) := by decide +kernel
theorem dX7_writes_0 : decode cX7_writes 0 = .ok (.aload_n 0, 1) := by decide +kernel
theorem dX7_writes_1 : decode cX7_writes 1 = .ok (.getfield 32, 3) := by decide +kernel
theorem dX7_writes_4 : decode cX7_writes 4 = .ok (.aload_n 0, 1) := by decide +kernel
theorem dX7_writes_5 : decode cX7_writes 5 = .ok (.getfield 196, 3) := by decide +kernel
theorem dX7_writes_8 : decode cX7_writes 8 = .ok (.iload_n 1, 1) := by decide +kernel
theorem dX7_writes_9 : decode cX7_writes 9 = .ok (.i2c, 1) := by decide +kernel
theorem dX7_writes_10 : decode cX7_writes 10 = .ok (.castore, 1) := by decide +kernel
theorem dX7_writes_11 : decode cX7_writes 11 = .ok (.aload_n 0, 1) := by decide +kernel
theorem dX7_writes_12 : decode cX7_writes 12 = .ok (.dup, 1) := by decide +kernel
theorem dX7_writes_13 : decode cX7_writes 13 = .ok (.getfield 196, 3) := by decide +kernel
theorem dX7_writes_16 : decode cX7_writes 16 = .ok (.iconst 1, 1) := by decide +kernel
theorem dX7_writes_17 : decode cX7_writes 17 = .ok (.iadd, 1) := by decide +kernel
theorem dX7_writes_18 : decode cX7_writes 18 = .ok (.putfield 196, 3) := by decide +kernel
theorem dX7_writes_21 : decode cX7_writes 21 = .ok (.return_, 1) := by decide +kernel
theorem dX7_line_0 : decode cX7_line 0 = .ok (.aload_n 0, 1) := by decide +kernel
theorem dX7_line_1 : decode cX7_line 1 = .ok (.iload_n 1, 1) := by decide +kernel
theorem dX7_line_2 : decode cX7_line 2 = .ok (.iconst 0, 1) := by decide +kernel
theorem dX7_line_3 : decode cX7_line 3 = .ok (.iconst 5, 1) := by decide +kernel
theorem dX7_line_4 : decode cX7_line 4 = .ok (.invokestatic 69, 3) := by decide +kernel
theorem dX7_line_7 : decode cX7_line 7 = .ok (.ifCond .eq 7, 3) := by decide +kernel
theorem dX7_line_10 : decode cX7_line 10 = .ok (.iconst 0, 1) := by decide +kernel
theorem dX7_line_11 : decode cX7_line 11 = .ok (.goto 4, 3) := by decide +kernel
theorem dX7_line_14 : decode cX7_line 14 = .ok (.iconst 1, 1) := by decide +kernel
theorem dX7_line_15 : decode cX7_line 15 = .ok (.invokevirtual 134, 3) := by decide +kernel
theorem dX7_line_18 : decode cX7_line 18 = .ok (.ifCond .eq 5, 3) := by decide +kernel
theorem dX7_line_21 : decode cX7_line 21 = .ok (.iconst 0, 1) := by decide +kernel
theorem dX7_line_22 : decode cX7_line 22 = .ok (.ireturn, 1) := by decide +kernel
theorem dX7_line_23 : decode cX7_line 23 = .ok (.aload_n 0, 1) := by decide +kernel
theorem dX7_line_24 : decode cX7_line 24 = .ok (.iconst 0, 1) := by decide +kernel
theorem dX7_line_25 : decode cX7_line 25 = .ok (.putfield 196, 3) := by decide +kernel
theorem dX7_line_28 : decode cX7_line 28 = .ok (.bipush 7, 2) := by decide +kernel
theorem dX7_line_30 : decode cX7_line 30 = .ok (.iload_n 1, 1) := by decide +kernel
theorem dX7_line_31 : decode cX7_line 31 = .ok (.imul, 1) := by decide +kernel
theorem dX7_line_32 : decode cX7_line 32 = .ok (.istore_n 2, 1) := by decide +kernel
theorem dX7_line_33 : decode cX7_line 33 = .ok (.iload_n 2, 1) := by decide +kernel
theorem dX7_line_34 : decode cX7_line 34 = .ok (.bipush 7, 2) := by decide +kernel
theorem dX7_line_36 : decode cX7_line 36 = .ok (.iload_n 1, 1) := by decide +kernel
theorem dX7_line_37 : decode cX7_line 37 = .ok (.imul, 1) := by decide +kernel
theorem dX7_line_38 : decode cX7_line 38 = .ok (.bipush 7, 2) := by decide +kernel
theorem dX7_line_40 : decode cX7_line 40 = .ok (.iadd, 1) := by decide +kernel
theorem dX7_line_41 : decode cX7_line 41 = .ok (.if_icmp .ge 77, 3) := by decide +kernel
theorem dX7_line_44 : decode cX7_line 44 = .ok (.aload_n 0, 1) := by decide +kernel
theorem dX7_line_45 : decode cX7_line 45 = .ok (.aload_n 0, 1) := by decide +kernel
theorem dX7_line_46 : decode cX7_line 46 = .ok (.iload_n 2, 1) := by decide +kernel
theorem dX7_line_47 : decode cX7_line 47 = .ok (.invokevirtual 77, 3) := by decide +kernel
theorem dX7_line_50 : decode cX7_line 50 = .ok (.ifCond .eq 8, 3) := by decide +kernel
theorem dX7_line_53 : decode cX7_line 53 = .ok (.bipush 46, 2) := by decide +kernel
theorem dX7_line_55 : decode cX7_line 55 = .ok (.goto 17, 3) := by decide +kernel
theorem dX7_line_58 : decode cX7_line 58 = .ok (.bipush 48, 2) := by decide +kernel
theorem dX7_line_60 : decode cX7_line 60 = .ok (.aload_n 0, 1) := by decide +kernel
theorem dX7_line_61 : decode cX7_line 61 = .ok (.getfield 7, 3) := by decide +kernel
theorem dX7_line_64 : decode cX7_line 64 = .ok (.bipush 45, 2) := by decide +kernel
theorem dX7_line_66 : decode cX7_line 66 = .ok (.iload_n 2, 1) := by decide +kernel
theorem dX7_line_67 : decode cX7_line 67 = .ok (.iadd, 1) := by decide +kernel
theorem dX7_line_68 : decode cX7_line 68 = .ok (.iaload, 1) := by decide +kernel
theorem dX7_line_69 : decode cX7_line 69 = .ok (.iconst 4, 1) := by decide +kernel
theorem dX7_line_70 : decode cX7_line 70 = .ok (.idiv, 1) := by decide +kernel
theorem dX7_line_71 : decode cX7_line 71 = .ok (.iadd, 1) := by decide +kernel
theorem dX7_line_72 : decode cX7_line 72 = .ok (.invokevirtual 199, 3) := by decide +kernel
theorem dX7_line_75 : decode cX7_line 75 = .ok (.iconst 0, 1) := by decide +kernel
theorem dX7_line_76 : decode cX7_line 76 = .ok (.istore_n 3, 1) := by decide +kernel
theorem dX7_line_77 : decode cX7_line 77 = .ok (.aload_n 0, 1) := by decide +kernel
theorem dX7_line_78 : decode cX7_line 78 = .ok (.iload_n 2, 1) := by decide +kernel
theorem dX7_line_79 : decode cX7_line 79 = .ok (.invokevirtual 77, 3) := by decide +kernel
theorem dX7_line_82 : decode cX7_line 82 = .ok (.ifCond .ne 30, 3) := by decide +kernel
theorem dX7_line_85 : decode cX7_line 85 = .ok (.iload_n 3, 1) := by decide +kernel
theorem dX7_line_86 : decode cX7_line 86 = .ok (.aload_n 0, 1) := by decide +kernel
theorem dX7_line_87 : decode cX7_line 87 = .ok (.getfield 7, 3) := by decide +kernel
theorem dX7_line_90 : decode cX7_line 90 = .ok (.bipush 45, 2) := by decide +kernel
theorem dX7_line_92 : decode cX7_line 92 = .ok (.iload_n 2, 1) := by decide +kernel
theorem dX7_line_93 : decode cX7_line 93 = .ok (.iadd, 1) := by decide +kernel
theorem dX7_line_94 : decode cX7_line 94 = .ok (.iaload, 1) := by decide +kernel
theorem dX7_line_95 : decode cX7_line 95 = .ok (.iconst 4, 1) := by decide +kernel
theorem dX7_line_96 : decode cX7_line 96 = .ok (.irem, 1) := by decide +kernel
theorem dX7_line_97 : decode cX7_line 97 = .ok (.if_icmp .ge 15, 3) := by decide +kernel
theorem dX7_line_100 : decode cX7_line 100 = .ok (.aload_n 0, 1) := by decide +kernel
theorem dX7_line_101 : decode cX7_line 101 = .ok (.bipush 42, 2) := by decide +kernel
theorem dX7_line_103 : decode cX7_line 103 = .ok (.invokevirtual 199, 3) := by decide +kernel
theorem dX7_line_106 : decode cX7_line 106 = .ok (.iinc 3 1, 3) := by decide +kernel
theorem dX7_line_109 : decode cX7_line 109 = .ok (.goto (-32), 3) := by decide +kernel
theorem dX7_line_112 : decode cX7_line 112 = .ok (.iinc 2 1, 3) := by decide +kernel
theorem dX7_line_115 : decode cX7_line 115 = .ok (.goto (-82), 3) := by decide +kernel
theorem dX7_line_118 : decode cX7_line 118 = .ok (.aload_n 0, 1) := by decide +kernel
theorem dX7_line_119 : decode cX7_line 119 = .ok (.getfield 196, 3) := by decide +kernel
theorem dX7_line_122 : decode cX7_line 122 = .ok (.ireturn, 1) := by decide +kernel
theorem dX7_character_0 : decode cX7_character 0 = .ok (.aload_n 0, 1) := by decide +kernel
theorem dX7_character_1 : decode cX7_character 1 = .ok (.iload_n 1, 1) := by decide +kernel
theorem dX7_character_2 : decode cX7_character 2 = .ok (.iconst 0, 1) := by decide +kernel
theorem dX7_character_3 : decode cX7_character 3 = .ok (.aload_n 0, 1) := by decide +kernel
theorem dX7_character_4 : decode cX7_character 4 = .ok (.getfield 196, 3) := by decide +kernel
theorem dX7_character_7 : decode cX7_character 7 = .ok (.iconst 1, 1) := by decide +kernel
theorem dX7_character_8 : decode cX7_character 8 = .ok (.isub, 1) := by decide +kernel
theorem dX7_character_9 : decode cX7_character 9 = .ok (.invokestatic 69, 3) := by decide +kernel
theorem dX7_character_12 : decode cX7_character 12 = .ok (.ifCond .eq 7, 3) := by decide +kernel
theorem dX7_character_15 : decode cX7_character 15 = .ok (.iconst 0, 1) := by decide +kernel
theorem dX7_character_16 : decode cX7_character 16 = .ok (.goto 4, 3) := by decide +kernel
theorem dX7_character_19 : decode cX7_character 19 = .ok (.iconst 1, 1) := by decide +kernel
theorem dX7_character_20 : decode cX7_character 20 = .ok (.invokevirtual 134, 3) := by decide +kernel
theorem dX7_character_23 : decode cX7_character 23 = .ok (.ifCond .eq 8, 3) := by decide +kernel
theorem dX7_character_26 : decode cX7_character 26 = .ok (.bipush 32, 2) := by decide +kernel
theorem dX7_character_28 : decode cX7_character 28 = .ok (.goto 9, 3) := by decide +kernel
theorem dX7_character_31 : decode cX7_character 31 = .ok (.aload_n 0, 1) := by decide +kernel
theorem dX7_character_32 : decode cX7_character 32 = .ok (.getfield 32, 3) := by decide +kernel
theorem dX7_character_35 : decode cX7_character 35 = .ok (.iload_n 1, 1) := by decide +kernel
theorem dX7_character_36 : decode cX7_character 36 = .ok (.caload, 1) := by decide +kernel
theorem dX7_character_37 : decode cX7_character 37 = .ok (.ireturn, 1) := by decide +kernel
theorem dX7_meanHold_0 : decode cX7_meanHold 0 = .ok (.aload_n 0, 1) := by decide +kernel
theorem dX7_meanHold_1 : decode cX7_meanHold 1 = .ok (.aload_n 0, 1) := by decide +kernel
theorem dX7_meanHold_2 : decode cX7_meanHold 2 = .ok (.invokevirtual 143, 3) := by decide +kernel
theorem dX7_meanHold_5 : decode cX7_meanHold 5 = .ok (.ifCond .ne 7, 3) := by decide +kernel
theorem dX7_meanHold_8 : decode cX7_meanHold 8 = .ok (.iconst 1, 1) := by decide +kernel
theorem dX7_meanHold_9 : decode cX7_meanHold 9 = .ok (.goto 4, 3) := by decide +kernel
theorem dX7_meanHold_12 : decode cX7_meanHold 12 = .ok (.iconst 0, 1) := by decide +kernel
theorem dX7_meanHold_13 : decode cX7_meanHold 13 = .ok (.invokevirtual 134, 3) := by decide +kernel
theorem dX7_meanHold_16 : decode cX7_meanHold 16 = .ok (.ifCond .eq 7, 3) := by decide +kernel
theorem dX7_meanHold_19 : decode cX7_meanHold 19 = .ok (.dconst 0, 1) := by decide +kernel
theorem dX7_meanHold_20 : decode cX7_meanHold 20 = .ok (.goto 14, 3) := by decide +kernel
theorem dX7_meanHold_23 : decode cX7_meanHold 23 = .ok (.aload_n 0, 1) := by decide +kernel
theorem dX7_meanHold_24 : decode cX7_meanHold 24 = .ok (.invokevirtual 140, 3) := by decide +kernel
theorem dX7_meanHold_27 : decode cX7_meanHold 27 = .ok (.i2d, 1) := by decide +kernel
theorem dX7_meanHold_28 : decode cX7_meanHold 28 = .ok (.aload_n 0, 1) := by decide +kernel
theorem dX7_meanHold_29 : decode cX7_meanHold 29 = .ok (.invokevirtual 143, 3) := by decide +kernel
theorem dX7_meanHold_32 : decode cX7_meanHold 32 = .ok (.i2d, 1) := by decide +kernel
theorem dX7_meanHold_33 : decode cX7_meanHold 33 = .ok (.ddiv, 1) := by decide +kernel
theorem dX7_meanHold_34 : decode cX7_meanHold 34 = .ok (.dreturn, 1) := by decide +kernel
theorem dX7_standing_0 : decode cX7_standing 0 = .ok (.aload_n 0, 1) := by decide +kernel
theorem dX7_standing_1 : decode cX7_standing 1 = .ok (.aload_n 0, 1) := by decide +kernel
theorem dX7_standing_2 : decode cX7_standing 2 = .ok (.invokevirtual 143, 3) := by decide +kernel
theorem dX7_standing_5 : decode cX7_standing 5 = .ok (.ifCond .ne 7, 3) := by decide +kernel
theorem dX7_standing_8 : decode cX7_standing 8 = .ok (.iconst 1, 1) := by decide +kernel
theorem dX7_standing_9 : decode cX7_standing 9 = .ok (.goto 4, 3) := by decide +kernel
theorem dX7_standing_12 : decode cX7_standing 12 = .ok (.iconst 0, 1) := by decide +kernel
theorem dX7_standing_13 : decode cX7_standing 13 = .ok (.invokevirtual 134, 3) := by decide +kernel
theorem dX7_standing_16 : decode cX7_standing 16 = .ok (.ifCond .eq 7, 3) := by decide +kernel
theorem dX7_standing_19 : decode cX7_standing 19 = .ok (.fconst 0, 1) := by decide +kernel
theorem dX7_standing_20 : decode cX7_standing 20 = .ok (.goto 14, 3) := by decide +kernel
theorem dX7_standing_23 : decode cX7_standing 23 = .ok (.aload_n 0, 1) := by decide +kernel
theorem dX7_standing_24 : decode cX7_standing 24 = .ok (.invokevirtual 88, 3) := by decide +kernel
theorem dX7_standing_27 : decode cX7_standing 27 = .ok (.i2f, 1) := by decide +kernel
theorem dX7_standing_28 : decode cX7_standing 28 = .ok (.aload_n 0, 1) := by decide +kernel
theorem dX7_standing_29 : decode cX7_standing 29 = .ok (.invokevirtual 143, 3) := by decide +kernel
theorem dX7_standing_32 : decode cX7_standing 32 = .ok (.i2f, 1) := by decide +kernel
theorem dX7_standing_33 : decode cX7_standing 33 = .ok (.fdiv, 1) := by decide +kernel
theorem dX7_standing_34 : decode cX7_standing 34 = .ok (.freturn, 1) := by decide +kernel
theorem dX7_pairs_0 : decode cX7_pairs 0 = .ok (.iconst 0, 1) := by decide +kernel
theorem dX7_pairs_1 : decode cX7_pairs 1 = .ok (.istore_n 1, 1) := by decide +kernel
theorem dX7_pairs_2 : decode cX7_pairs 2 = .ok (.iconst 0, 1) := by decide +kernel
theorem dX7_pairs_3 : decode cX7_pairs 3 = .ok (.istore_n 2, 1) := by decide +kernel
theorem dX7_pairs_4 : decode cX7_pairs 4 = .ok (.iload_n 2, 1) := by decide +kernel
theorem dX7_pairs_5 : decode cX7_pairs 5 = .ok (.bipush 42, 2) := by decide +kernel
theorem dX7_pairs_7 : decode cX7_pairs 7 = .ok (.if_icmp .ge 58, 3) := by decide +kernel
theorem dX7_pairs_10 : decode cX7_pairs 10 = .ok (.iconst 1, 1) := by decide +kernel
theorem dX7_pairs_11 : decode cX7_pairs 11 = .ok (.istore_n 3, 1) := by decide +kernel
theorem dX7_pairs_12 : decode cX7_pairs 12 = .ok (.iload_n 3, 1) := by decide +kernel
theorem dX7_pairs_13 : decode cX7_pairs 13 = .ok (.iconst 3, 1) := by decide +kernel
theorem dX7_pairs_14 : decode cX7_pairs 14 = .ok (.if_icmp .ge 45, 3) := by decide +kernel
theorem dX7_pairs_17 : decode cX7_pairs 17 = .ok (.iload_n 1, 1) := by decide +kernel
theorem dX7_pairs_18 : decode cX7_pairs 18 = .ok (.aload_n 0, 1) := by decide +kernel
theorem dX7_pairs_19 : decode cX7_pairs 19 = .ok (.iload_n 2, 1) := by decide +kernel
theorem dX7_pairs_20 : decode cX7_pairs 20 = .ok (.invokevirtual 77, 3) := by decide +kernel
theorem dX7_pairs_23 : decode cX7_pairs 23 = .ok (.ifCond .ne 27, 3) := by decide +kernel
theorem dX7_pairs_26 : decode cX7_pairs 26 = .ok (.iload_n 2, 1) := by decide +kernel
theorem dX7_pairs_27 : decode cX7_pairs 27 = .ok (.iload_n 3, 1) := by decide +kernel
theorem dX7_pairs_28 : decode cX7_pairs 28 = .ok (.invokestatic 73, 3) := by decide +kernel
theorem dX7_pairs_31 : decode cX7_pairs 31 = .ok (.ifCond .lt 19, 3) := by decide +kernel
theorem dX7_pairs_34 : decode cX7_pairs 34 = .ok (.aload_n 0, 1) := by decide +kernel
theorem dX7_pairs_35 : decode cX7_pairs 35 = .ok (.iload_n 2, 1) := by decide +kernel
theorem dX7_pairs_36 : decode cX7_pairs 36 = .ok (.iload_n 3, 1) := by decide +kernel
theorem dX7_pairs_37 : decode cX7_pairs 37 = .ok (.invokestatic 73, 3) := by decide +kernel
theorem dX7_pairs_40 : decode cX7_pairs 40 = .ok (.invokevirtual 77, 3) := by decide +kernel
theorem dX7_pairs_43 : decode cX7_pairs 43 = .ok (.ifCond .ne 7, 3) := by decide +kernel
theorem dX7_pairs_46 : decode cX7_pairs 46 = .ok (.iconst 1, 1) := by decide +kernel
theorem dX7_pairs_47 : decode cX7_pairs 47 = .ok (.goto 4, 3) := by decide +kernel
theorem dX7_pairs_50 : decode cX7_pairs 50 = .ok (.iconst 0, 1) := by decide +kernel
theorem dX7_pairs_51 : decode cX7_pairs 51 = .ok (.iadd, 1) := by decide +kernel
theorem dX7_pairs_52 : decode cX7_pairs 52 = .ok (.istore_n 1, 1) := by decide +kernel
theorem dX7_pairs_53 : decode cX7_pairs 53 = .ok (.iinc 3 1, 3) := by decide +kernel
theorem dX7_pairs_56 : decode cX7_pairs 56 = .ok (.goto (-44), 3) := by decide +kernel
theorem dX7_pairs_59 : decode cX7_pairs 59 = .ok (.iinc 2 1, 3) := by decide +kernel
theorem dX7_pairs_62 : decode cX7_pairs 62 = .ok (.goto (-58), 3) := by decide +kernel
theorem dX7_pairs_65 : decode cX7_pairs 65 = .ok (.iload_n 1, 1) := by decide +kernel
theorem dX7_pairs_66 : decode cX7_pairs 66 = .ok (.ireturn, 1) := by decide +kernel
theorem dX7_account_0 : decode cX7_account 0 = .ok (.aload_n 0, 1) := by decide +kernel
theorem dX7_account_1 : decode cX7_account 1 = .ok (.iload_n 1, 1) := by decide +kernel
theorem dX7_account_2 : decode cX7_account 2 = .ok (.iconst 0, 1) := by decide +kernel
theorem dX7_account_3 : decode cX7_account 3 = .ok (.bipush 9, 2) := by decide +kernel
theorem dX7_account_5 : decode cX7_account 5 = .ok (.invokestatic 69, 3) := by decide +kernel
theorem dX7_account_8 : decode cX7_account 8 = .ok (.ifCond .eq 7, 3) := by decide +kernel
theorem dX7_account_11 : decode cX7_account 11 = .ok (.iconst 0, 1) := by decide +kernel
theorem dX7_account_12 : decode cX7_account 12 = .ok (.goto 4, 3) := by decide +kernel
theorem dX7_account_15 : decode cX7_account 15 = .ok (.iconst 1, 1) := by decide +kernel
theorem dX7_account_16 : decode cX7_account 16 = .ok (.invokevirtual 134, 3) := by decide +kernel
theorem dX7_account_19 : decode cX7_account 19 = .ok (.ifCond .eq 5, 3) := by decide +kernel
theorem dX7_account_22 : decode cX7_account 22 = .ok (.iconst 0, 1) := by decide +kernel
theorem dX7_account_23 : decode cX7_account 23 = .ok (.ireturn, 1) := by decide +kernel
theorem dX7_account_24 : decode cX7_account 24 = .ok (.iload_n 1, 1) := by decide +kernel
theorem dX7_account_25 : decode cX7_account 25 = .ok (.tableswitch 87 0 9 #[55, 62, 87, 87, 87, 87, 67, 72, 77, 82], 55) := by decide +kernel
theorem dX7_account_80 : decode cX7_account 80 = .ok (.aload_n 0, 1) := by decide +kernel
theorem dX7_account_81 : decode cX7_account 81 = .ok (.getfield 7, 3) := by decide +kernel
theorem dX7_account_84 : decode cX7_account 84 = .ok (.iconst 0, 1) := by decide +kernel
theorem dX7_account_85 : decode cX7_account 85 = .ok (.iaload, 1) := by decide +kernel
theorem dX7_account_86 : decode cX7_account 86 = .ok (.ireturn, 1) := by decide +kernel
theorem dX7_account_87 : decode cX7_account 87 = .ok (.aload_n 0, 1) := by decide +kernel
theorem dX7_account_88 : decode cX7_account 88 = .ok (.invokevirtual 143, 3) := by decide +kernel
theorem dX7_account_91 : decode cX7_account 91 = .ok (.ireturn, 1) := by decide +kernel
theorem dX7_account_92 : decode cX7_account 92 = .ok (.aload_n 0, 1) := by decide +kernel
theorem dX7_account_93 : decode cX7_account 93 = .ok (.invokevirtual 140, 3) := by decide +kernel
theorem dX7_account_96 : decode cX7_account 96 = .ok (.ireturn, 1) := by decide +kernel
theorem dX7_account_97 : decode cX7_account 97 = .ok (.aload_n 0, 1) := by decide +kernel
theorem dX7_account_98 : decode cX7_account 98 = .ok (.invokevirtual 203, 3) := by decide +kernel
theorem dX7_account_101 : decode cX7_account 101 = .ok (.ireturn, 1) := by decide +kernel
theorem dX7_account_102 : decode cX7_account 102 = .ok (.aload_n 0, 1) := by decide +kernel
theorem dX7_account_103 : decode cX7_account 103 = .ok (.getfield 62, 3) := by decide +kernel
theorem dX7_account_106 : decode cX7_account 106 = .ok (.ireturn, 1) := by decide +kernel
theorem dX7_account_107 : decode cX7_account 107 = .ok (.aload_n 0, 1) := by decide +kernel
theorem dX7_account_108 : decode cX7_account 108 = .ok (.getfield 146, 3) := by decide +kernel
theorem dX7_account_111 : decode cX7_account 111 = .ok (.ireturn, 1) := by decide +kernel
theorem dX7_account_112 : decode cX7_account 112 = .ok (.aload_n 0, 1) := by decide +kernel
theorem dX7_account_113 : decode cX7_account 113 = .ok (.getfield 7, 3) := by decide +kernel
theorem dX7_account_116 : decode cX7_account 116 = .ok (.iload_n 1, 1) := by decide +kernel
theorem dX7_account_117 : decode cX7_account 117 = .ok (.iaload, 1) := by decide +kernel
theorem dX7_account_118 : decode cX7_account 118 = .ok (.ireturn, 1) := by decide +kernel
theorem dX7_undo_0 : decode cX7_undo 0 = .ok (.aload_n 0, 1) := by decide +kernel
theorem dX7_undo_1 : decode cX7_undo 1 = .ok (.aload_n 0, 1) := by decide +kernel
theorem dX7_undo_2 : decode cX7_undo 2 = .ok (.getfield 62, 3) := by decide +kernel
theorem dX7_undo_5 : decode cX7_undo 5 = .ok (.ifCond .ne 7, 3) := by decide +kernel
theorem dX7_undo_8 : decode cX7_undo 8 = .ok (.iconst 1, 1) := by decide +kernel
theorem dX7_undo_9 : decode cX7_undo 9 = .ok (.goto 4, 3) := by decide +kernel
theorem dX7_undo_12 : decode cX7_undo 12 = .ok (.iconst 0, 1) := by decide +kernel
theorem dX7_undo_13 : decode cX7_undo 13 = .ok (.invokevirtual 134, 3) := by decide +kernel
theorem dX7_undo_16 : decode cX7_undo 16 = .ok (.ifCond .eq 5, 3) := by decide +kernel
theorem dX7_undo_19 : decode cX7_undo 19 = .ok (.iconst 0, 1) := by decide +kernel
theorem dX7_undo_20 : decode cX7_undo 20 = .ok (.ireturn, 1) := by decide +kernel
theorem dX7_undo_21 : decode cX7_undo 21 = .ok (.aload_n 0, 1) := by decide +kernel
theorem dX7_undo_22 : decode cX7_undo 22 = .ok (.dup, 1) := by decide +kernel
theorem dX7_undo_23 : decode cX7_undo 23 = .ok (.getfield 62, 3) := by decide +kernel
theorem dX7_undo_26 : decode cX7_undo 26 = .ok (.iconst 1, 1) := by decide +kernel
theorem dX7_undo_27 : decode cX7_undo 27 = .ok (.isub, 1) := by decide +kernel
theorem dX7_undo_28 : decode cX7_undo 28 = .ok (.putfield 62, 3) := by decide +kernel
theorem dX7_undo_31 : decode cX7_undo 31 = .ok (.aload_n 0, 1) := by decide +kernel
theorem dX7_undo_32 : decode cX7_undo 32 = .ok (.getfield 13, 3) := by decide +kernel
theorem dX7_undo_35 : decode cX7_undo 35 = .ok (.bipush 87, 2) := by decide +kernel
theorem dX7_undo_37 : decode cX7_undo 37 = .ok (.aload_n 0, 1) := by decide +kernel
theorem dX7_undo_38 : decode cX7_undo 38 = .ok (.getfield 62, 3) := by decide +kernel
theorem dX7_undo_41 : decode cX7_undo 41 = .ok (.imul, 1) := by decide +kernel
theorem dX7_undo_42 : decode cX7_undo 42 = .ok (.aload_n 0, 1) := by decide +kernel
theorem dX7_undo_43 : decode cX7_undo 43 = .ok (.getfield 7, 3) := by decide +kernel
theorem dX7_undo_46 : decode cX7_undo 46 = .ok (.iconst 0, 1) := by decide +kernel
theorem dX7_undo_47 : decode cX7_undo 47 = .ok (.invokestatic 65, 3) := by decide +kernel
theorem dX7_undo_50 : decode cX7_undo 50 = .ok (.aload_n 0, 1) := by decide +kernel
theorem dX7_undo_51 : decode cX7_undo 51 = .ok (.getfield 62, 3) := by decide +kernel
theorem dX7_undo_54 : decode cX7_undo 54 = .ok (.ireturn, 1) := by decide +kernel
theorem dX7_save_0 : decode cX7_save 0 = .ok (.aload_n 0, 1) := by decide +kernel
theorem dX7_save_1 : decode cX7_save 1 = .ok (.iconst 0, 1) := by decide +kernel
theorem dX7_save_2 : decode cX7_save 2 = .ok (.putfield 43, 3) := by decide +kernel
theorem dX7_save_5 : decode cX7_save 5 = .ok (.aload_n 0, 1) := by decide +kernel
theorem dX7_save_6 : decode cX7_save 6 = .ok (.iconst 1, 1) := by decide +kernel
theorem dX7_save_7 : decode cX7_save 7 = .ok (.putfield 206, 3) := by decide +kernel
theorem dX7_save_10 : decode cX7_save 10 = .ok (.aload_n 0, 1) := by decide +kernel
theorem dX7_save_11 : decode cX7_save 11 = .ok (.getfield 7, 3) := by decide +kernel
theorem dX7_save_14 : decode cX7_save 14 = .ok (.iconst 0, 1) := by decide +kernel
theorem dX7_save_15 : decode cX7_save 15 = .ok (.aload_n 0, 1) := by decide +kernel
theorem dX7_save_16 : decode cX7_save 16 = .ok (.getfield 16, 3) := by decide +kernel
theorem dX7_save_19 : decode cX7_save 19 = .ok (.iconst 0, 1) := by decide +kernel
theorem dX7_save_20 : decode cX7_save 20 = .ok (.invokestatic 65, 3) := by decide +kernel
theorem dX7_save_23 : decode cX7_save 23 = .ok (.aload_n 0, 1) := by decide +kernel
theorem dX7_save_24 : decode cX7_save 24 = .ok (.invokevirtual 143, 3) := by decide +kernel
theorem dX7_save_27 : decode cX7_save 27 = .ok (.ireturn, 1) := by decide +kernel
theorem dX7_restore_0 : decode cX7_restore 0 = .ok (.aload_n 0, 1) := by decide +kernel
theorem dX7_restore_1 : decode cX7_restore 1 = .ok (.aload_n 0, 1) := by decide +kernel
theorem dX7_restore_2 : decode cX7_restore 2 = .ok (.getfield 206, 3) := by decide +kernel
theorem dX7_restore_5 : decode cX7_restore 5 = .ok (.ifCond .eq 7, 3) := by decide +kernel
theorem dX7_restore_8 : decode cX7_restore 8 = .ok (.iconst 0, 1) := by decide +kernel
theorem dX7_restore_9 : decode cX7_restore 9 = .ok (.goto 4, 3) := by decide +kernel
theorem dX7_restore_12 : decode cX7_restore 12 = .ok (.iconst 1, 1) := by decide +kernel
theorem dX7_restore_13 : decode cX7_restore 13 = .ok (.invokevirtual 134, 3) := by decide +kernel
theorem dX7_restore_16 : decode cX7_restore 16 = .ok (.ifCond .eq 5, 3) := by decide +kernel
theorem dX7_restore_19 : decode cX7_restore 19 = .ok (.iconst 0, 1) := by decide +kernel
theorem dX7_restore_20 : decode cX7_restore 20 = .ok (.ireturn, 1) := by decide +kernel
theorem dX7_restore_21 : decode cX7_restore 21 = .ok (.aload_n 0, 1) := by decide +kernel
theorem dX7_restore_22 : decode cX7_restore 22 = .ok (.getfield 16, 3) := by decide +kernel
theorem dX7_restore_25 : decode cX7_restore 25 = .ok (.iconst 0, 1) := by decide +kernel
theorem dX7_restore_26 : decode cX7_restore 26 = .ok (.aload_n 0, 1) := by decide +kernel
theorem dX7_restore_27 : decode cX7_restore 27 = .ok (.getfield 7, 3) := by decide +kernel
theorem dX7_restore_30 : decode cX7_restore 30 = .ok (.iconst 0, 1) := by decide +kernel
theorem dX7_restore_31 : decode cX7_restore 31 = .ok (.invokestatic 65, 3) := by decide +kernel
theorem dX7_restore_34 : decode cX7_restore 34 = .ok (.aload_n 0, 1) := by decide +kernel
theorem dX7_restore_35 : decode cX7_restore 35 = .ok (.iconst 0, 1) := by decide +kernel
theorem dX7_restore_36 : decode cX7_restore 36 = .ok (.putfield 62, 3) := by decide +kernel
theorem dX7_restore_39 : decode cX7_restore 39 = .ok (.aload_n 0, 1) := by decide +kernel
theorem dX7_restore_40 : decode cX7_restore 40 = .ok (.invokevirtual 143, 3) := by decide +kernel
theorem dX7_restore_43 : decode cX7_restore 43 = .ok (.ireturn, 1) := by decide +kernel
theorem dL_kind_0 : decode cL_kind 0 = .ok (.aload 5, 2) := by decide +kernel
theorem dL_kind_2 : decode cL_kind 2 = .ok (.iconst 0, 1) := by decide +kernel
theorem dL_kind_3 : decode cL_kind 3 = .ok (.aload_n 0, 1) := by decide +kernel
theorem dL_kind_4 : decode cL_kind 4 = .ok (.iload_n 1, 1) := by decide +kernel
theorem dL_kind_5 : decode cL_kind 5 = .ok (.iload_n 2, 1) := by decide +kernel
theorem dL_kind_6 : decode cL_kind 6 = .ok (.iload_n 3, 1) := by decide +kernel
theorem dL_kind_7 : decode cL_kind 7 = .ok (.iload 4, 2) := by decide +kernel
theorem dL_kind_9 : decode cL_kind 9 = .ok (.invokevirtual 7, 3) := by decide +kernel
theorem dL_kind_12 : decode cL_kind 12 = .ok (.i2l, 1) := by decide +kernel
theorem dL_kind_13 : decode cL_kind 13 = .ok (.lastore, 1) := by decide +kernel
theorem dL_kind_14 : decode cL_kind 14 = .ok (.goto 7, 3) := by decide +kernel
theorem dL_kind_17 : decode cL_kind 17 = .ok (.astore 6, 2) := by decide +kernel
theorem dL_kind_19 : decode cL_kind 19 = .ok (.iconst 1, 1) := by decide +kernel
theorem dL_kind_20 : decode cL_kind 20 = .ok (.ireturn, 1) := by decide +kernel
theorem dL_kind_21 : decode cL_kind 21 = .ok (.iconst 0, 1) := by decide +kernel
theorem dL_kind_22 : decode cL_kind 22 = .ok (.ireturn, 1) := by decide +kernel
theorem dL_lay_0 : decode cL_lay 0 = .ok (.aload 4, 2) := by decide +kernel
theorem dL_lay_2 : decode cL_lay 2 = .ok (.iconst 0, 1) := by decide +kernel
theorem dL_lay_3 : decode cL_lay 3 = .ok (.aload_n 0, 1) := by decide +kernel
theorem dL_lay_4 : decode cL_lay 4 = .ok (.iload_n 1, 1) := by decide +kernel
theorem dL_lay_5 : decode cL_lay 5 = .ok (.iload_n 2, 1) := by decide +kernel
theorem dL_lay_6 : decode cL_lay 6 = .ok (.iload_n 3, 1) := by decide +kernel
theorem dL_lay_7 : decode cL_lay 7 = .ok (.invokevirtual 15, 3) := by decide +kernel
theorem dL_lay_10 : decode cL_lay 10 = .ok (.i2l, 1) := by decide +kernel
theorem dL_lay_11 : decode cL_lay 11 = .ok (.lastore, 1) := by decide +kernel
theorem dL_lay_12 : decode cL_lay 12 = .ok (.goto 7, 3) := by decide +kernel
theorem dL_lay_15 : decode cL_lay 15 = .ok (.astore 5, 2) := by decide +kernel
theorem dL_lay_17 : decode cL_lay 17 = .ok (.iconst 1, 1) := by decide +kernel
theorem dL_lay_18 : decode cL_lay 18 = .ok (.ireturn, 1) := by decide +kernel
theorem dL_lay_19 : decode cL_lay 19 = .ok (.iconst 0, 1) := by decide +kernel
theorem dL_lay_20 : decode cL_lay 20 = .ok (.ireturn, 1) := by decide +kernel
theorem dL_takeOut_0 : decode cL_takeOut 0 = .ok (.aload_n 2, 1) := by decide +kernel
theorem dL_takeOut_1 : decode cL_takeOut 1 = .ok (.iconst 0, 1) := by decide +kernel
theorem dL_takeOut_2 : decode cL_takeOut 2 = .ok (.aload_n 0, 1) := by decide +kernel
theorem dL_takeOut_3 : decode cL_takeOut 3 = .ok (.iload_n 1, 1) := by decide +kernel
theorem dL_takeOut_4 : decode cL_takeOut 4 = .ok (.invokevirtual 19, 3) := by decide +kernel
theorem dL_takeOut_7 : decode cL_takeOut 7 = .ok (.i2l, 1) := by decide +kernel
theorem dL_takeOut_8 : decode cL_takeOut 8 = .ok (.lastore, 1) := by decide +kernel
theorem dL_takeOut_9 : decode cL_takeOut 9 = .ok (.goto 6, 3) := by decide +kernel
theorem dL_takeOut_12 : decode cL_takeOut 12 = .ok (.astore_n 3, 1) := by decide +kernel
theorem dL_takeOut_13 : decode cL_takeOut 13 = .ok (.iconst 1, 1) := by decide +kernel
theorem dL_takeOut_14 : decode cL_takeOut 14 = .ok (.ireturn, 1) := by decide +kernel
theorem dL_takeOut_15 : decode cL_takeOut 15 = .ok (.iconst 0, 1) := by decide +kernel
theorem dL_takeOut_16 : decode cL_takeOut 16 = .ok (.ireturn, 1) := by decide +kernel
theorem dL_grow_0 : decode cL_grow 0 = .ok (.aload_n 2, 1) := by decide +kernel
theorem dL_grow_1 : decode cL_grow 1 = .ok (.iconst 0, 1) := by decide +kernel
theorem dL_grow_2 : decode cL_grow 2 = .ok (.aload_n 0, 1) := by decide +kernel
theorem dL_grow_3 : decode cL_grow 3 = .ok (.iload_n 1, 1) := by decide +kernel
theorem dL_grow_4 : decode cL_grow 4 = .ok (.invokevirtual 23, 3) := by decide +kernel
theorem dL_grow_7 : decode cL_grow 7 = .ok (.i2l, 1) := by decide +kernel
theorem dL_grow_8 : decode cL_grow 8 = .ok (.lastore, 1) := by decide +kernel
theorem dL_grow_9 : decode cL_grow 9 = .ok (.goto 6, 3) := by decide +kernel
theorem dL_grow_12 : decode cL_grow 12 = .ok (.astore_n 3, 1) := by decide +kernel
theorem dL_grow_13 : decode cL_grow 13 = .ok (.iconst 1, 1) := by decide +kernel
theorem dL_grow_14 : decode cL_grow 14 = .ok (.ireturn, 1) := by decide +kernel
theorem dL_grow_15 : decode cL_grow 15 = .ok (.iconst 0, 1) := by decide +kernel
theorem dL_grow_16 : decode cL_grow 16 = .ok (.ireturn, 1) := by decide +kernel
theorem dL_strength_0 : decode cL_strength 0 = .ok (.aload_n 3, 1) := by decide +kernel
theorem dL_strength_1 : decode cL_strength 1 = .ok (.iconst 0, 1) := by decide +kernel
theorem dL_strength_2 : decode cL_strength 2 = .ok (.aload_n 0, 1) := by decide +kernel
theorem dL_strength_3 : decode cL_strength 3 = .ok (.iload_n 1, 1) := by decide +kernel
theorem dL_strength_4 : decode cL_strength 4 = .ok (.iload_n 2, 1) := by decide +kernel
theorem dL_strength_5 : decode cL_strength 5 = .ok (.invokevirtual 26, 3) := by decide +kernel
theorem dL_strength_8 : decode cL_strength 8 = .ok (.i2l, 1) := by decide +kernel
theorem dL_strength_9 : decode cL_strength 9 = .ok (.lastore, 1) := by decide +kernel
theorem dL_strength_10 : decode cL_strength 10 = .ok (.goto 7, 3) := by decide +kernel
theorem dL_strength_13 : decode cL_strength 13 = .ok (.astore 4, 2) := by decide +kernel
theorem dL_strength_15 : decode cL_strength 15 = .ok (.iconst 1, 1) := by decide +kernel
theorem dL_strength_16 : decode cL_strength 16 = .ok (.ireturn, 1) := by decide +kernel
theorem dL_strength_17 : decode cL_strength 17 = .ok (.iconst 0, 1) := by decide +kernel
theorem dL_strength_18 : decode cL_strength 18 = .ok (.ireturn, 1) := by decide +kernel
theorem dL_need_0 : decode cL_need 0 = .ok (.aload_n 2, 1) := by decide +kernel
theorem dL_need_1 : decode cL_need 1 = .ok (.iconst 0, 1) := by decide +kernel
theorem dL_need_2 : decode cL_need 2 = .ok (.aload_n 0, 1) := by decide +kernel
theorem dL_need_3 : decode cL_need 3 = .ok (.iload_n 1, 1) := by decide +kernel
theorem dL_need_4 : decode cL_need 4 = .ok (.invokevirtual 30, 3) := by decide +kernel
theorem dL_need_7 : decode cL_need 7 = .ok (.i2l, 1) := by decide +kernel
theorem dL_need_8 : decode cL_need 8 = .ok (.lastore, 1) := by decide +kernel
theorem dL_need_9 : decode cL_need 9 = .ok (.goto 6, 3) := by decide +kernel
theorem dL_need_12 : decode cL_need 12 = .ok (.astore_n 3, 1) := by decide +kernel
theorem dL_need_13 : decode cL_need 13 = .ok (.iconst 1, 1) := by decide +kernel
theorem dL_need_14 : decode cL_need 14 = .ok (.ireturn, 1) := by decide +kernel
theorem dL_need_15 : decode cL_need 15 = .ok (.iconst 0, 1) := by decide +kernel
theorem dL_need_16 : decode cL_need 16 = .ok (.ireturn, 1) := by decide +kernel
theorem dL_glueOf_0 : decode cL_glueOf 0 = .ok (.aload 4, 2) := by decide +kernel
theorem dL_glueOf_2 : decode cL_glueOf 2 = .ok (.iconst 0, 1) := by decide +kernel
theorem dL_glueOf_3 : decode cL_glueOf 3 = .ok (.aload_n 0, 1) := by decide +kernel
theorem dL_glueOf_4 : decode cL_glueOf 4 = .ok (.iload_n 1, 1) := by decide +kernel
theorem dL_glueOf_5 : decode cL_glueOf 5 = .ok (.iload_n 2, 1) := by decide +kernel
theorem dL_glueOf_6 : decode cL_glueOf 6 = .ok (.iload_n 3, 1) := by decide +kernel
theorem dL_glueOf_7 : decode cL_glueOf 7 = .ok (.invokevirtual 33, 3) := by decide +kernel
theorem dL_glueOf_10 : decode cL_glueOf 10 = .ok (.i2l, 1) := by decide +kernel
theorem dL_glueOf_11 : decode cL_glueOf 11 = .ok (.lastore, 1) := by decide +kernel
theorem dL_glueOf_12 : decode cL_glueOf 12 = .ok (.goto 11, 3) := by decide +kernel
theorem dL_glueOf_15 : decode cL_glueOf 15 = .ok (.astore 5, 2) := by decide +kernel
theorem dL_glueOf_17 : decode cL_glueOf 17 = .ok (.iconst 1, 1) := by decide +kernel
theorem dL_glueOf_18 : decode cL_glueOf 18 = .ok (.ireturn, 1) := by decide +kernel
theorem dL_glueOf_19 : decode cL_glueOf 19 = .ok (.astore 5, 2) := by decide +kernel
theorem dL_glueOf_21 : decode cL_glueOf 21 = .ok (.iconst 2, 1) := by decide +kernel
theorem dL_glueOf_22 : decode cL_glueOf 22 = .ok (.ireturn, 1) := by decide +kernel
theorem dL_glueOf_23 : decode cL_glueOf 23 = .ok (.iconst 0, 1) := by decide +kernel
theorem dL_glueOf_24 : decode cL_glueOf 24 = .ok (.ireturn, 1) := by decide +kernel
theorem dL_strengthOf_0 : decode cL_strengthOf 0 = .ok (.aload_n 2, 1) := by decide +kernel
theorem dL_strengthOf_1 : decode cL_strengthOf 1 = .ok (.iconst 0, 1) := by decide +kernel
theorem dL_strengthOf_2 : decode cL_strengthOf 2 = .ok (.aload_n 0, 1) := by decide +kernel
theorem dL_strengthOf_3 : decode cL_strengthOf 3 = .ok (.iload_n 1, 1) := by decide +kernel
theorem dL_strengthOf_4 : decode cL_strengthOf 4 = .ok (.invokevirtual 40, 3) := by decide +kernel
theorem dL_strengthOf_7 : decode cL_strengthOf 7 = .ok (.i2l, 1) := by decide +kernel
theorem dL_strengthOf_8 : decode cL_strengthOf 8 = .ok (.lastore, 1) := by decide +kernel
theorem dL_strengthOf_9 : decode cL_strengthOf 9 = .ok (.goto 6, 3) := by decide +kernel
theorem dL_strengthOf_12 : decode cL_strengthOf 12 = .ok (.astore_n 3, 1) := by decide +kernel
theorem dL_strengthOf_13 : decode cL_strengthOf 13 = .ok (.iconst 1, 1) := by decide +kernel
theorem dL_strengthOf_14 : decode cL_strengthOf 14 = .ok (.ireturn, 1) := by decide +kernel
theorem dL_strengthOf_15 : decode cL_strengthOf 15 = .ok (.iconst 0, 1) := by decide +kernel
theorem dL_strengthOf_16 : decode cL_strengthOf 16 = .ok (.ireturn, 1) := by decide +kernel
theorem dL_brickAt_0 : decode cL_brickAt 0 = .ok (.aload_n 3, 1) := by decide +kernel
theorem dL_brickAt_1 : decode cL_brickAt 1 = .ok (.iconst 0, 1) := by decide +kernel
theorem dL_brickAt_2 : decode cL_brickAt 2 = .ok (.aload_n 0, 1) := by decide +kernel
theorem dL_brickAt_3 : decode cL_brickAt 3 = .ok (.iload_n 1, 1) := by decide +kernel
theorem dL_brickAt_4 : decode cL_brickAt 4 = .ok (.iload_n 2, 1) := by decide +kernel
theorem dL_brickAt_5 : decode cL_brickAt 5 = .ok (.invokevirtual 43, 3) := by decide +kernel
theorem dL_brickAt_8 : decode cL_brickAt 8 = .ok (.i2l, 1) := by decide +kernel
theorem dL_brickAt_9 : decode cL_brickAt 9 = .ok (.lastore, 1) := by decide +kernel
theorem dL_brickAt_10 : decode cL_brickAt 10 = .ok (.goto 11, 3) := by decide +kernel
theorem dL_brickAt_13 : decode cL_brickAt 13 = .ok (.astore 4, 2) := by decide +kernel
theorem dL_brickAt_15 : decode cL_brickAt 15 = .ok (.iconst 1, 1) := by decide +kernel
theorem dL_brickAt_16 : decode cL_brickAt 16 = .ok (.ireturn, 1) := by decide +kernel
theorem dL_brickAt_17 : decode cL_brickAt 17 = .ok (.astore 4, 2) := by decide +kernel
theorem dL_brickAt_19 : decode cL_brickAt 19 = .ok (.iconst 2, 1) := by decide +kernel
theorem dL_brickAt_20 : decode cL_brickAt 20 = .ok (.ireturn, 1) := by decide +kernel
theorem dL_brickAt_21 : decode cL_brickAt 21 = .ok (.iconst 0, 1) := by decide +kernel
theorem dL_brickAt_22 : decode cL_brickAt 22 = .ok (.ireturn, 1) := by decide +kernel
theorem dL_seed_0 : decode cL_seed 0 = .ok (.aload_n 1, 1) := by decide +kernel
theorem dL_seed_1 : decode cL_seed 1 = .ok (.iconst 0, 1) := by decide +kernel
theorem dL_seed_2 : decode cL_seed 2 = .ok (.aload_n 0, 1) := by decide +kernel
theorem dL_seed_3 : decode cL_seed 3 = .ok (.invokevirtual 49, 3) := by decide +kernel
theorem dL_seed_6 : decode cL_seed 6 = .ok (.i2l, 1) := by decide +kernel
theorem dL_seed_7 : decode cL_seed 7 = .ok (.lastore, 1) := by decide +kernel
theorem dL_seed_8 : decode cL_seed 8 = .ok (.goto 6, 3) := by decide +kernel
theorem dL_seed_11 : decode cL_seed 11 = .ok (.astore_n 2, 1) := by decide +kernel
theorem dL_seed_12 : decode cL_seed 12 = .ok (.iconst 1, 1) := by decide +kernel
theorem dL_seed_13 : decode cL_seed 13 = .ok (.ireturn, 1) := by decide +kernel
theorem dL_seed_14 : decode cL_seed 14 = .ok (.iconst 0, 1) := by decide +kernel
theorem dL_seed_15 : decode cL_seed 15 = .ok (.ireturn, 1) := by decide +kernel
theorem dL_hold_0 : decode cL_hold 0 = .ok (.aload_n 2, 1) := by decide +kernel
theorem dL_hold_1 : decode cL_hold 1 = .ok (.iconst 0, 1) := by decide +kernel
theorem dL_hold_2 : decode cL_hold 2 = .ok (.aload_n 0, 1) := by decide +kernel
theorem dL_hold_3 : decode cL_hold 3 = .ok (.iload_n 1, 1) := by decide +kernel
theorem dL_hold_4 : decode cL_hold 4 = .ok (.invokevirtual 53, 3) := by decide +kernel
theorem dL_hold_7 : decode cL_hold 7 = .ok (.i2l, 1) := by decide +kernel
theorem dL_hold_8 : decode cL_hold 8 = .ok (.lastore, 1) := by decide +kernel
theorem dL_hold_9 : decode cL_hold 9 = .ok (.goto 9, 3) := by decide +kernel
theorem dL_hold_12 : decode cL_hold 12 = .ok (.astore_n 3, 1) := by decide +kernel
theorem dL_hold_13 : decode cL_hold 13 = .ok (.iconst 1, 1) := by decide +kernel
theorem dL_hold_14 : decode cL_hold 14 = .ok (.ireturn, 1) := by decide +kernel
theorem dL_hold_15 : decode cL_hold 15 = .ok (.astore_n 3, 1) := by decide +kernel
theorem dL_hold_16 : decode cL_hold 16 = .ok (.iconst 2, 1) := by decide +kernel
theorem dL_hold_17 : decode cL_hold 17 = .ok (.ireturn, 1) := by decide +kernel
theorem dL_hold_18 : decode cL_hold 18 = .ok (.iconst 0, 1) := by decide +kernel
theorem dL_hold_19 : decode cL_hold 19 = .ok (.ireturn, 1) := by decide +kernel
theorem dL_holdAgain_0 : decode cL_holdAgain 0 = .ok (.aload_n 2, 1) := by decide +kernel
theorem dL_holdAgain_1 : decode cL_holdAgain 1 = .ok (.iconst 0, 1) := by decide +kernel
theorem dL_holdAgain_2 : decode cL_holdAgain 2 = .ok (.aload_n 0, 1) := by decide +kernel
theorem dL_holdAgain_3 : decode cL_holdAgain 3 = .ok (.iload_n 1, 1) := by decide +kernel
theorem dL_holdAgain_4 : decode cL_holdAgain 4 = .ok (.invokevirtual 56, 3) := by decide +kernel
theorem dL_holdAgain_7 : decode cL_holdAgain 7 = .ok (.i2l, 1) := by decide +kernel
theorem dL_holdAgain_8 : decode cL_holdAgain 8 = .ok (.lastore, 1) := by decide +kernel
theorem dL_holdAgain_9 : decode cL_holdAgain 9 = .ok (.goto 9, 3) := by decide +kernel
theorem dL_holdAgain_12 : decode cL_holdAgain 12 = .ok (.astore_n 3, 1) := by decide +kernel
theorem dL_holdAgain_13 : decode cL_holdAgain 13 = .ok (.iconst 1, 1) := by decide +kernel
theorem dL_holdAgain_14 : decode cL_holdAgain 14 = .ok (.ireturn, 1) := by decide +kernel
theorem dL_holdAgain_15 : decode cL_holdAgain 15 = .ok (.astore_n 3, 1) := by decide +kernel
theorem dL_holdAgain_16 : decode cL_holdAgain 16 = .ok (.iconst 2, 1) := by decide +kernel
theorem dL_holdAgain_17 : decode cL_holdAgain 17 = .ok (.ireturn, 1) := by decide +kernel
theorem dL_holdAgain_18 : decode cL_holdAgain 18 = .ok (.iconst 0, 1) := by decide +kernel
theorem dL_holdAgain_19 : decode cL_holdAgain 19 = .ok (.ireturn, 1) := by decide +kernel
theorem dL_wouldHold_0 : decode cL_wouldHold 0 = .ok (.aload 4, 2) := by decide +kernel
theorem dL_wouldHold_2 : decode cL_wouldHold 2 = .ok (.iconst 0, 1) := by decide +kernel
theorem dL_wouldHold_3 : decode cL_wouldHold 3 = .ok (.aload_n 0, 1) := by decide +kernel
theorem dL_wouldHold_4 : decode cL_wouldHold 4 = .ok (.iload_n 1, 1) := by decide +kernel
theorem dL_wouldHold_5 : decode cL_wouldHold 5 = .ok (.iload_n 2, 1) := by decide +kernel
theorem dL_wouldHold_6 : decode cL_wouldHold 6 = .ok (.iload_n 3, 1) := by decide +kernel
theorem dL_wouldHold_7 : decode cL_wouldHold 7 = .ok (.invokevirtual 59, 3) := by decide +kernel
theorem dL_wouldHold_10 : decode cL_wouldHold 10 = .ok (.i2l, 1) := by decide +kernel
theorem dL_wouldHold_11 : decode cL_wouldHold 11 = .ok (.lastore, 1) := by decide +kernel
theorem dL_wouldHold_12 : decode cL_wouldHold 12 = .ok (.goto 15, 3) := by decide +kernel
theorem dL_wouldHold_15 : decode cL_wouldHold 15 = .ok (.astore 5, 2) := by decide +kernel
theorem dL_wouldHold_17 : decode cL_wouldHold 17 = .ok (.iconst 1, 1) := by decide +kernel
theorem dL_wouldHold_18 : decode cL_wouldHold 18 = .ok (.ireturn, 1) := by decide +kernel
theorem dL_wouldHold_19 : decode cL_wouldHold 19 = .ok (.astore 5, 2) := by decide +kernel
theorem dL_wouldHold_21 : decode cL_wouldHold 21 = .ok (.iconst 2, 1) := by decide +kernel
theorem dL_wouldHold_22 : decode cL_wouldHold 22 = .ok (.ireturn, 1) := by decide +kernel
theorem dL_wouldHold_23 : decode cL_wouldHold 23 = .ok (.astore 5, 2) := by decide +kernel
theorem dL_wouldHold_25 : decode cL_wouldHold 25 = .ok (.iconst 3, 1) := by decide +kernel
theorem dL_wouldHold_26 : decode cL_wouldHold 26 = .ok (.ireturn, 1) := by decide +kernel
theorem dL_wouldHold_27 : decode cL_wouldHold 27 = .ok (.iconst 0, 1) := by decide +kernel
theorem dL_wouldHold_28 : decode cL_wouldHold 28 = .ok (.ireturn, 1) := by decide +kernel
theorem dL_stands_0 : decode cL_stands 0 = .ok (.aload_n 2, 1) := by decide +kernel
theorem dL_stands_1 : decode cL_stands 1 = .ok (.iconst 0, 1) := by decide +kernel
theorem dL_stands_2 : decode cL_stands 2 = .ok (.aload_n 0, 1) := by decide +kernel
theorem dL_stands_3 : decode cL_stands 3 = .ok (.iload_n 1, 1) := by decide +kernel
theorem dL_stands_4 : decode cL_stands 4 = .ok (.invokevirtual 62, 3) := by decide +kernel
theorem dL_stands_7 : decode cL_stands 7 = .ok (.ifCond .eq 7, 3) := by decide +kernel
theorem dL_stands_10 : decode cL_stands 10 = .ok (.lconst 1, 1) := by decide +kernel
theorem dL_stands_11 : decode cL_stands 11 = .ok (.goto 4, 3) := by decide +kernel
theorem dL_stands_14 : decode cL_stands 14 = .ok (.lconst 0, 1) := by decide +kernel
theorem dL_stands_15 : decode cL_stands 15 = .ok (.lastore, 1) := by decide +kernel
theorem dL_stands_16 : decode cL_stands 16 = .ok (.goto 9, 3) := by decide +kernel
theorem dL_stands_19 : decode cL_stands 19 = .ok (.astore_n 3, 1) := by decide +kernel
theorem dL_stands_20 : decode cL_stands 20 = .ok (.iconst 1, 1) := by decide +kernel
theorem dL_stands_21 : decode cL_stands 21 = .ok (.ireturn, 1) := by decide +kernel
theorem dL_stands_22 : decode cL_stands 22 = .ok (.astore_n 3, 1) := by decide +kernel
theorem dL_stands_23 : decode cL_stands 23 = .ok (.iconst 2, 1) := by decide +kernel
theorem dL_stands_24 : decode cL_stands 24 = .ok (.ireturn, 1) := by decide +kernel
theorem dL_stands_25 : decode cL_stands 25 = .ok (.iconst 0, 1) := by decide +kernel
theorem dL_stands_26 : decode cL_stands 26 = .ok (.ireturn, 1) := by decide +kernel
theorem dL_falls_0 : decode cL_falls 0 = .ok (.aload_n 2, 1) := by decide +kernel
theorem dL_falls_1 : decode cL_falls 1 = .ok (.iconst 0, 1) := by decide +kernel
theorem dL_falls_2 : decode cL_falls 2 = .ok (.aload_n 0, 1) := by decide +kernel
theorem dL_falls_3 : decode cL_falls 3 = .ok (.iload_n 1, 1) := by decide +kernel
theorem dL_falls_4 : decode cL_falls 4 = .ok (.invokevirtual 66, 3) := by decide +kernel
theorem dL_falls_7 : decode cL_falls 7 = .ok (.i2l, 1) := by decide +kernel
theorem dL_falls_8 : decode cL_falls 8 = .ok (.lastore, 1) := by decide +kernel
theorem dL_falls_9 : decode cL_falls 9 = .ok (.goto 9, 3) := by decide +kernel
theorem dL_falls_12 : decode cL_falls 12 = .ok (.astore_n 3, 1) := by decide +kernel
theorem dL_falls_13 : decode cL_falls 13 = .ok (.iconst 1, 1) := by decide +kernel
theorem dL_falls_14 : decode cL_falls 14 = .ok (.ireturn, 1) := by decide +kernel
theorem dL_falls_15 : decode cL_falls 15 = .ok (.astore_n 3, 1) := by decide +kernel
theorem dL_falls_16 : decode cL_falls 16 = .ok (.iconst 2, 1) := by decide +kernel
theorem dL_falls_17 : decode cL_falls 17 = .ok (.ireturn, 1) := by decide +kernel
theorem dL_falls_18 : decode cL_falls 18 = .ok (.iconst 0, 1) := by decide +kernel
theorem dL_falls_19 : decode cL_falls 19 = .ok (.ireturn, 1) := by decide +kernel
theorem dL_errorsAt_0 : decode cL_errorsAt 0 = .ok (.aload_n 2, 1) := by decide +kernel
theorem dL_errorsAt_1 : decode cL_errorsAt 1 = .ok (.iconst 0, 1) := by decide +kernel
theorem dL_errorsAt_2 : decode cL_errorsAt 2 = .ok (.aload_n 0, 1) := by decide +kernel
theorem dL_errorsAt_3 : decode cL_errorsAt 3 = .ok (.iload_n 1, 1) := by decide +kernel
theorem dL_errorsAt_4 : decode cL_errorsAt 4 = .ok (.invokevirtual 69, 3) := by decide +kernel
theorem dL_errorsAt_7 : decode cL_errorsAt 7 = .ok (.i2l, 1) := by decide +kernel
theorem dL_errorsAt_8 : decode cL_errorsAt 8 = .ok (.lastore, 1) := by decide +kernel
theorem dL_errorsAt_9 : decode cL_errorsAt 9 = .ok (.goto 9, 3) := by decide +kernel
theorem dL_errorsAt_12 : decode cL_errorsAt 12 = .ok (.astore_n 3, 1) := by decide +kernel
theorem dL_errorsAt_13 : decode cL_errorsAt 13 = .ok (.iconst 1, 1) := by decide +kernel
theorem dL_errorsAt_14 : decode cL_errorsAt 14 = .ok (.ireturn, 1) := by decide +kernel
theorem dL_errorsAt_15 : decode cL_errorsAt 15 = .ok (.astore_n 3, 1) := by decide +kernel
theorem dL_errorsAt_16 : decode cL_errorsAt 16 = .ok (.iconst 2, 1) := by decide +kernel
theorem dL_errorsAt_17 : decode cL_errorsAt 17 = .ok (.ireturn, 1) := by decide +kernel
theorem dL_errorsAt_18 : decode cL_errorsAt 18 = .ok (.iconst 0, 1) := by decide +kernel
theorem dL_errorsAt_19 : decode cL_errorsAt 19 = .ok (.ireturn, 1) := by decide +kernel
theorem dL_nextPlace_0 : decode cL_nextPlace 0 = .ok (.aload_n 1, 1) := by decide +kernel
theorem dL_nextPlace_1 : decode cL_nextPlace 1 = .ok (.iconst 0, 1) := by decide +kernel
theorem dL_nextPlace_2 : decode cL_nextPlace 2 = .ok (.aload_n 0, 1) := by decide +kernel
theorem dL_nextPlace_3 : decode cL_nextPlace 3 = .ok (.invokevirtual 72, 3) := by decide +kernel
theorem dL_nextPlace_6 : decode cL_nextPlace 6 = .ok (.i2l, 1) := by decide +kernel
theorem dL_nextPlace_7 : decode cL_nextPlace 7 = .ok (.lastore, 1) := by decide +kernel
theorem dL_nextPlace_8 : decode cL_nextPlace 8 = .ok (.goto 6, 3) := by decide +kernel
theorem dL_nextPlace_11 : decode cL_nextPlace 11 = .ok (.astore_n 2, 1) := by decide +kernel
theorem dL_nextPlace_12 : decode cL_nextPlace 12 = .ok (.iconst 1, 1) := by decide +kernel
theorem dL_nextPlace_13 : decode cL_nextPlace 13 = .ok (.ireturn, 1) := by decide +kernel
theorem dL_nextPlace_14 : decode cL_nextPlace 14 = .ok (.iconst 0, 1) := by decide +kernel
theorem dL_nextPlace_15 : decode cL_nextPlace 15 = .ok (.ireturn, 1) := by decide +kernel
theorem dL_nextBrick_0 : decode cL_nextBrick 0 = .ok (.aload_n 1, 1) := by decide +kernel
theorem dL_nextBrick_1 : decode cL_nextBrick 1 = .ok (.iconst 0, 1) := by decide +kernel
theorem dL_nextBrick_2 : decode cL_nextBrick 2 = .ok (.aload_n 0, 1) := by decide +kernel
theorem dL_nextBrick_3 : decode cL_nextBrick 3 = .ok (.invokevirtual 75, 3) := by decide +kernel
theorem dL_nextBrick_6 : decode cL_nextBrick 6 = .ok (.i2l, 1) := by decide +kernel
theorem dL_nextBrick_7 : decode cL_nextBrick 7 = .ok (.lastore, 1) := by decide +kernel
theorem dL_nextBrick_8 : decode cL_nextBrick 8 = .ok (.goto 6, 3) := by decide +kernel
theorem dL_nextBrick_11 : decode cL_nextBrick 11 = .ok (.astore_n 2, 1) := by decide +kernel
theorem dL_nextBrick_12 : decode cL_nextBrick 12 = .ok (.iconst 1, 1) := by decide +kernel
theorem dL_nextBrick_13 : decode cL_nextBrick 13 = .ok (.ireturn, 1) := by decide +kernel
theorem dL_nextBrick_14 : decode cL_nextBrick 14 = .ok (.iconst 0, 1) := by decide +kernel
theorem dL_nextBrick_15 : decode cL_nextBrick 15 = .ok (.ireturn, 1) := by decide +kernel
theorem dL_choices_0 : decode cL_choices 0 = .ok (.aload_n 2, 1) := by decide +kernel
theorem dL_choices_1 : decode cL_choices 1 = .ok (.iconst 0, 1) := by decide +kernel
theorem dL_choices_2 : decode cL_choices 2 = .ok (.aload_n 0, 1) := by decide +kernel
theorem dL_choices_3 : decode cL_choices 3 = .ok (.iload_n 1, 1) := by decide +kernel
theorem dL_choices_4 : decode cL_choices 4 = .ok (.invokevirtual 78, 3) := by decide +kernel
theorem dL_choices_7 : decode cL_choices 7 = .ok (.i2l, 1) := by decide +kernel
theorem dL_choices_8 : decode cL_choices 8 = .ok (.lastore, 1) := by decide +kernel
theorem dL_choices_9 : decode cL_choices 9 = .ok (.goto 9, 3) := by decide +kernel
theorem dL_choices_12 : decode cL_choices 12 = .ok (.astore_n 3, 1) := by decide +kernel
theorem dL_choices_13 : decode cL_choices 13 = .ok (.iconst 1, 1) := by decide +kernel
theorem dL_choices_14 : decode cL_choices 14 = .ok (.ireturn, 1) := by decide +kernel
theorem dL_choices_15 : decode cL_choices 15 = .ok (.astore_n 3, 1) := by decide +kernel
theorem dL_choices_16 : decode cL_choices 16 = .ok (.iconst 2, 1) := by decide +kernel
theorem dL_choices_17 : decode cL_choices 17 = .ok (.ireturn, 1) := by decide +kernel
theorem dL_choices_18 : decode cL_choices 18 = .ok (.iconst 0, 1) := by decide +kernel
theorem dL_choices_19 : decode cL_choices 19 = .ok (.ireturn, 1) := by decide +kernel
theorem dL_inRow_0 : decode cL_inRow 0 = .ok (.aload_n 3, 1) := by decide +kernel
theorem dL_inRow_1 : decode cL_inRow 1 = .ok (.iconst 0, 1) := by decide +kernel
theorem dL_inRow_2 : decode cL_inRow 2 = .ok (.aload_n 0, 1) := by decide +kernel
theorem dL_inRow_3 : decode cL_inRow 3 = .ok (.iload_n 1, 1) := by decide +kernel
theorem dL_inRow_4 : decode cL_inRow 4 = .ok (.iload_n 2, 1) := by decide +kernel
theorem dL_inRow_5 : decode cL_inRow 5 = .ok (.invokevirtual 81, 3) := by decide +kernel
theorem dL_inRow_8 : decode cL_inRow 8 = .ok (.i2l, 1) := by decide +kernel
theorem dL_inRow_9 : decode cL_inRow 9 = .ok (.lastore, 1) := by decide +kernel
theorem dL_inRow_10 : decode cL_inRow 10 = .ok (.goto 7, 3) := by decide +kernel
theorem dL_inRow_13 : decode cL_inRow 13 = .ok (.astore 4, 2) := by decide +kernel
end
section
theorem dL_inRow_15 : decode cL_inRow 15 = .ok (.iconst 1, 1) := by decide +kernel
theorem dL_inRow_16 : decode cL_inRow 16 = .ok (.ireturn, 1) := by decide +kernel
theorem dL_inRow_17 : decode cL_inRow 17 = .ok (.iconst 0, 1) := by decide +kernel
theorem dL_inRow_18 : decode cL_inRow 18 = .ok (.ireturn, 1) := by decide +kernel
theorem dL_weakest_0 : decode cL_weakest 0 = .ok (.aload_n 2, 1) := by decide +kernel
theorem dL_weakest_1 : decode cL_weakest 1 = .ok (.iconst 0, 1) := by decide +kernel
theorem dL_weakest_2 : decode cL_weakest 2 = .ok (.aload_n 0, 1) := by decide +kernel
theorem dL_weakest_3 : decode cL_weakest 3 = .ok (.iload_n 1, 1) := by decide +kernel
theorem dL_weakest_4 : decode cL_weakest 4 = .ok (.invokevirtual 84, 3) := by decide +kernel
theorem dL_weakest_7 : decode cL_weakest 7 = .ok (.i2l, 1) := by decide +kernel
theorem dL_weakest_8 : decode cL_weakest 8 = .ok (.lastore, 1) := by decide +kernel
theorem dL_weakest_9 : decode cL_weakest 9 = .ok (.goto 6, 3) := by decide +kernel
theorem dL_weakest_12 : decode cL_weakest 12 = .ok (.astore_n 3, 1) := by decide +kernel
theorem dL_weakest_13 : decode cL_weakest 13 = .ok (.iconst 1, 1) := by decide +kernel
theorem dL_weakest_14 : decode cL_weakest 14 = .ok (.ireturn, 1) := by decide +kernel
theorem dL_weakest_15 : decode cL_weakest 15 = .ok (.iconst 0, 1) := by decide +kernel
theorem dL_weakest_16 : decode cL_weakest 16 = .ok (.ireturn, 1) := by decide +kernel
theorem dL_append_0 : decode cL_append 0 = .ok (.aload_n 2, 1) := by decide +kernel
theorem dL_append_1 : decode cL_append 1 = .ok (.iconst 0, 1) := by decide +kernel
theorem dL_append_2 : decode cL_append 2 = .ok (.aload_n 0, 1) := by decide +kernel
theorem dL_append_3 : decode cL_append 3 = .ok (.iload_n 1, 1) := by decide +kernel
theorem dL_append_4 : decode cL_append 4 = .ok (.invokevirtual 87, 3) := by decide +kernel
theorem dL_append_7 : decode cL_append 7 = .ok (.i2l, 1) := by decide +kernel
theorem dL_append_8 : decode cL_append 8 = .ok (.lastore, 1) := by decide +kernel
theorem dL_append_9 : decode cL_append 9 = .ok (.goto 6, 3) := by decide +kernel
theorem dL_append_12 : decode cL_append 12 = .ok (.astore_n 3, 1) := by decide +kernel
theorem dL_append_13 : decode cL_append 13 = .ok (.iconst 1, 1) := by decide +kernel
theorem dL_append_14 : decode cL_append 14 = .ok (.ireturn, 1) := by decide +kernel
theorem dL_append_15 : decode cL_append 15 = .ok (.iconst 0, 1) := by decide +kernel
theorem dL_append_16 : decode cL_append 16 = .ok (.ireturn, 1) := by decide +kernel
theorem dL_commands_0 : decode cL_commands 0 = .ok (.aload_n 1, 1) := by decide +kernel
theorem dL_commands_1 : decode cL_commands 1 = .ok (.iconst 0, 1) := by decide +kernel
theorem dL_commands_2 : decode cL_commands 2 = .ok (.aload_n 0, 1) := by decide +kernel
theorem dL_commands_3 : decode cL_commands 3 = .ok (.invokevirtual 93, 3) := by decide +kernel
theorem dL_commands_6 : decode cL_commands 6 = .ok (.i2l, 1) := by decide +kernel
theorem dL_commands_7 : decode cL_commands 7 = .ok (.lastore, 1) := by decide +kernel
theorem dL_commands_8 : decode cL_commands 8 = .ok (.goto 9, 3) := by decide +kernel
theorem dL_commands_11 : decode cL_commands 11 = .ok (.astore_n 2, 1) := by decide +kernel
theorem dL_commands_12 : decode cL_commands 12 = .ok (.iconst 1, 1) := by decide +kernel
theorem dL_commands_13 : decode cL_commands 13 = .ok (.ireturn, 1) := by decide +kernel
theorem dL_commands_14 : decode cL_commands 14 = .ok (.astore_n 2, 1) := by decide +kernel
theorem dL_commands_15 : decode cL_commands 15 = .ok (.iconst 2, 1) := by decide +kernel
theorem dL_commands_16 : decode cL_commands 16 = .ok (.ireturn, 1) := by decide +kernel
theorem dL_commands_17 : decode cL_commands 17 = .ok (.iconst 0, 1) := by decide +kernel
theorem dL_commands_18 : decode cL_commands 18 = .ok (.ireturn, 1) := by decide +kernel
theorem dL_reason_0 : decode cL_reason 0 = .ok (.aload_n 2, 1) := by decide +kernel
theorem dL_reason_1 : decode cL_reason 1 = .ok (.iconst 0, 1) := by decide +kernel
theorem dL_reason_2 : decode cL_reason 2 = .ok (.aload_n 0, 1) := by decide +kernel
theorem dL_reason_3 : decode cL_reason 3 = .ok (.iload_n 1, 1) := by decide +kernel
theorem dL_reason_4 : decode cL_reason 4 = .ok (.invokevirtual 96, 3) := by decide +kernel
theorem dL_reason_7 : decode cL_reason 7 = .ok (.i2l, 1) := by decide +kernel
theorem dL_reason_8 : decode cL_reason 8 = .ok (.lastore, 1) := by decide +kernel
theorem dL_reason_9 : decode cL_reason 9 = .ok (.goto 9, 3) := by decide +kernel
theorem dL_reason_12 : decode cL_reason 12 = .ok (.astore_n 3, 1) := by decide +kernel
theorem dL_reason_13 : decode cL_reason 13 = .ok (.iconst 1, 1) := by decide +kernel
theorem dL_reason_14 : decode cL_reason 14 = .ok (.ireturn, 1) := by decide +kernel
theorem dL_reason_15 : decode cL_reason 15 = .ok (.astore_n 3, 1) := by decide +kernel
theorem dL_reason_16 : decode cL_reason 16 = .ok (.iconst 2, 1) := by decide +kernel
theorem dL_reason_17 : decode cL_reason 17 = .ok (.ireturn, 1) := by decide +kernel
theorem dL_reason_18 : decode cL_reason 18 = .ok (.iconst 0, 1) := by decide +kernel
theorem dL_reason_19 : decode cL_reason 19 = .ok (.ireturn, 1) := by decide +kernel
theorem dL_line_0 : decode cL_line 0 = .ok (.aload_n 2, 1) := by decide +kernel
theorem dL_line_1 : decode cL_line 1 = .ok (.iconst 0, 1) := by decide +kernel
theorem dL_line_2 : decode cL_line 2 = .ok (.aload_n 0, 1) := by decide +kernel
theorem dL_line_3 : decode cL_line 3 = .ok (.iload_n 1, 1) := by decide +kernel
theorem dL_line_4 : decode cL_line 4 = .ok (.invokevirtual 99, 3) := by decide +kernel
theorem dL_line_7 : decode cL_line 7 = .ok (.i2l, 1) := by decide +kernel
theorem dL_line_8 : decode cL_line 8 = .ok (.lastore, 1) := by decide +kernel
theorem dL_line_9 : decode cL_line 9 = .ok (.goto 6, 3) := by decide +kernel
theorem dL_line_12 : decode cL_line 12 = .ok (.astore_n 3, 1) := by decide +kernel
theorem dL_line_13 : decode cL_line 13 = .ok (.iconst 1, 1) := by decide +kernel
theorem dL_line_14 : decode cL_line 14 = .ok (.ireturn, 1) := by decide +kernel
theorem dL_line_15 : decode cL_line 15 = .ok (.iconst 0, 1) := by decide +kernel
theorem dL_line_16 : decode cL_line 16 = .ok (.ireturn, 1) := by decide +kernel
theorem dL_character_0 : decode cL_character 0 = .ok (.aload_n 2, 1) := by decide +kernel
theorem dL_character_1 : decode cL_character 1 = .ok (.iconst 0, 1) := by decide +kernel
theorem dL_character_2 : decode cL_character 2 = .ok (.aload_n 0, 1) := by decide +kernel
theorem dL_character_3 : decode cL_character 3 = .ok (.iload_n 1, 1) := by decide +kernel
theorem dL_character_4 : decode cL_character 4 = .ok (.invokevirtual 102, 3) := by decide +kernel
theorem dL_character_7 : decode cL_character 7 = .ok (.i2l, 1) := by decide +kernel
theorem dL_character_8 : decode cL_character 8 = .ok (.lastore, 1) := by decide +kernel
theorem dL_character_9 : decode cL_character 9 = .ok (.goto 6, 3) := by decide +kernel
theorem dL_character_12 : decode cL_character 12 = .ok (.astore_n 3, 1) := by decide +kernel
theorem dL_character_13 : decode cL_character 13 = .ok (.iconst 1, 1) := by decide +kernel
theorem dL_character_14 : decode cL_character 14 = .ok (.ireturn, 1) := by decide +kernel
theorem dL_character_15 : decode cL_character 15 = .ok (.iconst 0, 1) := by decide +kernel
theorem dL_character_16 : decode cL_character 16 = .ok (.ireturn, 1) := by decide +kernel
theorem dL_meanHold_0 : decode cL_meanHold 0 = .ok (.aload_n 1, 1) := by decide +kernel
theorem dL_meanHold_1 : decode cL_meanHold 1 = .ok (.iconst 0, 1) := by decide +kernel
theorem dL_meanHold_2 : decode cL_meanHold 2 = .ok (.aload_n 0, 1) := by decide +kernel
theorem dL_meanHold_3 : decode cL_meanHold 3 = .ok (.invokevirtual 106, 3) := by decide +kernel
theorem dL_meanHold_6 : decode cL_meanHold 6 = .ok (.dastore, 1) := by decide +kernel
theorem dL_meanHold_7 : decode cL_meanHold 7 = .ok (.goto 6, 3) := by decide +kernel
theorem dL_meanHold_10 : decode cL_meanHold 10 = .ok (.astore_n 2, 1) := by decide +kernel
theorem dL_meanHold_11 : decode cL_meanHold 11 = .ok (.iconst 1, 1) := by decide +kernel
theorem dL_meanHold_12 : decode cL_meanHold 12 = .ok (.ireturn, 1) := by decide +kernel
theorem dL_meanHold_13 : decode cL_meanHold 13 = .ok (.iconst 0, 1) := by decide +kernel
theorem dL_meanHold_14 : decode cL_meanHold 14 = .ok (.ireturn, 1) := by decide +kernel
theorem dL_standing_0 : decode cL_standing 0 = .ok (.aload_n 1, 1) := by decide +kernel
theorem dL_standing_1 : decode cL_standing 1 = .ok (.iconst 0, 1) := by decide +kernel
theorem dL_standing_2 : decode cL_standing 2 = .ok (.aload_n 0, 1) := by decide +kernel
theorem dL_standing_3 : decode cL_standing 3 = .ok (.invokevirtual 112, 3) := by decide +kernel
theorem dL_standing_6 : decode cL_standing 6 = .ok (.f2d, 1) := by decide +kernel
theorem dL_standing_7 : decode cL_standing 7 = .ok (.dastore, 1) := by decide +kernel
theorem dL_standing_8 : decode cL_standing 8 = .ok (.goto 6, 3) := by decide +kernel
theorem dL_standing_11 : decode cL_standing 11 = .ok (.astore_n 2, 1) := by decide +kernel
theorem dL_standing_12 : decode cL_standing 12 = .ok (.iconst 1, 1) := by decide +kernel
theorem dL_standing_13 : decode cL_standing 13 = .ok (.ireturn, 1) := by decide +kernel
theorem dL_standing_14 : decode cL_standing 14 = .ok (.iconst 0, 1) := by decide +kernel
theorem dL_standing_15 : decode cL_standing 15 = .ok (.ireturn, 1) := by decide +kernel
theorem dL_account_0 : decode cL_account 0 = .ok (.aload_n 2, 1) := by decide +kernel
theorem dL_account_1 : decode cL_account 1 = .ok (.iconst 0, 1) := by decide +kernel
theorem dL_account_2 : decode cL_account 2 = .ok (.aload_n 0, 1) := by decide +kernel
theorem dL_account_3 : decode cL_account 3 = .ok (.iload_n 1, 1) := by decide +kernel
theorem dL_account_4 : decode cL_account 4 = .ok (.invokevirtual 116, 3) := by decide +kernel
theorem dL_account_7 : decode cL_account 7 = .ok (.i2l, 1) := by decide +kernel
theorem dL_account_8 : decode cL_account 8 = .ok (.lastore, 1) := by decide +kernel
theorem dL_account_9 : decode cL_account 9 = .ok (.goto 6, 3) := by decide +kernel
theorem dL_account_12 : decode cL_account 12 = .ok (.astore_n 3, 1) := by decide +kernel
theorem dL_account_13 : decode cL_account 13 = .ok (.iconst 1, 1) := by decide +kernel
theorem dL_account_14 : decode cL_account 14 = .ok (.ireturn, 1) := by decide +kernel
theorem dL_account_15 : decode cL_account 15 = .ok (.iconst 0, 1) := by decide +kernel
theorem dL_account_16 : decode cL_account 16 = .ok (.ireturn, 1) := by decide +kernel
theorem dL_undo_0 : decode cL_undo 0 = .ok (.aload_n 1, 1) := by decide +kernel
theorem dL_undo_1 : decode cL_undo 1 = .ok (.iconst 0, 1) := by decide +kernel
theorem dL_undo_2 : decode cL_undo 2 = .ok (.aload_n 0, 1) := by decide +kernel
theorem dL_undo_3 : decode cL_undo 3 = .ok (.invokevirtual 119, 3) := by decide +kernel
theorem dL_undo_6 : decode cL_undo 6 = .ok (.i2l, 1) := by decide +kernel
theorem dL_undo_7 : decode cL_undo 7 = .ok (.lastore, 1) := by decide +kernel
theorem dL_undo_8 : decode cL_undo 8 = .ok (.goto 6, 3) := by decide +kernel
theorem dL_undo_11 : decode cL_undo 11 = .ok (.astore_n 2, 1) := by decide +kernel
theorem dL_undo_12 : decode cL_undo 12 = .ok (.iconst 1, 1) := by decide +kernel
theorem dL_undo_13 : decode cL_undo 13 = .ok (.ireturn, 1) := by decide +kernel
theorem dL_undo_14 : decode cL_undo 14 = .ok (.iconst 0, 1) := by decide +kernel
theorem dL_undo_15 : decode cL_undo 15 = .ok (.ireturn, 1) := by decide +kernel
theorem dL_restore_0 : decode cL_restore 0 = .ok (.aload_n 1, 1) := by decide +kernel
theorem dL_restore_1 : decode cL_restore 1 = .ok (.iconst 0, 1) := by decide +kernel
theorem dL_restore_2 : decode cL_restore 2 = .ok (.aload_n 0, 1) := by decide +kernel
theorem dL_restore_3 : decode cL_restore 3 = .ok (.invokevirtual 122, 3) := by decide +kernel
theorem dL_restore_6 : decode cL_restore 6 = .ok (.i2l, 1) := by decide +kernel
theorem dL_restore_7 : decode cL_restore 7 = .ok (.lastore, 1) := by decide +kernel
theorem dL_restore_8 : decode cL_restore 8 = .ok (.goto 6, 3) := by decide +kernel
theorem dL_restore_11 : decode cL_restore 11 = .ok (.astore_n 2, 1) := by decide +kernel
theorem dL_restore_12 : decode cL_restore 12 = .ok (.iconst 1, 1) := by decide +kernel
theorem dL_restore_13 : decode cL_restore 13 = .ok (.ireturn, 1) := by decide +kernel
theorem dL_restore_14 : decode cL_restore 14 = .ok (.iconst 0, 1) := by decide +kernel
theorem dL_restore_15 : decode cL_restore 15 = .ok (.ireturn, 1) := by decide +kernel
theorem dL_law_0 : decode cL_law 0 = .ok (.new 8, 3) := by decide +kernel
theorem dL_law_3 : decode cL_law 3 = .ok (.dup, 1) := by decide +kernel
theorem dL_law_4 : decode cL_law 4 = .ok (.invokespecial 125, 3) := by decide +kernel
theorem dL_law_7 : decode cL_law 7 = .ok (.astore_n 1, 1) := by decide +kernel
theorem dL_law_8 : decode cL_law 8 = .ok (.new 126, 3) := by decide +kernel
theorem dL_law_11 : decode cL_law 11 = .ok (.dup, 1) := by decide +kernel
theorem dL_law_12 : decode cL_law 12 = .ok (.invokespecial 128, 3) := by decide +kernel
theorem dL_law_15 : decode cL_law 15 = .ok (.astore_n 2, 1) := by decide +kernel
theorem dL_law_16 : decode cL_law 16 = .ok (.iconst 1, 1) := by decide +kernel
theorem dL_law_17 : decode cL_law 17 = .ok (.newarray .long, 2) := by decide +kernel
theorem dL_law_19 : decode cL_law 19 = .ok (.astore_n 3, 1) := by decide +kernel
theorem dL_law_20 : decode cL_law 20 = .ok (.iconst 1, 1) := by decide +kernel
theorem dL_law_21 : decode cL_law 21 = .ok (.newarray .double, 2) := by decide +kernel
theorem dL_law_23 : decode cL_law 23 = .ok (.astore 4, 2) := by decide +kernel
theorem dL_law_25 : decode cL_law 25 = .ok (.iconst 0, 1) := by decide +kernel
theorem dL_law_26 : decode cL_law 26 = .ok (.istore 5, 2) := by decide +kernel
theorem dL_law_28 : decode cL_law 28 = .ok (.iload 5, 2) := by decide +kernel
theorem dL_law_30 : decode cL_law 30 = .ok (.aload_n 0, 1) := by decide +kernel
theorem dL_law_31 : decode cL_law 31 = .ok (.arraylength, 1) := by decide +kernel
theorem dL_law_32 : decode cL_law 32 = .ok (.iconst 5, 1) := by decide +kernel
theorem dL_law_33 : decode cL_law 33 = .ok (.isub, 1) := by decide +kernel
theorem dL_law_34 : decode cL_law 34 = .ok (.if_icmp .gt 2126, 3) := by decide +kernel
theorem dL_law_37 : decode cL_law 37 = .ok (.aload_n 0, 1) := by decide +kernel
theorem dL_law_38 : decode cL_law 38 = .ok (.iload 5, 2) := by decide +kernel
theorem dL_law_40 : decode cL_law 40 = .ok (.iaload, 1) := by decide +kernel
theorem dL_law_41 : decode cL_law 41 = .ok (.bipush 63, 2) := by decide +kernel
theorem dL_law_43 : decode cL_law 43 = .ok (.iand, 1) := by decide +kernel
theorem dL_law_44 : decode cL_law 44 = .ok (.tableswitch 2110 0 36 #[164, 256, 336, 392, 448, 516, 572, 652, 708, 792, 836, 892, 948, 1028, 1091, 1104, 1160, 1173, 1229, 1273, 1317, 1373, 1386, 1399, 1483, 1539, 1597, 1641, 1654, 1710, 1766, 1822, 1887, 1953, 2009, 2053, 2066], 164) := by decide +kernel
theorem dL_law_208 : decode cL_law 208 = .ok (.aload_n 1, 1) := by decide +kernel
theorem dL_law_209 : decode cL_law 209 = .ok (.aload_n 0, 1) := by decide +kernel
theorem dL_law_210 : decode cL_law 210 = .ok (.iload 5, 2) := by decide +kernel
theorem dL_law_212 : decode cL_law 212 = .ok (.iconst 1, 1) := by decide +kernel
theorem dL_law_213 : decode cL_law 213 = .ok (.iadd, 1) := by decide +kernel
theorem dL_law_214 : decode cL_law 214 = .ok (.iaload, 1) := by decide +kernel
theorem dL_law_215 : decode cL_law 215 = .ok (.aload_n 0, 1) := by decide +kernel
theorem dL_law_216 : decode cL_law 216 = .ok (.iload 5, 2) := by decide +kernel
theorem dL_law_218 : decode cL_law 218 = .ok (.iconst 2, 1) := by decide +kernel
theorem dL_law_219 : decode cL_law 219 = .ok (.iadd, 1) := by decide +kernel
theorem dL_law_220 : decode cL_law 220 = .ok (.iaload, 1) := by decide +kernel
theorem dL_law_221 : decode cL_law 221 = .ok (.aload_n 0, 1) := by decide +kernel
theorem dL_law_222 : decode cL_law 222 = .ok (.iload 5, 2) := by decide +kernel
theorem dL_law_224 : decode cL_law 224 = .ok (.iconst 3, 1) := by decide +kernel
theorem dL_law_225 : decode cL_law 225 = .ok (.iadd, 1) := by decide +kernel
theorem dL_law_226 : decode cL_law 226 = .ok (.iaload, 1) := by decide +kernel
theorem dL_law_227 : decode cL_law 227 = .ok (.aload_n 0, 1) := by decide +kernel
theorem dL_law_228 : decode cL_law 228 = .ok (.iload 5, 2) := by decide +kernel
theorem dL_law_230 : decode cL_law 230 = .ok (.iconst 4, 1) := by decide +kernel
theorem dL_law_231 : decode cL_law 231 = .ok (.iadd, 1) := by decide +kernel
theorem dL_law_232 : decode cL_law 232 = .ok (.iaload, 1) := by decide +kernel
theorem dL_law_233 : decode cL_law 233 = .ok (.aload_n 3, 1) := by decide +kernel
theorem dL_law_234 : decode cL_law 234 = .ok (.invokestatic 129, 3) := by decide +kernel
theorem dL_law_237 : decode cL_law 237 = .ok (.istore 6, 2) := by decide +kernel
theorem dL_law_239 : decode cL_law 239 = .ok (.aload_n 2, 1) := by decide +kernel
theorem dL_law_240 : decode cL_law 240 = .ok (.aload_n 0, 1) := by decide +kernel
theorem dL_law_241 : decode cL_law 241 = .ok (.iload 5, 2) := by decide +kernel
theorem dL_law_243 : decode cL_law 243 = .ok (.iconst 1, 1) := by decide +kernel
theorem dL_law_244 : decode cL_law 244 = .ok (.iadd, 1) := by decide +kernel
theorem dL_law_245 : decode cL_law 245 = .ok (.iaload, 1) := by decide +kernel
theorem dL_law_246 : decode cL_law 246 = .ok (.aload_n 0, 1) := by decide +kernel
theorem dL_law_247 : decode cL_law 247 = .ok (.iload 5, 2) := by decide +kernel
theorem dL_law_249 : decode cL_law 249 = .ok (.iconst 2, 1) := by decide +kernel
theorem dL_law_250 : decode cL_law 250 = .ok (.iadd, 1) := by decide +kernel
theorem dL_law_251 : decode cL_law 251 = .ok (.iaload, 1) := by decide +kernel
theorem dL_law_252 : decode cL_law 252 = .ok (.aload_n 0, 1) := by decide +kernel
theorem dL_law_253 : decode cL_law 253 = .ok (.iload 5, 2) := by decide +kernel
theorem dL_law_255 : decode cL_law 255 = .ok (.iconst 3, 1) := by decide +kernel
theorem dL_law_256 : decode cL_law 256 = .ok (.iadd, 1) := by decide +kernel
theorem dL_law_257 : decode cL_law 257 = .ok (.iaload, 1) := by decide +kernel
theorem dL_law_258 : decode cL_law 258 = .ok (.aload_n 0, 1) := by decide +kernel
theorem dL_law_259 : decode cL_law 259 = .ok (.iload 5, 2) := by decide +kernel
theorem dL_law_261 : decode cL_law 261 = .ok (.iconst 4, 1) := by decide +kernel
theorem dL_law_262 : decode cL_law 262 = .ok (.iadd, 1) := by decide +kernel
theorem dL_law_263 : decode cL_law 263 = .ok (.iaload, 1) := by decide +kernel
theorem dL_law_264 : decode cL_law 264 = .ok (.invokevirtual 134, 3) := by decide +kernel
theorem dL_law_267 : decode cL_law 267 = .ok (.istore 7, 2) := by decide +kernel
theorem dL_law_269 : decode cL_law 269 = .ok (.aload_n 2, 1) := by decide +kernel
theorem dL_law_270 : decode cL_law 270 = .ok (.invokevirtual 135, 3) := by decide +kernel
theorem dL_law_273 : decode cL_law 273 = .ok (.iload 6, 2) := by decide +kernel
theorem dL_law_275 : decode cL_law 275 = .ok (.if_icmp .eq 5, 3) := by decide +kernel
theorem dL_law_278 : decode cL_law 278 = .ok (.iconst 0, 1) := by decide +kernel
theorem dL_law_279 : decode cL_law 279 = .ok (.ireturn, 1) := by decide +kernel
theorem dL_law_280 : decode cL_law 280 = .ok (.iload 6, 2) := by decide +kernel
theorem dL_law_282 : decode cL_law 282 = .ok (.ifCond .ne 15, 3) := by decide +kernel
theorem dL_law_285 : decode cL_law 285 = .ok (.aload_n 3, 1) := by decide +kernel
theorem dL_law_286 : decode cL_law 286 = .ok (.iconst 0, 1) := by decide +kernel
theorem dL_law_287 : decode cL_law 287 = .ok (.laload, 1) := by decide +kernel
theorem dL_law_288 : decode cL_law 288 = .ok (.iload 7, 2) := by decide +kernel
theorem dL_law_290 : decode cL_law 290 = .ok (.i2l, 1) := by decide +kernel
theorem dL_law_291 : decode cL_law 291 = .ok (.lcmp, 1) := by decide +kernel
theorem dL_law_292 : decode cL_law 292 = .ok (.ifCond .eq 5, 3) := by decide +kernel
theorem dL_law_295 : decode cL_law 295 = .ok (.iconst 0, 1) := by decide +kernel
theorem dL_law_296 : decode cL_law 296 = .ok (.ireturn, 1) := by decide +kernel
theorem dL_law_297 : decode cL_law 297 = .ok (.goto 1857, 3) := by decide +kernel
theorem dL_law_300 : decode cL_law 300 = .ok (.aload_n 1, 1) := by decide +kernel
theorem dL_law_301 : decode cL_law 301 = .ok (.aload_n 0, 1) := by decide +kernel
theorem dL_law_302 : decode cL_law 302 = .ok (.iload 5, 2) := by decide +kernel
theorem dL_law_304 : decode cL_law 304 = .ok (.iconst 1, 1) := by decide +kernel
theorem dL_law_305 : decode cL_law 305 = .ok (.iadd, 1) := by decide +kernel
theorem dL_law_306 : decode cL_law 306 = .ok (.iaload, 1) := by decide +kernel
theorem dL_law_307 : decode cL_law 307 = .ok (.aload_n 0, 1) := by decide +kernel
theorem dL_law_308 : decode cL_law 308 = .ok (.iload 5, 2) := by decide +kernel
theorem dL_law_310 : decode cL_law 310 = .ok (.iconst 2, 1) := by decide +kernel
theorem dL_law_311 : decode cL_law 311 = .ok (.iadd, 1) := by decide +kernel
theorem dL_law_312 : decode cL_law 312 = .ok (.iaload, 1) := by decide +kernel
theorem dL_law_313 : decode cL_law 313 = .ok (.aload_n 0, 1) := by decide +kernel
theorem dL_law_314 : decode cL_law 314 = .ok (.iload 5, 2) := by decide +kernel
theorem dL_law_316 : decode cL_law 316 = .ok (.iconst 3, 1) := by decide +kernel
theorem dL_law_317 : decode cL_law 317 = .ok (.iadd, 1) := by decide +kernel
theorem dL_law_318 : decode cL_law 318 = .ok (.iaload, 1) := by decide +kernel
theorem dL_law_319 : decode cL_law 319 = .ok (.aload_n 3, 1) := by decide +kernel
theorem dL_law_320 : decode cL_law 320 = .ok (.invokestatic 138, 3) := by decide +kernel
theorem dL_law_323 : decode cL_law 323 = .ok (.istore 6, 2) := by decide +kernel
theorem dL_law_325 : decode cL_law 325 = .ok (.aload_n 2, 1) := by decide +kernel
theorem dL_law_326 : decode cL_law 326 = .ok (.aload_n 0, 1) := by decide +kernel
theorem dL_law_327 : decode cL_law 327 = .ok (.iload 5, 2) := by decide +kernel
theorem dL_law_329 : decode cL_law 329 = .ok (.iconst 1, 1) := by decide +kernel
theorem dL_law_330 : decode cL_law 330 = .ok (.iadd, 1) := by decide +kernel
theorem dL_law_331 : decode cL_law 331 = .ok (.iaload, 1) := by decide +kernel
theorem dL_law_332 : decode cL_law 332 = .ok (.aload_n 0, 1) := by decide +kernel
theorem dL_law_333 : decode cL_law 333 = .ok (.iload 5, 2) := by decide +kernel
theorem dL_law_335 : decode cL_law 335 = .ok (.iconst 2, 1) := by decide +kernel
theorem dL_law_336 : decode cL_law 336 = .ok (.iadd, 1) := by decide +kernel
theorem dL_law_337 : decode cL_law 337 = .ok (.iaload, 1) := by decide +kernel
theorem dL_law_338 : decode cL_law 338 = .ok (.aload_n 0, 1) := by decide +kernel
theorem dL_law_339 : decode cL_law 339 = .ok (.iload 5, 2) := by decide +kernel
theorem dL_law_341 : decode cL_law 341 = .ok (.iconst 3, 1) := by decide +kernel
theorem dL_law_342 : decode cL_law 342 = .ok (.iadd, 1) := by decide +kernel
theorem dL_law_343 : decode cL_law 343 = .ok (.iaload, 1) := by decide +kernel
theorem dL_law_344 : decode cL_law 344 = .ok (.invokevirtual 141, 3) := by decide +kernel
theorem dL_law_347 : decode cL_law 347 = .ok (.istore 7, 2) := by decide +kernel
theorem dL_law_349 : decode cL_law 349 = .ok (.aload_n 2, 1) := by decide +kernel
theorem dL_law_350 : decode cL_law 350 = .ok (.invokevirtual 135, 3) := by decide +kernel
theorem dL_law_353 : decode cL_law 353 = .ok (.iload 6, 2) := by decide +kernel
theorem dL_law_355 : decode cL_law 355 = .ok (.if_icmp .eq 5, 3) := by decide +kernel
theorem dL_law_358 : decode cL_law 358 = .ok (.iconst 0, 1) := by decide +kernel
theorem dL_law_359 : decode cL_law 359 = .ok (.ireturn, 1) := by decide +kernel
theorem dL_law_360 : decode cL_law 360 = .ok (.iload 6, 2) := by decide +kernel
theorem dL_law_362 : decode cL_law 362 = .ok (.ifCond .ne 15, 3) := by decide +kernel
theorem dL_law_365 : decode cL_law 365 = .ok (.aload_n 3, 1) := by decide +kernel
theorem dL_law_366 : decode cL_law 366 = .ok (.iconst 0, 1) := by decide +kernel
theorem dL_law_367 : decode cL_law 367 = .ok (.laload, 1) := by decide +kernel
theorem dL_law_368 : decode cL_law 368 = .ok (.iload 7, 2) := by decide +kernel
theorem dL_law_370 : decode cL_law 370 = .ok (.i2l, 1) := by decide +kernel
theorem dL_law_371 : decode cL_law 371 = .ok (.lcmp, 1) := by decide +kernel
theorem dL_law_372 : decode cL_law 372 = .ok (.ifCond .eq 5, 3) := by decide +kernel
theorem dL_law_375 : decode cL_law 375 = .ok (.iconst 0, 1) := by decide +kernel
theorem dL_law_376 : decode cL_law 376 = .ok (.ireturn, 1) := by decide +kernel
theorem dL_law_377 : decode cL_law 377 = .ok (.goto 1777, 3) := by decide +kernel
theorem dL_law_380 : decode cL_law 380 = .ok (.aload_n 1, 1) := by decide +kernel
theorem dL_law_381 : decode cL_law 381 = .ok (.aload_n 0, 1) := by decide +kernel
theorem dL_law_382 : decode cL_law 382 = .ok (.iload 5, 2) := by decide +kernel
theorem dL_law_384 : decode cL_law 384 = .ok (.iconst 1, 1) := by decide +kernel
theorem dL_law_385 : decode cL_law 385 = .ok (.iadd, 1) := by decide +kernel
theorem dL_law_386 : decode cL_law 386 = .ok (.iaload, 1) := by decide +kernel
theorem dL_law_387 : decode cL_law 387 = .ok (.aload_n 3, 1) := by decide +kernel
theorem dL_law_388 : decode cL_law 388 = .ok (.invokestatic 142, 3) := by decide +kernel
theorem dL_law_391 : decode cL_law 391 = .ok (.istore 6, 2) := by decide +kernel
theorem dL_law_393 : decode cL_law 393 = .ok (.aload_n 2, 1) := by decide +kernel
theorem dL_law_394 : decode cL_law 394 = .ok (.aload_n 0, 1) := by decide +kernel
theorem dL_law_395 : decode cL_law 395 = .ok (.iload 5, 2) := by decide +kernel
theorem dL_law_397 : decode cL_law 397 = .ok (.iconst 1, 1) := by decide +kernel
theorem dL_law_398 : decode cL_law 398 = .ok (.iadd, 1) := by decide +kernel
theorem dL_law_399 : decode cL_law 399 = .ok (.iaload, 1) := by decide +kernel
theorem dL_law_400 : decode cL_law 400 = .ok (.invokevirtual 145, 3) := by decide +kernel
theorem dL_law_403 : decode cL_law 403 = .ok (.istore 7, 2) := by decide +kernel
theorem dL_law_405 : decode cL_law 405 = .ok (.aload_n 2, 1) := by decide +kernel
theorem dL_law_406 : decode cL_law 406 = .ok (.invokevirtual 135, 3) := by decide +kernel
theorem dL_law_409 : decode cL_law 409 = .ok (.iload 6, 2) := by decide +kernel
theorem dL_law_411 : decode cL_law 411 = .ok (.if_icmp .eq 5, 3) := by decide +kernel
theorem dL_law_414 : decode cL_law 414 = .ok (.iconst 0, 1) := by decide +kernel
theorem dL_law_415 : decode cL_law 415 = .ok (.ireturn, 1) := by decide +kernel
theorem dL_law_416 : decode cL_law 416 = .ok (.iload 6, 2) := by decide +kernel
theorem dL_law_418 : decode cL_law 418 = .ok (.ifCond .ne 15, 3) := by decide +kernel
theorem dL_law_421 : decode cL_law 421 = .ok (.aload_n 3, 1) := by decide +kernel
theorem dL_law_422 : decode cL_law 422 = .ok (.iconst 0, 1) := by decide +kernel
theorem dL_law_423 : decode cL_law 423 = .ok (.laload, 1) := by decide +kernel
theorem dL_law_424 : decode cL_law 424 = .ok (.iload 7, 2) := by decide +kernel
theorem dL_law_426 : decode cL_law 426 = .ok (.i2l, 1) := by decide +kernel
theorem dL_law_427 : decode cL_law 427 = .ok (.lcmp, 1) := by decide +kernel
theorem dL_law_428 : decode cL_law 428 = .ok (.ifCond .eq 5, 3) := by decide +kernel
theorem dL_law_431 : decode cL_law 431 = .ok (.iconst 0, 1) := by decide +kernel
theorem dL_law_432 : decode cL_law 432 = .ok (.ireturn, 1) := by decide +kernel
theorem dL_law_433 : decode cL_law 433 = .ok (.goto 1721, 3) := by decide +kernel
theorem dL_law_436 : decode cL_law 436 = .ok (.aload_n 1, 1) := by decide +kernel
theorem dL_law_437 : decode cL_law 437 = .ok (.aload_n 0, 1) := by decide +kernel
theorem dL_law_438 : decode cL_law 438 = .ok (.iload 5, 2) := by decide +kernel
theorem dL_law_440 : decode cL_law 440 = .ok (.iconst 1, 1) := by decide +kernel
theorem dL_law_441 : decode cL_law 441 = .ok (.iadd, 1) := by decide +kernel
theorem dL_law_442 : decode cL_law 442 = .ok (.iaload, 1) := by decide +kernel
theorem dL_law_443 : decode cL_law 443 = .ok (.aload_n 3, 1) := by decide +kernel
theorem dL_law_444 : decode cL_law 444 = .ok (.invokestatic 146, 3) := by decide +kernel
theorem dL_law_447 : decode cL_law 447 = .ok (.istore 6, 2) := by decide +kernel
theorem dL_law_449 : decode cL_law 449 = .ok (.aload_n 2, 1) := by decide +kernel
theorem dL_law_450 : decode cL_law 450 = .ok (.aload_n 0, 1) := by decide +kernel
theorem dL_law_451 : decode cL_law 451 = .ok (.iload 5, 2) := by decide +kernel
theorem dL_law_453 : decode cL_law 453 = .ok (.iconst 1, 1) := by decide +kernel
theorem dL_law_454 : decode cL_law 454 = .ok (.iadd, 1) := by decide +kernel
theorem dL_law_455 : decode cL_law 455 = .ok (.iaload, 1) := by decide +kernel
theorem dL_law_456 : decode cL_law 456 = .ok (.invokevirtual 148, 3) := by decide +kernel
theorem dL_law_459 : decode cL_law 459 = .ok (.istore 7, 2) := by decide +kernel
theorem dL_law_461 : decode cL_law 461 = .ok (.aload_n 2, 1) := by decide +kernel
theorem dL_law_462 : decode cL_law 462 = .ok (.invokevirtual 135, 3) := by decide +kernel
theorem dL_law_465 : decode cL_law 465 = .ok (.iload 6, 2) := by decide +kernel
theorem dL_law_467 : decode cL_law 467 = .ok (.if_icmp .eq 5, 3) := by decide +kernel
theorem dL_law_470 : decode cL_law 470 = .ok (.iconst 0, 1) := by decide +kernel
theorem dL_law_471 : decode cL_law 471 = .ok (.ireturn, 1) := by decide +kernel
theorem dL_law_472 : decode cL_law 472 = .ok (.iload 6, 2) := by decide +kernel
theorem dL_law_474 : decode cL_law 474 = .ok (.ifCond .ne 15, 3) := by decide +kernel
theorem dL_law_477 : decode cL_law 477 = .ok (.aload_n 3, 1) := by decide +kernel
theorem dL_law_478 : decode cL_law 478 = .ok (.iconst 0, 1) := by decide +kernel
theorem dL_law_479 : decode cL_law 479 = .ok (.laload, 1) := by decide +kernel
theorem dL_law_480 : decode cL_law 480 = .ok (.iload 7, 2) := by decide +kernel
theorem dL_law_482 : decode cL_law 482 = .ok (.i2l, 1) := by decide +kernel
theorem dL_law_483 : decode cL_law 483 = .ok (.lcmp, 1) := by decide +kernel
theorem dL_law_484 : decode cL_law 484 = .ok (.ifCond .eq 5, 3) := by decide +kernel
theorem dL_law_487 : decode cL_law 487 = .ok (.iconst 0, 1) := by decide +kernel
theorem dL_law_488 : decode cL_law 488 = .ok (.ireturn, 1) := by decide +kernel
theorem dL_law_489 : decode cL_law 489 = .ok (.goto 1665, 3) := by decide +kernel
theorem dL_law_492 : decode cL_law 492 = .ok (.aload_n 1, 1) := by decide +kernel
theorem dL_law_493 : decode cL_law 493 = .ok (.aload_n 0, 1) := by decide +kernel
theorem dL_law_494 : decode cL_law 494 = .ok (.iload 5, 2) := by decide +kernel
theorem dL_law_496 : decode cL_law 496 = .ok (.iconst 1, 1) := by decide +kernel
theorem dL_law_497 : decode cL_law 497 = .ok (.iadd, 1) := by decide +kernel
theorem dL_law_498 : decode cL_law 498 = .ok (.iaload, 1) := by decide +kernel
theorem dL_law_499 : decode cL_law 499 = .ok (.aload_n 0, 1) := by decide +kernel
theorem dL_law_500 : decode cL_law 500 = .ok (.iload 5, 2) := by decide +kernel
theorem dL_law_502 : decode cL_law 502 = .ok (.iconst 2, 1) := by decide +kernel
theorem dL_law_503 : decode cL_law 503 = .ok (.iadd, 1) := by decide +kernel
theorem dL_law_504 : decode cL_law 504 = .ok (.iaload, 1) := by decide +kernel
theorem dL_law_505 : decode cL_law 505 = .ok (.aload_n 3, 1) := by decide +kernel
theorem dL_law_506 : decode cL_law 506 = .ok (.invokestatic 149, 3) := by decide +kernel
theorem dL_law_509 : decode cL_law 509 = .ok (.istore 6, 2) := by decide +kernel
theorem dL_law_511 : decode cL_law 511 = .ok (.aload_n 2, 1) := by decide +kernel
theorem dL_law_512 : decode cL_law 512 = .ok (.aload_n 0, 1) := by decide +kernel
theorem dL_law_513 : decode cL_law 513 = .ok (.iload 5, 2) := by decide +kernel
theorem dL_law_515 : decode cL_law 515 = .ok (.iconst 1, 1) := by decide +kernel
theorem dL_law_516 : decode cL_law 516 = .ok (.iadd, 1) := by decide +kernel
theorem dL_law_517 : decode cL_law 517 = .ok (.iaload, 1) := by decide +kernel
theorem dL_law_518 : decode cL_law 518 = .ok (.aload_n 0, 1) := by decide +kernel
theorem dL_law_519 : decode cL_law 519 = .ok (.iload 5, 2) := by decide +kernel
theorem dL_law_521 : decode cL_law 521 = .ok (.iconst 2, 1) := by decide +kernel
theorem dL_law_522 : decode cL_law 522 = .ok (.iadd, 1) := by decide +kernel
theorem dL_law_523 : decode cL_law 523 = .ok (.iaload, 1) := by decide +kernel
theorem dL_law_524 : decode cL_law 524 = .ok (.invokevirtual 152, 3) := by decide +kernel
theorem dL_law_527 : decode cL_law 527 = .ok (.istore 7, 2) := by decide +kernel
theorem dL_law_529 : decode cL_law 529 = .ok (.aload_n 2, 1) := by decide +kernel
theorem dL_law_530 : decode cL_law 530 = .ok (.invokevirtual 135, 3) := by decide +kernel
theorem dL_law_533 : decode cL_law 533 = .ok (.iload 6, 2) := by decide +kernel
theorem dL_law_535 : decode cL_law 535 = .ok (.if_icmp .eq 5, 3) := by decide +kernel
theorem dL_law_538 : decode cL_law 538 = .ok (.iconst 0, 1) := by decide +kernel
theorem dL_law_539 : decode cL_law 539 = .ok (.ireturn, 1) := by decide +kernel
theorem dL_law_540 : decode cL_law 540 = .ok (.iload 6, 2) := by decide +kernel
theorem dL_law_542 : decode cL_law 542 = .ok (.ifCond .ne 15, 3) := by decide +kernel
theorem dL_law_545 : decode cL_law 545 = .ok (.aload_n 3, 1) := by decide +kernel
theorem dL_law_546 : decode cL_law 546 = .ok (.iconst 0, 1) := by decide +kernel
theorem dL_law_547 : decode cL_law 547 = .ok (.laload, 1) := by decide +kernel
theorem dL_law_548 : decode cL_law 548 = .ok (.iload 7, 2) := by decide +kernel
theorem dL_law_550 : decode cL_law 550 = .ok (.i2l, 1) := by decide +kernel
theorem dL_law_551 : decode cL_law 551 = .ok (.lcmp, 1) := by decide +kernel
theorem dL_law_552 : decode cL_law 552 = .ok (.ifCond .eq 5, 3) := by decide +kernel
theorem dL_law_555 : decode cL_law 555 = .ok (.iconst 0, 1) := by decide +kernel
theorem dL_law_556 : decode cL_law 556 = .ok (.ireturn, 1) := by decide +kernel
theorem dL_law_557 : decode cL_law 557 = .ok (.goto 1597, 3) := by decide +kernel
theorem dL_law_560 : decode cL_law 560 = .ok (.aload_n 1, 1) := by decide +kernel
theorem dL_law_561 : decode cL_law 561 = .ok (.aload_n 0, 1) := by decide +kernel
theorem dL_law_562 : decode cL_law 562 = .ok (.iload 5, 2) := by decide +kernel
theorem dL_law_564 : decode cL_law 564 = .ok (.iconst 1, 1) := by decide +kernel
theorem dL_law_565 : decode cL_law 565 = .ok (.iadd, 1) := by decide +kernel
theorem dL_law_566 : decode cL_law 566 = .ok (.iaload, 1) := by decide +kernel
theorem dL_law_567 : decode cL_law 567 = .ok (.aload_n 3, 1) := by decide +kernel
theorem dL_law_568 : decode cL_law 568 = .ok (.invokestatic 153, 3) := by decide +kernel
theorem dL_law_571 : decode cL_law 571 = .ok (.istore 6, 2) := by decide +kernel
theorem dL_law_573 : decode cL_law 573 = .ok (.aload_n 2, 1) := by decide +kernel
theorem dL_law_574 : decode cL_law 574 = .ok (.aload_n 0, 1) := by decide +kernel
theorem dL_law_575 : decode cL_law 575 = .ok (.iload 5, 2) := by decide +kernel
theorem dL_law_577 : decode cL_law 577 = .ok (.iconst 1, 1) := by decide +kernel
theorem dL_law_578 : decode cL_law 578 = .ok (.iadd, 1) := by decide +kernel
theorem dL_law_579 : decode cL_law 579 = .ok (.iaload, 1) := by decide +kernel
theorem dL_law_580 : decode cL_law 580 = .ok (.invokevirtual 155, 3) := by decide +kernel
theorem dL_law_583 : decode cL_law 583 = .ok (.istore 7, 2) := by decide +kernel
theorem dL_law_585 : decode cL_law 585 = .ok (.aload_n 2, 1) := by decide +kernel
theorem dL_law_586 : decode cL_law 586 = .ok (.invokevirtual 135, 3) := by decide +kernel
theorem dL_law_589 : decode cL_law 589 = .ok (.iload 6, 2) := by decide +kernel
theorem dL_law_591 : decode cL_law 591 = .ok (.if_icmp .eq 5, 3) := by decide +kernel
theorem dL_law_594 : decode cL_law 594 = .ok (.iconst 0, 1) := by decide +kernel
theorem dL_law_595 : decode cL_law 595 = .ok (.ireturn, 1) := by decide +kernel
theorem dL_law_596 : decode cL_law 596 = .ok (.iload 6, 2) := by decide +kernel
theorem dL_law_598 : decode cL_law 598 = .ok (.ifCond .ne 15, 3) := by decide +kernel
theorem dL_law_601 : decode cL_law 601 = .ok (.aload_n 3, 1) := by decide +kernel
theorem dL_law_602 : decode cL_law 602 = .ok (.iconst 0, 1) := by decide +kernel
theorem dL_law_603 : decode cL_law 603 = .ok (.laload, 1) := by decide +kernel
theorem dL_law_604 : decode cL_law 604 = .ok (.iload 7, 2) := by decide +kernel
theorem dL_law_606 : decode cL_law 606 = .ok (.i2l, 1) := by decide +kernel
theorem dL_law_607 : decode cL_law 607 = .ok (.lcmp, 1) := by decide +kernel
theorem dL_law_608 : decode cL_law 608 = .ok (.ifCond .eq 5, 3) := by decide +kernel
theorem dL_law_611 : decode cL_law 611 = .ok (.iconst 0, 1) := by decide +kernel
theorem dL_law_612 : decode cL_law 612 = .ok (.ireturn, 1) := by decide +kernel
theorem dL_law_613 : decode cL_law 613 = .ok (.goto 1541, 3) := by decide +kernel
theorem dL_law_616 : decode cL_law 616 = .ok (.aload_n 1, 1) := by decide +kernel
theorem dL_law_617 : decode cL_law 617 = .ok (.aload_n 0, 1) := by decide +kernel
theorem dL_law_618 : decode cL_law 618 = .ok (.iload 5, 2) := by decide +kernel
theorem dL_law_620 : decode cL_law 620 = .ok (.iconst 1, 1) := by decide +kernel
theorem dL_law_621 : decode cL_law 621 = .ok (.iadd, 1) := by decide +kernel
theorem dL_law_622 : decode cL_law 622 = .ok (.iaload, 1) := by decide +kernel
theorem dL_law_623 : decode cL_law 623 = .ok (.aload_n 0, 1) := by decide +kernel
theorem dL_law_624 : decode cL_law 624 = .ok (.iload 5, 2) := by decide +kernel
theorem dL_law_626 : decode cL_law 626 = .ok (.iconst 2, 1) := by decide +kernel
theorem dL_law_627 : decode cL_law 627 = .ok (.iadd, 1) := by decide +kernel
theorem dL_law_628 : decode cL_law 628 = .ok (.iaload, 1) := by decide +kernel
theorem dL_law_629 : decode cL_law 629 = .ok (.aload_n 0, 1) := by decide +kernel
theorem dL_law_630 : decode cL_law 630 = .ok (.iload 5, 2) := by decide +kernel
theorem dL_law_632 : decode cL_law 632 = .ok (.iconst 3, 1) := by decide +kernel
theorem dL_law_633 : decode cL_law 633 = .ok (.iadd, 1) := by decide +kernel
theorem dL_law_634 : decode cL_law 634 = .ok (.iaload, 1) := by decide +kernel
theorem dL_law_635 : decode cL_law 635 = .ok (.aload_n 3, 1) := by decide +kernel
theorem dL_law_636 : decode cL_law 636 = .ok (.invokestatic 156, 3) := by decide +kernel
theorem dL_law_639 : decode cL_law 639 = .ok (.istore 6, 2) := by decide +kernel
theorem dL_law_641 : decode cL_law 641 = .ok (.aload_n 2, 1) := by decide +kernel
theorem dL_law_642 : decode cL_law 642 = .ok (.aload_n 0, 1) := by decide +kernel
theorem dL_law_643 : decode cL_law 643 = .ok (.iload 5, 2) := by decide +kernel
theorem dL_law_645 : decode cL_law 645 = .ok (.iconst 1, 1) := by decide +kernel
theorem dL_law_646 : decode cL_law 646 = .ok (.iadd, 1) := by decide +kernel
theorem dL_law_647 : decode cL_law 647 = .ok (.iaload, 1) := by decide +kernel
theorem dL_law_648 : decode cL_law 648 = .ok (.aload_n 0, 1) := by decide +kernel
theorem dL_law_649 : decode cL_law 649 = .ok (.iload 5, 2) := by decide +kernel
theorem dL_law_651 : decode cL_law 651 = .ok (.iconst 2, 1) := by decide +kernel
theorem dL_law_652 : decode cL_law 652 = .ok (.iadd, 1) := by decide +kernel
theorem dL_law_653 : decode cL_law 653 = .ok (.iaload, 1) := by decide +kernel
theorem dL_law_654 : decode cL_law 654 = .ok (.aload_n 0, 1) := by decide +kernel
theorem dL_law_655 : decode cL_law 655 = .ok (.iload 5, 2) := by decide +kernel
theorem dL_law_657 : decode cL_law 657 = .ok (.iconst 3, 1) := by decide +kernel
theorem dL_law_658 : decode cL_law 658 = .ok (.iadd, 1) := by decide +kernel
theorem dL_law_659 : decode cL_law 659 = .ok (.iaload, 1) := by decide +kernel
theorem dL_law_660 : decode cL_law 660 = .ok (.invokevirtual 158, 3) := by decide +kernel
theorem dL_law_663 : decode cL_law 663 = .ok (.istore 7, 2) := by decide +kernel
theorem dL_law_665 : decode cL_law 665 = .ok (.aload_n 2, 1) := by decide +kernel
theorem dL_law_666 : decode cL_law 666 = .ok (.invokevirtual 135, 3) := by decide +kernel
theorem dL_law_669 : decode cL_law 669 = .ok (.iload 6, 2) := by decide +kernel
theorem dL_law_671 : decode cL_law 671 = .ok (.if_icmp .eq 5, 3) := by decide +kernel
theorem dL_law_674 : decode cL_law 674 = .ok (.iconst 0, 1) := by decide +kernel
theorem dL_law_675 : decode cL_law 675 = .ok (.ireturn, 1) := by decide +kernel
theorem dL_law_676 : decode cL_law 676 = .ok (.iload 6, 2) := by decide +kernel
theorem dL_law_678 : decode cL_law 678 = .ok (.ifCond .ne 15, 3) := by decide +kernel
theorem dL_law_681 : decode cL_law 681 = .ok (.aload_n 3, 1) := by decide +kernel
theorem dL_law_682 : decode cL_law 682 = .ok (.iconst 0, 1) := by decide +kernel
theorem dL_law_683 : decode cL_law 683 = .ok (.laload, 1) := by decide +kernel
theorem dL_law_684 : decode cL_law 684 = .ok (.iload 7, 2) := by decide +kernel
theorem dL_law_686 : decode cL_law 686 = .ok (.i2l, 1) := by decide +kernel
theorem dL_law_687 : decode cL_law 687 = .ok (.lcmp, 1) := by decide +kernel
theorem dL_law_688 : decode cL_law 688 = .ok (.ifCond .eq 5, 3) := by decide +kernel
theorem dL_law_691 : decode cL_law 691 = .ok (.iconst 0, 1) := by decide +kernel
theorem dL_law_692 : decode cL_law 692 = .ok (.ireturn, 1) := by decide +kernel
theorem dL_law_693 : decode cL_law 693 = .ok (.goto 1461, 3) := by decide +kernel
theorem dL_law_696 : decode cL_law 696 = .ok (.aload_n 1, 1) := by decide +kernel
theorem dL_law_697 : decode cL_law 697 = .ok (.aload_n 0, 1) := by decide +kernel
theorem dL_law_698 : decode cL_law 698 = .ok (.iload 5, 2) := by decide +kernel
theorem dL_law_700 : decode cL_law 700 = .ok (.iconst 1, 1) := by decide +kernel
theorem dL_law_701 : decode cL_law 701 = .ok (.iadd, 1) := by decide +kernel
theorem dL_law_702 : decode cL_law 702 = .ok (.iaload, 1) := by decide +kernel
theorem dL_law_703 : decode cL_law 703 = .ok (.aload_n 3, 1) := by decide +kernel
theorem dL_law_704 : decode cL_law 704 = .ok (.invokestatic 159, 3) := by decide +kernel
theorem dL_law_707 : decode cL_law 707 = .ok (.istore 6, 2) := by decide +kernel
theorem dL_law_709 : decode cL_law 709 = .ok (.aload_n 2, 1) := by decide +kernel
theorem dL_law_710 : decode cL_law 710 = .ok (.aload_n 0, 1) := by decide +kernel
theorem dL_law_711 : decode cL_law 711 = .ok (.iload 5, 2) := by decide +kernel
theorem dL_law_713 : decode cL_law 713 = .ok (.iconst 1, 1) := by decide +kernel
theorem dL_law_714 : decode cL_law 714 = .ok (.iadd, 1) := by decide +kernel
theorem dL_law_715 : decode cL_law 715 = .ok (.iaload, 1) := by decide +kernel
theorem dL_law_716 : decode cL_law 716 = .ok (.invokevirtual 161, 3) := by decide +kernel
theorem dL_law_719 : decode cL_law 719 = .ok (.istore 7, 2) := by decide +kernel
theorem dL_law_721 : decode cL_law 721 = .ok (.aload_n 2, 1) := by decide +kernel
theorem dL_law_722 : decode cL_law 722 = .ok (.invokevirtual 135, 3) := by decide +kernel
theorem dL_law_725 : decode cL_law 725 = .ok (.iload 6, 2) := by decide +kernel
theorem dL_law_727 : decode cL_law 727 = .ok (.if_icmp .eq 5, 3) := by decide +kernel
theorem dL_law_730 : decode cL_law 730 = .ok (.iconst 0, 1) := by decide +kernel
theorem dL_law_731 : decode cL_law 731 = .ok (.ireturn, 1) := by decide +kernel
theorem dL_law_732 : decode cL_law 732 = .ok (.iload 6, 2) := by decide +kernel
theorem dL_law_734 : decode cL_law 734 = .ok (.ifCond .ne 15, 3) := by decide +kernel
theorem dL_law_737 : decode cL_law 737 = .ok (.aload_n 3, 1) := by decide +kernel
theorem dL_law_738 : decode cL_law 738 = .ok (.iconst 0, 1) := by decide +kernel
theorem dL_law_739 : decode cL_law 739 = .ok (.laload, 1) := by decide +kernel
theorem dL_law_740 : decode cL_law 740 = .ok (.iload 7, 2) := by decide +kernel
theorem dL_law_742 : decode cL_law 742 = .ok (.i2l, 1) := by decide +kernel
theorem dL_law_743 : decode cL_law 743 = .ok (.lcmp, 1) := by decide +kernel
theorem dL_law_744 : decode cL_law 744 = .ok (.ifCond .eq 5, 3) := by decide +kernel
theorem dL_law_747 : decode cL_law 747 = .ok (.iconst 0, 1) := by decide +kernel
theorem dL_law_748 : decode cL_law 748 = .ok (.ireturn, 1) := by decide +kernel
theorem dL_law_749 : decode cL_law 749 = .ok (.goto 1405, 3) := by decide +kernel
theorem dL_law_752 : decode cL_law 752 = .ok (.aload_n 1, 1) := by decide +kernel
theorem dL_law_753 : decode cL_law 753 = .ok (.aload_n 0, 1) := by decide +kernel
theorem dL_law_754 : decode cL_law 754 = .ok (.iload 5, 2) := by decide +kernel
theorem dL_law_756 : decode cL_law 756 = .ok (.iconst 1, 1) := by decide +kernel
theorem dL_law_757 : decode cL_law 757 = .ok (.iadd, 1) := by decide +kernel
theorem dL_law_758 : decode cL_law 758 = .ok (.iaload, 1) := by decide +kernel
theorem dL_law_759 : decode cL_law 759 = .ok (.aload_n 0, 1) := by decide +kernel
theorem dL_law_760 : decode cL_law 760 = .ok (.iload 5, 2) := by decide +kernel
theorem dL_law_762 : decode cL_law 762 = .ok (.iconst 2, 1) := by decide +kernel
theorem dL_law_763 : decode cL_law 763 = .ok (.iadd, 1) := by decide +kernel
theorem dL_law_764 : decode cL_law 764 = .ok (.iaload, 1) := by decide +kernel
theorem dL_law_765 : decode cL_law 765 = .ok (.ifCond .eq 7, 3) := by decide +kernel
theorem dL_law_768 : decode cL_law 768 = .ok (.iconst 1, 1) := by decide +kernel
theorem dL_law_769 : decode cL_law 769 = .ok (.goto 4, 3) := by decide +kernel
theorem dL_law_772 : decode cL_law 772 = .ok (.iconst 0, 1) := by decide +kernel
theorem dL_law_773 : decode cL_law 773 = .ok (.aload_n 3, 1) := by decide +kernel
theorem dL_law_774 : decode cL_law 774 = .ok (.invokestatic 162, 3) := by decide +kernel
theorem dL_law_777 : decode cL_law 777 = .ok (.istore 6, 2) := by decide +kernel
theorem dL_law_779 : decode cL_law 779 = .ok (.aload_n 2, 1) := by decide +kernel
theorem dL_law_780 : decode cL_law 780 = .ok (.aload_n 0, 1) := by decide +kernel
theorem dL_law_781 : decode cL_law 781 = .ok (.iload 5, 2) := by decide +kernel
theorem dL_law_783 : decode cL_law 783 = .ok (.iconst 1, 1) := by decide +kernel
theorem dL_law_784 : decode cL_law 784 = .ok (.iadd, 1) := by decide +kernel
theorem dL_law_785 : decode cL_law 785 = .ok (.iaload, 1) := by decide +kernel
theorem dL_law_786 : decode cL_law 786 = .ok (.aload_n 0, 1) := by decide +kernel
theorem dL_law_787 : decode cL_law 787 = .ok (.iload 5, 2) := by decide +kernel
theorem dL_law_789 : decode cL_law 789 = .ok (.iconst 2, 1) := by decide +kernel
theorem dL_law_790 : decode cL_law 790 = .ok (.iadd, 1) := by decide +kernel
theorem dL_law_791 : decode cL_law 791 = .ok (.iaload, 1) := by decide +kernel
theorem dL_law_792 : decode cL_law 792 = .ok (.ifCond .eq 7, 3) := by decide +kernel
theorem dL_law_795 : decode cL_law 795 = .ok (.iconst 1, 1) := by decide +kernel
theorem dL_law_796 : decode cL_law 796 = .ok (.goto 4, 3) := by decide +kernel
theorem dL_law_799 : decode cL_law 799 = .ok (.iconst 0, 1) := by decide +kernel
theorem dL_law_800 : decode cL_law 800 = .ok (.invokevirtual 165, 3) := by decide +kernel
theorem dL_law_803 : decode cL_law 803 = .ok (.istore 7, 2) := by decide +kernel
theorem dL_law_805 : decode cL_law 805 = .ok (.aload_n 2, 1) := by decide +kernel
theorem dL_law_806 : decode cL_law 806 = .ok (.invokevirtual 135, 3) := by decide +kernel
theorem dL_law_809 : decode cL_law 809 = .ok (.iload 6, 2) := by decide +kernel
theorem dL_law_811 : decode cL_law 811 = .ok (.if_icmp .eq 5, 3) := by decide +kernel
theorem dL_law_814 : decode cL_law 814 = .ok (.iconst 0, 1) := by decide +kernel
theorem dL_law_815 : decode cL_law 815 = .ok (.ireturn, 1) := by decide +kernel
theorem dL_law_816 : decode cL_law 816 = .ok (.iload 6, 2) := by decide +kernel
theorem dL_law_818 : decode cL_law 818 = .ok (.ifCond .ne 15, 3) := by decide +kernel
theorem dL_law_821 : decode cL_law 821 = .ok (.aload_n 3, 1) := by decide +kernel
theorem dL_law_822 : decode cL_law 822 = .ok (.iconst 0, 1) := by decide +kernel
theorem dL_law_823 : decode cL_law 823 = .ok (.laload, 1) := by decide +kernel
theorem dL_law_824 : decode cL_law 824 = .ok (.iload 7, 2) := by decide +kernel
theorem dL_law_826 : decode cL_law 826 = .ok (.i2l, 1) := by decide +kernel
theorem dL_law_827 : decode cL_law 827 = .ok (.lcmp, 1) := by decide +kernel
theorem dL_law_828 : decode cL_law 828 = .ok (.ifCond .eq 5, 3) := by decide +kernel
theorem dL_law_831 : decode cL_law 831 = .ok (.iconst 0, 1) := by decide +kernel
theorem dL_law_832 : decode cL_law 832 = .ok (.ireturn, 1) := by decide +kernel
theorem dL_law_833 : decode cL_law 833 = .ok (.goto 1321, 3) := by decide +kernel
theorem dL_law_836 : decode cL_law 836 = .ok (.aload_n 1, 1) := by decide +kernel
theorem dL_law_837 : decode cL_law 837 = .ok (.aload_n 3, 1) := by decide +kernel
theorem dL_law_838 : decode cL_law 838 = .ok (.invokestatic 166, 3) := by decide +kernel
theorem dL_law_841 : decode cL_law 841 = .ok (.istore 6, 2) := by decide +kernel
theorem dL_law_843 : decode cL_law 843 = .ok (.aload_n 2, 1) := by decide +kernel
theorem dL_law_844 : decode cL_law 844 = .ok (.invokevirtual 169, 3) := by decide +kernel
theorem dL_law_847 : decode cL_law 847 = .ok (.istore 7, 2) := by decide +kernel
theorem dL_law_849 : decode cL_law 849 = .ok (.aload_n 2, 1) := by decide +kernel
theorem dL_law_850 : decode cL_law 850 = .ok (.invokevirtual 135, 3) := by decide +kernel
theorem dL_law_853 : decode cL_law 853 = .ok (.iload 6, 2) := by decide +kernel
theorem dL_law_855 : decode cL_law 855 = .ok (.if_icmp .eq 5, 3) := by decide +kernel
theorem dL_law_858 : decode cL_law 858 = .ok (.iconst 0, 1) := by decide +kernel
theorem dL_law_859 : decode cL_law 859 = .ok (.ireturn, 1) := by decide +kernel
theorem dL_law_860 : decode cL_law 860 = .ok (.iload 6, 2) := by decide +kernel
theorem dL_law_862 : decode cL_law 862 = .ok (.ifCond .ne 15, 3) := by decide +kernel
theorem dL_law_865 : decode cL_law 865 = .ok (.aload_n 3, 1) := by decide +kernel
theorem dL_law_866 : decode cL_law 866 = .ok (.iconst 0, 1) := by decide +kernel
theorem dL_law_867 : decode cL_law 867 = .ok (.laload, 1) := by decide +kernel
theorem dL_law_868 : decode cL_law 868 = .ok (.iload 7, 2) := by decide +kernel
theorem dL_law_870 : decode cL_law 870 = .ok (.i2l, 1) := by decide +kernel
theorem dL_law_871 : decode cL_law 871 = .ok (.lcmp, 1) := by decide +kernel
theorem dL_law_872 : decode cL_law 872 = .ok (.ifCond .eq 5, 3) := by decide +kernel
theorem dL_law_875 : decode cL_law 875 = .ok (.iconst 0, 1) := by decide +kernel
theorem dL_law_876 : decode cL_law 876 = .ok (.ireturn, 1) := by decide +kernel
theorem dL_law_877 : decode cL_law 877 = .ok (.goto 1277, 3) := by decide +kernel
theorem dL_law_880 : decode cL_law 880 = .ok (.aload_n 1, 1) := by decide +kernel
theorem dL_law_881 : decode cL_law 881 = .ok (.aload_n 0, 1) := by decide +kernel
theorem dL_law_882 : decode cL_law 882 = .ok (.iload 5, 2) := by decide +kernel
theorem dL_law_884 : decode cL_law 884 = .ok (.iconst 1, 1) := by decide +kernel
theorem dL_law_885 : decode cL_law 885 = .ok (.iadd, 1) := by decide +kernel
theorem dL_law_886 : decode cL_law 886 = .ok (.iaload, 1) := by decide +kernel
theorem dL_law_887 : decode cL_law 887 = .ok (.aload_n 3, 1) := by decide +kernel
theorem dL_law_888 : decode cL_law 888 = .ok (.invokestatic 170, 3) := by decide +kernel
theorem dL_law_891 : decode cL_law 891 = .ok (.istore 6, 2) := by decide +kernel
theorem dL_law_893 : decode cL_law 893 = .ok (.aload_n 2, 1) := by decide +kernel
theorem dL_law_894 : decode cL_law 894 = .ok (.aload_n 0, 1) := by decide +kernel
theorem dL_law_895 : decode cL_law 895 = .ok (.iload 5, 2) := by decide +kernel
theorem dL_law_897 : decode cL_law 897 = .ok (.iconst 1, 1) := by decide +kernel
theorem dL_law_898 : decode cL_law 898 = .ok (.iadd, 1) := by decide +kernel
theorem dL_law_899 : decode cL_law 899 = .ok (.iaload, 1) := by decide +kernel
theorem dL_law_900 : decode cL_law 900 = .ok (.invokevirtual 172, 3) := by decide +kernel
theorem dL_law_903 : decode cL_law 903 = .ok (.istore 7, 2) := by decide +kernel
theorem dL_law_905 : decode cL_law 905 = .ok (.aload_n 2, 1) := by decide +kernel
theorem dL_law_906 : decode cL_law 906 = .ok (.invokevirtual 135, 3) := by decide +kernel
theorem dL_law_909 : decode cL_law 909 = .ok (.iload 6, 2) := by decide +kernel
theorem dL_law_911 : decode cL_law 911 = .ok (.if_icmp .eq 5, 3) := by decide +kernel
theorem dL_law_914 : decode cL_law 914 = .ok (.iconst 0, 1) := by decide +kernel
theorem dL_law_915 : decode cL_law 915 = .ok (.ireturn, 1) := by decide +kernel
theorem dL_law_916 : decode cL_law 916 = .ok (.iload 6, 2) := by decide +kernel
theorem dL_law_918 : decode cL_law 918 = .ok (.ifCond .ne 15, 3) := by decide +kernel
theorem dL_law_921 : decode cL_law 921 = .ok (.aload_n 3, 1) := by decide +kernel
theorem dL_law_922 : decode cL_law 922 = .ok (.iconst 0, 1) := by decide +kernel
theorem dL_law_923 : decode cL_law 923 = .ok (.laload, 1) := by decide +kernel
theorem dL_law_924 : decode cL_law 924 = .ok (.iload 7, 2) := by decide +kernel
theorem dL_law_926 : decode cL_law 926 = .ok (.i2l, 1) := by decide +kernel
theorem dL_law_927 : decode cL_law 927 = .ok (.lcmp, 1) := by decide +kernel
theorem dL_law_928 : decode cL_law 928 = .ok (.ifCond .eq 5, 3) := by decide +kernel
theorem dL_law_931 : decode cL_law 931 = .ok (.iconst 0, 1) := by decide +kernel
theorem dL_law_932 : decode cL_law 932 = .ok (.ireturn, 1) := by decide +kernel
theorem dL_law_933 : decode cL_law 933 = .ok (.goto 1221, 3) := by decide +kernel
theorem dL_law_936 : decode cL_law 936 = .ok (.aload_n 1, 1) := by decide +kernel
theorem dL_law_937 : decode cL_law 937 = .ok (.aload_n 0, 1) := by decide +kernel
theorem dL_law_938 : decode cL_law 938 = .ok (.iload 5, 2) := by decide +kernel
theorem dL_law_940 : decode cL_law 940 = .ok (.iconst 1, 1) := by decide +kernel
theorem dL_law_941 : decode cL_law 941 = .ok (.iadd, 1) := by decide +kernel
theorem dL_law_942 : decode cL_law 942 = .ok (.iaload, 1) := by decide +kernel
theorem dL_law_943 : decode cL_law 943 = .ok (.aload_n 3, 1) := by decide +kernel
theorem dL_law_944 : decode cL_law 944 = .ok (.invokestatic 173, 3) := by decide +kernel
theorem dL_law_947 : decode cL_law 947 = .ok (.istore 6, 2) := by decide +kernel
theorem dL_law_949 : decode cL_law 949 = .ok (.aload_n 2, 1) := by decide +kernel
theorem dL_law_950 : decode cL_law 950 = .ok (.aload_n 0, 1) := by decide +kernel
theorem dL_law_951 : decode cL_law 951 = .ok (.iload 5, 2) := by decide +kernel
theorem dL_law_953 : decode cL_law 953 = .ok (.iconst 1, 1) := by decide +kernel
theorem dL_law_954 : decode cL_law 954 = .ok (.iadd, 1) := by decide +kernel
theorem dL_law_955 : decode cL_law 955 = .ok (.iaload, 1) := by decide +kernel
theorem dL_law_956 : decode cL_law 956 = .ok (.invokevirtual 175, 3) := by decide +kernel
theorem dL_law_959 : decode cL_law 959 = .ok (.istore 7, 2) := by decide +kernel
theorem dL_law_961 : decode cL_law 961 = .ok (.aload_n 2, 1) := by decide +kernel
theorem dL_law_962 : decode cL_law 962 = .ok (.invokevirtual 135, 3) := by decide +kernel
theorem dL_law_965 : decode cL_law 965 = .ok (.iload 6, 2) := by decide +kernel
theorem dL_law_967 : decode cL_law 967 = .ok (.if_icmp .eq 5, 3) := by decide +kernel
theorem dL_law_970 : decode cL_law 970 = .ok (.iconst 0, 1) := by decide +kernel
theorem dL_law_971 : decode cL_law 971 = .ok (.ireturn, 1) := by decide +kernel
theorem dL_law_972 : decode cL_law 972 = .ok (.iload 6, 2) := by decide +kernel
theorem dL_law_974 : decode cL_law 974 = .ok (.ifCond .ne 15, 3) := by decide +kernel
theorem dL_law_977 : decode cL_law 977 = .ok (.aload_n 3, 1) := by decide +kernel
theorem dL_law_978 : decode cL_law 978 = .ok (.iconst 0, 1) := by decide +kernel
theorem dL_law_979 : decode cL_law 979 = .ok (.laload, 1) := by decide +kernel
theorem dL_law_980 : decode cL_law 980 = .ok (.iload 7, 2) := by decide +kernel
theorem dL_law_982 : decode cL_law 982 = .ok (.i2l, 1) := by decide +kernel
theorem dL_law_983 : decode cL_law 983 = .ok (.lcmp, 1) := by decide +kernel
theorem dL_law_984 : decode cL_law 984 = .ok (.ifCond .eq 5, 3) := by decide +kernel
theorem dL_law_987 : decode cL_law 987 = .ok (.iconst 0, 1) := by decide +kernel
theorem dL_law_988 : decode cL_law 988 = .ok (.ireturn, 1) := by decide +kernel
theorem dL_law_989 : decode cL_law 989 = .ok (.goto 1165, 3) := by decide +kernel
theorem dL_law_992 : decode cL_law 992 = .ok (.aload_n 1, 1) := by decide +kernel
theorem dL_law_993 : decode cL_law 993 = .ok (.aload_n 0, 1) := by decide +kernel
theorem dL_law_994 : decode cL_law 994 = .ok (.iload 5, 2) := by decide +kernel
theorem dL_law_996 : decode cL_law 996 = .ok (.iconst 1, 1) := by decide +kernel
theorem dL_law_997 : decode cL_law 997 = .ok (.iadd, 1) := by decide +kernel
theorem dL_law_998 : decode cL_law 998 = .ok (.iaload, 1) := by decide +kernel
theorem dL_law_999 : decode cL_law 999 = .ok (.aload_n 0, 1) := by decide +kernel
theorem dL_law_1000 : decode cL_law 1000 = .ok (.iload 5, 2) := by decide +kernel
theorem dL_law_1002 : decode cL_law 1002 = .ok (.iconst 2, 1) := by decide +kernel
theorem dL_law_1003 : decode cL_law 1003 = .ok (.iadd, 1) := by decide +kernel
theorem dL_law_1004 : decode cL_law 1004 = .ok (.iaload, 1) := by decide +kernel
theorem dL_law_1005 : decode cL_law 1005 = .ok (.aload_n 0, 1) := by decide +kernel
theorem dL_law_1006 : decode cL_law 1006 = .ok (.iload 5, 2) := by decide +kernel
theorem dL_law_1008 : decode cL_law 1008 = .ok (.iconst 3, 1) := by decide +kernel
theorem dL_law_1009 : decode cL_law 1009 = .ok (.iadd, 1) := by decide +kernel
theorem dL_law_1010 : decode cL_law 1010 = .ok (.iaload, 1) := by decide +kernel
theorem dL_law_1011 : decode cL_law 1011 = .ok (.aload_n 3, 1) := by decide +kernel
theorem dL_law_1012 : decode cL_law 1012 = .ok (.invokestatic 176, 3) := by decide +kernel
theorem dL_law_1015 : decode cL_law 1015 = .ok (.istore 6, 2) := by decide +kernel
theorem dL_law_1017 : decode cL_law 1017 = .ok (.aload_n 2, 1) := by decide +kernel
theorem dL_law_1018 : decode cL_law 1018 = .ok (.aload_n 0, 1) := by decide +kernel
theorem dL_law_1019 : decode cL_law 1019 = .ok (.iload 5, 2) := by decide +kernel
theorem dL_law_1021 : decode cL_law 1021 = .ok (.iconst 1, 1) := by decide +kernel
theorem dL_law_1022 : decode cL_law 1022 = .ok (.iadd, 1) := by decide +kernel
theorem dL_law_1023 : decode cL_law 1023 = .ok (.iaload, 1) := by decide +kernel
theorem dL_law_1024 : decode cL_law 1024 = .ok (.aload_n 0, 1) := by decide +kernel
theorem dL_law_1025 : decode cL_law 1025 = .ok (.iload 5, 2) := by decide +kernel
theorem dL_law_1027 : decode cL_law 1027 = .ok (.iconst 2, 1) := by decide +kernel
theorem dL_law_1028 : decode cL_law 1028 = .ok (.iadd, 1) := by decide +kernel
theorem dL_law_1029 : decode cL_law 1029 = .ok (.iaload, 1) := by decide +kernel
theorem dL_law_1030 : decode cL_law 1030 = .ok (.aload_n 0, 1) := by decide +kernel
theorem dL_law_1031 : decode cL_law 1031 = .ok (.iload 5, 2) := by decide +kernel
theorem dL_law_1033 : decode cL_law 1033 = .ok (.iconst 3, 1) := by decide +kernel
theorem dL_law_1034 : decode cL_law 1034 = .ok (.iadd, 1) := by decide +kernel
theorem dL_law_1035 : decode cL_law 1035 = .ok (.iaload, 1) := by decide +kernel
theorem dL_law_1036 : decode cL_law 1036 = .ok (.invokevirtual 178, 3) := by decide +kernel
theorem dL_law_1039 : decode cL_law 1039 = .ok (.istore 7, 2) := by decide +kernel
theorem dL_law_1041 : decode cL_law 1041 = .ok (.aload_n 2, 1) := by decide +kernel
theorem dL_law_1042 : decode cL_law 1042 = .ok (.invokevirtual 135, 3) := by decide +kernel
theorem dL_law_1045 : decode cL_law 1045 = .ok (.iload 6, 2) := by decide +kernel
theorem dL_law_1047 : decode cL_law 1047 = .ok (.if_icmp .eq 5, 3) := by decide +kernel
theorem dL_law_1050 : decode cL_law 1050 = .ok (.iconst 0, 1) := by decide +kernel
theorem dL_law_1051 : decode cL_law 1051 = .ok (.ireturn, 1) := by decide +kernel
theorem dL_law_1052 : decode cL_law 1052 = .ok (.iload 6, 2) := by decide +kernel
theorem dL_law_1054 : decode cL_law 1054 = .ok (.ifCond .ne 15, 3) := by decide +kernel
theorem dL_law_1057 : decode cL_law 1057 = .ok (.aload_n 3, 1) := by decide +kernel
theorem dL_law_1058 : decode cL_law 1058 = .ok (.iconst 0, 1) := by decide +kernel
theorem dL_law_1059 : decode cL_law 1059 = .ok (.laload, 1) := by decide +kernel
theorem dL_law_1060 : decode cL_law 1060 = .ok (.iload 7, 2) := by decide +kernel
theorem dL_law_1062 : decode cL_law 1062 = .ok (.i2l, 1) := by decide +kernel
theorem dL_law_1063 : decode cL_law 1063 = .ok (.lcmp, 1) := by decide +kernel
theorem dL_law_1064 : decode cL_law 1064 = .ok (.ifCond .eq 5, 3) := by decide +kernel
theorem dL_law_1067 : decode cL_law 1067 = .ok (.iconst 0, 1) := by decide +kernel
theorem dL_law_1068 : decode cL_law 1068 = .ok (.ireturn, 1) := by decide +kernel
theorem dL_law_1069 : decode cL_law 1069 = .ok (.goto 1085, 3) := by decide +kernel
theorem dL_law_1072 : decode cL_law 1072 = .ok (.aload_n 1, 1) := by decide +kernel
theorem dL_law_1073 : decode cL_law 1073 = .ok (.aload_n 0, 1) := by decide +kernel
theorem dL_law_1074 : decode cL_law 1074 = .ok (.iload 5, 2) := by decide +kernel
theorem dL_law_1076 : decode cL_law 1076 = .ok (.iconst 1, 1) := by decide +kernel
theorem dL_law_1077 : decode cL_law 1077 = .ok (.iadd, 1) := by decide +kernel
theorem dL_law_1078 : decode cL_law 1078 = .ok (.iaload, 1) := by decide +kernel
theorem dL_law_1079 : decode cL_law 1079 = .ok (.aload_n 3, 1) := by decide +kernel
theorem dL_law_1080 : decode cL_law 1080 = .ok (.invokestatic 179, 3) := by decide +kernel
theorem dL_law_1083 : decode cL_law 1083 = .ok (.istore 6, 2) := by decide +kernel
theorem dL_law_1085 : decode cL_law 1085 = .ok (.aload_n 2, 1) := by decide +kernel
theorem dL_law_1086 : decode cL_law 1086 = .ok (.aload_n 0, 1) := by decide +kernel
theorem dL_law_1087 : decode cL_law 1087 = .ok (.iload 5, 2) := by decide +kernel
theorem dL_law_1089 : decode cL_law 1089 = .ok (.iconst 1, 1) := by decide +kernel
theorem dL_law_1090 : decode cL_law 1090 = .ok (.iadd, 1) := by decide +kernel
theorem dL_law_1091 : decode cL_law 1091 = .ok (.iaload, 1) := by decide +kernel
theorem dL_law_1092 : decode cL_law 1092 = .ok (.invokevirtual 181, 3) := by decide +kernel
theorem dL_law_1095 : decode cL_law 1095 = .ok (.istore 7, 2) := by decide +kernel
theorem dL_law_1097 : decode cL_law 1097 = .ok (.aload_n 2, 1) := by decide +kernel
theorem dL_law_1098 : decode cL_law 1098 = .ok (.invokevirtual 135, 3) := by decide +kernel
theorem dL_law_1101 : decode cL_law 1101 = .ok (.iload 6, 2) := by decide +kernel
theorem dL_law_1103 : decode cL_law 1103 = .ok (.if_icmp .eq 5, 3) := by decide +kernel
theorem dL_law_1106 : decode cL_law 1106 = .ok (.iconst 0, 1) := by decide +kernel
theorem dL_law_1107 : decode cL_law 1107 = .ok (.ireturn, 1) := by decide +kernel
theorem dL_law_1108 : decode cL_law 1108 = .ok (.iload 6, 2) := by decide +kernel
theorem dL_law_1110 : decode cL_law 1110 = .ok (.ifCond .ne 22, 3) := by decide +kernel
theorem dL_law_1113 : decode cL_law 1113 = .ok (.aload_n 3, 1) := by decide +kernel
theorem dL_law_1114 : decode cL_law 1114 = .ok (.iconst 0, 1) := by decide +kernel
theorem dL_law_1115 : decode cL_law 1115 = .ok (.laload, 1) := by decide +kernel
theorem dL_law_1116 : decode cL_law 1116 = .ok (.iload 7, 2) := by decide +kernel
theorem dL_law_1118 : decode cL_law 1118 = .ok (.ifCond .eq 7, 3) := by decide +kernel
theorem dL_law_1121 : decode cL_law 1121 = .ok (.lconst 1, 1) := by decide +kernel
theorem dL_law_1122 : decode cL_law 1122 = .ok (.goto 4, 3) := by decide +kernel
theorem dL_law_1125 : decode cL_law 1125 = .ok (.lconst 0, 1) := by decide +kernel
theorem dL_law_1126 : decode cL_law 1126 = .ok (.lcmp, 1) := by decide +kernel
theorem dL_law_1127 : decode cL_law 1127 = .ok (.ifCond .eq 5, 3) := by decide +kernel
theorem dL_law_1130 : decode cL_law 1130 = .ok (.iconst 0, 1) := by decide +kernel
theorem dL_law_1131 : decode cL_law 1131 = .ok (.ireturn, 1) := by decide +kernel
theorem dL_law_1132 : decode cL_law 1132 = .ok (.goto 1022, 3) := by decide +kernel
theorem dL_law_1135 : decode cL_law 1135 = .ok (.aload_n 1, 1) := by decide +kernel
theorem dL_law_1136 : decode cL_law 1136 = .ok (.invokevirtual 182, 3) := by decide +kernel
theorem dL_law_1139 : decode cL_law 1139 = .ok (.aload_n 2, 1) := by decide +kernel
theorem dL_law_1140 : decode cL_law 1140 = .ok (.invokevirtual 185, 3) := by decide +kernel
theorem dL_law_1143 : decode cL_law 1143 = .ok (.if_icmp .eq 1011, 3) := by decide +kernel
theorem dL_law_1146 : decode cL_law 1146 = .ok (.iconst 0, 1) := by decide +kernel
theorem dL_law_1147 : decode cL_law 1147 = .ok (.ireturn, 1) := by decide +kernel
theorem dL_law_1148 : decode cL_law 1148 = .ok (.aload_n 1, 1) := by decide +kernel
theorem dL_law_1149 : decode cL_law 1149 = .ok (.aload_n 0, 1) := by decide +kernel
theorem dL_law_1150 : decode cL_law 1150 = .ok (.iload 5, 2) := by decide +kernel
theorem dL_law_1152 : decode cL_law 1152 = .ok (.iconst 1, 1) := by decide +kernel
theorem dL_law_1153 : decode cL_law 1153 = .ok (.iadd, 1) := by decide +kernel
theorem dL_law_1154 : decode cL_law 1154 = .ok (.iaload, 1) := by decide +kernel
theorem dL_law_1155 : decode cL_law 1155 = .ok (.aload_n 3, 1) := by decide +kernel
theorem dL_law_1156 : decode cL_law 1156 = .ok (.invokestatic 186, 3) := by decide +kernel
theorem dL_law_1159 : decode cL_law 1159 = .ok (.istore 6, 2) := by decide +kernel
theorem dL_law_1161 : decode cL_law 1161 = .ok (.aload_n 2, 1) := by decide +kernel
theorem dL_law_1162 : decode cL_law 1162 = .ok (.aload_n 0, 1) := by decide +kernel
theorem dL_law_1163 : decode cL_law 1163 = .ok (.iload 5, 2) := by decide +kernel
theorem dL_law_1165 : decode cL_law 1165 = .ok (.iconst 1, 1) := by decide +kernel
theorem dL_law_1166 : decode cL_law 1166 = .ok (.iadd, 1) := by decide +kernel
theorem dL_law_1167 : decode cL_law 1167 = .ok (.iaload, 1) := by decide +kernel
theorem dL_law_1168 : decode cL_law 1168 = .ok (.invokevirtual 188, 3) := by decide +kernel
theorem dL_law_1171 : decode cL_law 1171 = .ok (.istore 7, 2) := by decide +kernel
theorem dL_law_1173 : decode cL_law 1173 = .ok (.aload_n 2, 1) := by decide +kernel
theorem dL_law_1174 : decode cL_law 1174 = .ok (.invokevirtual 135, 3) := by decide +kernel
theorem dL_law_1177 : decode cL_law 1177 = .ok (.iload 6, 2) := by decide +kernel
theorem dL_law_1179 : decode cL_law 1179 = .ok (.if_icmp .eq 5, 3) := by decide +kernel
theorem dL_law_1182 : decode cL_law 1182 = .ok (.iconst 0, 1) := by decide +kernel
theorem dL_law_1183 : decode cL_law 1183 = .ok (.ireturn, 1) := by decide +kernel
theorem dL_law_1184 : decode cL_law 1184 = .ok (.iload 6, 2) := by decide +kernel
theorem dL_law_1186 : decode cL_law 1186 = .ok (.ifCond .ne 15, 3) := by decide +kernel
theorem dL_law_1189 : decode cL_law 1189 = .ok (.aload_n 3, 1) := by decide +kernel
theorem dL_law_1190 : decode cL_law 1190 = .ok (.iconst 0, 1) := by decide +kernel
theorem dL_law_1191 : decode cL_law 1191 = .ok (.laload, 1) := by decide +kernel
theorem dL_law_1192 : decode cL_law 1192 = .ok (.iload 7, 2) := by decide +kernel
theorem dL_law_1194 : decode cL_law 1194 = .ok (.i2l, 1) := by decide +kernel
theorem dL_law_1195 : decode cL_law 1195 = .ok (.lcmp, 1) := by decide +kernel
theorem dL_law_1196 : decode cL_law 1196 = .ok (.ifCond .eq 5, 3) := by decide +kernel
theorem dL_law_1199 : decode cL_law 1199 = .ok (.iconst 0, 1) := by decide +kernel
theorem dL_law_1200 : decode cL_law 1200 = .ok (.ireturn, 1) := by decide +kernel
theorem dL_law_1201 : decode cL_law 1201 = .ok (.goto 953, 3) := by decide +kernel
theorem dL_law_1204 : decode cL_law 1204 = .ok (.aload_n 1, 1) := by decide +kernel
theorem dL_law_1205 : decode cL_law 1205 = .ok (.invokevirtual 189, 3) := by decide +kernel
theorem dL_law_1208 : decode cL_law 1208 = .ok (.aload_n 2, 1) := by decide +kernel
theorem dL_law_1209 : decode cL_law 1209 = .ok (.invokevirtual 192, 3) := by decide +kernel
theorem dL_law_1212 : decode cL_law 1212 = .ok (.if_icmp .eq 942, 3) := by decide +kernel
theorem dL_law_1215 : decode cL_law 1215 = .ok (.iconst 0, 1) := by decide +kernel
theorem dL_law_1216 : decode cL_law 1216 = .ok (.ireturn, 1) := by decide +kernel
theorem dL_law_1217 : decode cL_law 1217 = .ok (.aload_n 1, 1) := by decide +kernel
theorem dL_law_1218 : decode cL_law 1218 = .ok (.aload_n 0, 1) := by decide +kernel
theorem dL_law_1219 : decode cL_law 1219 = .ok (.iload 5, 2) := by decide +kernel
theorem dL_law_1221 : decode cL_law 1221 = .ok (.iconst 1, 1) := by decide +kernel
theorem dL_law_1222 : decode cL_law 1222 = .ok (.iadd, 1) := by decide +kernel
theorem dL_law_1223 : decode cL_law 1223 = .ok (.iaload, 1) := by decide +kernel
theorem dL_law_1224 : decode cL_law 1224 = .ok (.aload_n 3, 1) := by decide +kernel
theorem dL_law_1225 : decode cL_law 1225 = .ok (.invokestatic 193, 3) := by decide +kernel
theorem dL_law_1228 : decode cL_law 1228 = .ok (.istore 6, 2) := by decide +kernel
theorem dL_law_1230 : decode cL_law 1230 = .ok (.aload_n 2, 1) := by decide +kernel
theorem dL_law_1231 : decode cL_law 1231 = .ok (.aload_n 0, 1) := by decide +kernel
theorem dL_law_1232 : decode cL_law 1232 = .ok (.iload 5, 2) := by decide +kernel
theorem dL_law_1234 : decode cL_law 1234 = .ok (.iconst 1, 1) := by decide +kernel
theorem dL_law_1235 : decode cL_law 1235 = .ok (.iadd, 1) := by decide +kernel
theorem dL_law_1236 : decode cL_law 1236 = .ok (.iaload, 1) := by decide +kernel
theorem dL_law_1237 : decode cL_law 1237 = .ok (.invokevirtual 195, 3) := by decide +kernel
theorem dL_law_1240 : decode cL_law 1240 = .ok (.istore 7, 2) := by decide +kernel
theorem dL_law_1242 : decode cL_law 1242 = .ok (.aload_n 2, 1) := by decide +kernel
theorem dL_law_1243 : decode cL_law 1243 = .ok (.invokevirtual 135, 3) := by decide +kernel
theorem dL_law_1246 : decode cL_law 1246 = .ok (.iload 6, 2) := by decide +kernel
theorem dL_law_1248 : decode cL_law 1248 = .ok (.if_icmp .eq 5, 3) := by decide +kernel
theorem dL_law_1251 : decode cL_law 1251 = .ok (.iconst 0, 1) := by decide +kernel
theorem dL_law_1252 : decode cL_law 1252 = .ok (.ireturn, 1) := by decide +kernel
theorem dL_law_1253 : decode cL_law 1253 = .ok (.iload 6, 2) := by decide +kernel
theorem dL_law_1255 : decode cL_law 1255 = .ok (.ifCond .ne 15, 3) := by decide +kernel
theorem dL_law_1258 : decode cL_law 1258 = .ok (.aload_n 3, 1) := by decide +kernel
theorem dL_law_1259 : decode cL_law 1259 = .ok (.iconst 0, 1) := by decide +kernel
theorem dL_law_1260 : decode cL_law 1260 = .ok (.laload, 1) := by decide +kernel
theorem dL_law_1261 : decode cL_law 1261 = .ok (.iload 7, 2) := by decide +kernel
theorem dL_law_1263 : decode cL_law 1263 = .ok (.i2l, 1) := by decide +kernel
theorem dL_law_1264 : decode cL_law 1264 = .ok (.lcmp, 1) := by decide +kernel
theorem dL_law_1265 : decode cL_law 1265 = .ok (.ifCond .eq 5, 3) := by decide +kernel
theorem dL_law_1268 : decode cL_law 1268 = .ok (.iconst 0, 1) := by decide +kernel
theorem dL_law_1269 : decode cL_law 1269 = .ok (.ireturn, 1) := by decide +kernel
theorem dL_law_1270 : decode cL_law 1270 = .ok (.goto 884, 3) := by decide +kernel
theorem dL_law_1273 : decode cL_law 1273 = .ok (.aload_n 1, 1) := by decide +kernel
theorem dL_law_1274 : decode cL_law 1274 = .ok (.aload_n 3, 1) := by decide +kernel
theorem dL_law_1275 : decode cL_law 1275 = .ok (.invokestatic 196, 3) := by decide +kernel
theorem dL_law_1278 : decode cL_law 1278 = .ok (.istore 6, 2) := by decide +kernel
theorem dL_law_1280 : decode cL_law 1280 = .ok (.aload_n 2, 1) := by decide +kernel
theorem dL_law_1281 : decode cL_law 1281 = .ok (.invokevirtual 198, 3) := by decide +kernel
theorem dL_law_1284 : decode cL_law 1284 = .ok (.istore 7, 2) := by decide +kernel
theorem dL_law_1286 : decode cL_law 1286 = .ok (.aload_n 2, 1) := by decide +kernel
theorem dL_law_1287 : decode cL_law 1287 = .ok (.invokevirtual 135, 3) := by decide +kernel
theorem dL_law_1290 : decode cL_law 1290 = .ok (.iload 6, 2) := by decide +kernel
theorem dL_law_1292 : decode cL_law 1292 = .ok (.if_icmp .eq 5, 3) := by decide +kernel
theorem dL_law_1295 : decode cL_law 1295 = .ok (.iconst 0, 1) := by decide +kernel
theorem dL_law_1296 : decode cL_law 1296 = .ok (.ireturn, 1) := by decide +kernel
theorem dL_law_1297 : decode cL_law 1297 = .ok (.iload 6, 2) := by decide +kernel
theorem dL_law_1299 : decode cL_law 1299 = .ok (.ifCond .ne 15, 3) := by decide +kernel
theorem dL_law_1302 : decode cL_law 1302 = .ok (.aload_n 3, 1) := by decide +kernel
theorem dL_law_1303 : decode cL_law 1303 = .ok (.iconst 0, 1) := by decide +kernel
theorem dL_law_1304 : decode cL_law 1304 = .ok (.laload, 1) := by decide +kernel
theorem dL_law_1305 : decode cL_law 1305 = .ok (.iload 7, 2) := by decide +kernel
theorem dL_law_1307 : decode cL_law 1307 = .ok (.i2l, 1) := by decide +kernel
theorem dL_law_1308 : decode cL_law 1308 = .ok (.lcmp, 1) := by decide +kernel
theorem dL_law_1309 : decode cL_law 1309 = .ok (.ifCond .eq 5, 3) := by decide +kernel
theorem dL_law_1312 : decode cL_law 1312 = .ok (.iconst 0, 1) := by decide +kernel
theorem dL_law_1313 : decode cL_law 1313 = .ok (.ireturn, 1) := by decide +kernel
theorem dL_law_1314 : decode cL_law 1314 = .ok (.goto 840, 3) := by decide +kernel
theorem dL_law_1317 : decode cL_law 1317 = .ok (.aload_n 1, 1) := by decide +kernel
theorem dL_law_1318 : decode cL_law 1318 = .ok (.aload_n 3, 1) := by decide +kernel
theorem dL_law_1319 : decode cL_law 1319 = .ok (.invokestatic 199, 3) := by decide +kernel
theorem dL_law_1322 : decode cL_law 1322 = .ok (.istore 6, 2) := by decide +kernel
theorem dL_law_1324 : decode cL_law 1324 = .ok (.aload_n 2, 1) := by decide +kernel
theorem dL_law_1325 : decode cL_law 1325 = .ok (.invokevirtual 201, 3) := by decide +kernel
theorem dL_law_1328 : decode cL_law 1328 = .ok (.istore 7, 2) := by decide +kernel
theorem dL_law_1330 : decode cL_law 1330 = .ok (.aload_n 2, 1) := by decide +kernel
theorem dL_law_1331 : decode cL_law 1331 = .ok (.invokevirtual 135, 3) := by decide +kernel
theorem dL_law_1334 : decode cL_law 1334 = .ok (.iload 6, 2) := by decide +kernel
theorem dL_law_1336 : decode cL_law 1336 = .ok (.if_icmp .eq 5, 3) := by decide +kernel
theorem dL_law_1339 : decode cL_law 1339 = .ok (.iconst 0, 1) := by decide +kernel
theorem dL_law_1340 : decode cL_law 1340 = .ok (.ireturn, 1) := by decide +kernel
theorem dL_law_1341 : decode cL_law 1341 = .ok (.iload 6, 2) := by decide +kernel
theorem dL_law_1343 : decode cL_law 1343 = .ok (.ifCond .ne 15, 3) := by decide +kernel
theorem dL_law_1346 : decode cL_law 1346 = .ok (.aload_n 3, 1) := by decide +kernel
theorem dL_law_1347 : decode cL_law 1347 = .ok (.iconst 0, 1) := by decide +kernel
theorem dL_law_1348 : decode cL_law 1348 = .ok (.laload, 1) := by decide +kernel
theorem dL_law_1349 : decode cL_law 1349 = .ok (.iload 7, 2) := by decide +kernel
theorem dL_law_1351 : decode cL_law 1351 = .ok (.i2l, 1) := by decide +kernel
theorem dL_law_1352 : decode cL_law 1352 = .ok (.lcmp, 1) := by decide +kernel
theorem dL_law_1353 : decode cL_law 1353 = .ok (.ifCond .eq 5, 3) := by decide +kernel
theorem dL_law_1356 : decode cL_law 1356 = .ok (.iconst 0, 1) := by decide +kernel
theorem dL_law_1357 : decode cL_law 1357 = .ok (.ireturn, 1) := by decide +kernel
theorem dL_law_1358 : decode cL_law 1358 = .ok (.goto 796, 3) := by decide +kernel
theorem dL_law_1361 : decode cL_law 1361 = .ok (.aload_n 1, 1) := by decide +kernel
theorem dL_law_1362 : decode cL_law 1362 = .ok (.aload_n 0, 1) := by decide +kernel
theorem dL_law_1363 : decode cL_law 1363 = .ok (.iload 5, 2) := by decide +kernel
theorem dL_law_1365 : decode cL_law 1365 = .ok (.iconst 1, 1) := by decide +kernel
theorem dL_law_1366 : decode cL_law 1366 = .ok (.iadd, 1) := by decide +kernel
theorem dL_law_1367 : decode cL_law 1367 = .ok (.iaload, 1) := by decide +kernel
theorem dL_law_1368 : decode cL_law 1368 = .ok (.aload_n 3, 1) := by decide +kernel
theorem dL_law_1369 : decode cL_law 1369 = .ok (.invokestatic 202, 3) := by decide +kernel
theorem dL_law_1372 : decode cL_law 1372 = .ok (.istore 6, 2) := by decide +kernel
theorem dL_law_1374 : decode cL_law 1374 = .ok (.aload_n 2, 1) := by decide +kernel
theorem dL_law_1375 : decode cL_law 1375 = .ok (.aload_n 0, 1) := by decide +kernel
theorem dL_law_1376 : decode cL_law 1376 = .ok (.iload 5, 2) := by decide +kernel
theorem dL_law_1378 : decode cL_law 1378 = .ok (.iconst 1, 1) := by decide +kernel
theorem dL_law_1379 : decode cL_law 1379 = .ok (.iadd, 1) := by decide +kernel
theorem dL_law_1380 : decode cL_law 1380 = .ok (.iaload, 1) := by decide +kernel
theorem dL_law_1381 : decode cL_law 1381 = .ok (.invokevirtual 204, 3) := by decide +kernel
theorem dL_law_1384 : decode cL_law 1384 = .ok (.istore 7, 2) := by decide +kernel
theorem dL_law_1386 : decode cL_law 1386 = .ok (.aload_n 2, 1) := by decide +kernel
theorem dL_law_1387 : decode cL_law 1387 = .ok (.invokevirtual 135, 3) := by decide +kernel
theorem dL_law_1390 : decode cL_law 1390 = .ok (.iload 6, 2) := by decide +kernel
theorem dL_law_1392 : decode cL_law 1392 = .ok (.if_icmp .eq 5, 3) := by decide +kernel
theorem dL_law_1395 : decode cL_law 1395 = .ok (.iconst 0, 1) := by decide +kernel
theorem dL_law_1396 : decode cL_law 1396 = .ok (.ireturn, 1) := by decide +kernel
theorem dL_law_1397 : decode cL_law 1397 = .ok (.iload 6, 2) := by decide +kernel
theorem dL_law_1399 : decode cL_law 1399 = .ok (.ifCond .ne 15, 3) := by decide +kernel
theorem dL_law_1402 : decode cL_law 1402 = .ok (.aload_n 3, 1) := by decide +kernel
theorem dL_law_1403 : decode cL_law 1403 = .ok (.iconst 0, 1) := by decide +kernel
theorem dL_law_1404 : decode cL_law 1404 = .ok (.laload, 1) := by decide +kernel
theorem dL_law_1405 : decode cL_law 1405 = .ok (.iload 7, 2) := by decide +kernel
theorem dL_law_1407 : decode cL_law 1407 = .ok (.i2l, 1) := by decide +kernel
theorem dL_law_1408 : decode cL_law 1408 = .ok (.lcmp, 1) := by decide +kernel
theorem dL_law_1409 : decode cL_law 1409 = .ok (.ifCond .eq 5, 3) := by decide +kernel
theorem dL_law_1412 : decode cL_law 1412 = .ok (.iconst 0, 1) := by decide +kernel
theorem dL_law_1413 : decode cL_law 1413 = .ok (.ireturn, 1) := by decide +kernel
theorem dL_law_1414 : decode cL_law 1414 = .ok (.goto 740, 3) := by decide +kernel
theorem dL_law_1417 : decode cL_law 1417 = .ok (.aload_n 1, 1) := by decide +kernel
theorem dL_law_1418 : decode cL_law 1418 = .ok (.invokevirtual 205, 3) := by decide +kernel
theorem dL_law_1421 : decode cL_law 1421 = .ok (.aload_n 2, 1) := by decide +kernel
theorem dL_law_1422 : decode cL_law 1422 = .ok (.invokevirtual 208, 3) := by decide +kernel
theorem dL_law_1425 : decode cL_law 1425 = .ok (.if_icmp .eq 729, 3) := by decide +kernel
theorem dL_law_1428 : decode cL_law 1428 = .ok (.iconst 0, 1) := by decide +kernel
theorem dL_law_1429 : decode cL_law 1429 = .ok (.ireturn, 1) := by decide +kernel
theorem dL_law_1430 : decode cL_law 1430 = .ok (.aload_n 1, 1) := by decide +kernel
theorem dL_law_1431 : decode cL_law 1431 = .ok (.invokevirtual 209, 3) := by decide +kernel
theorem dL_law_1434 : decode cL_law 1434 = .ok (.aload_n 2, 1) := by decide +kernel
theorem dL_law_1435 : decode cL_law 1435 = .ok (.invokevirtual 212, 3) := by decide +kernel
theorem dL_law_1438 : decode cL_law 1438 = .ok (.if_icmp .eq 716, 3) := by decide +kernel
theorem dL_law_1441 : decode cL_law 1441 = .ok (.iconst 0, 1) := by decide +kernel
theorem dL_law_1442 : decode cL_law 1442 = .ok (.ireturn, 1) := by decide +kernel
theorem dL_law_1443 : decode cL_law 1443 = .ok (.aload_n 1, 1) := by decide +kernel
theorem dL_law_1444 : decode cL_law 1444 = .ok (.aload_n 0, 1) := by decide +kernel
theorem dL_law_1445 : decode cL_law 1445 = .ok (.iload 5, 2) := by decide +kernel
theorem dL_law_1447 : decode cL_law 1447 = .ok (.iconst 1, 1) := by decide +kernel
theorem dL_law_1448 : decode cL_law 1448 = .ok (.iadd, 1) := by decide +kernel
theorem dL_law_1449 : decode cL_law 1449 = .ok (.iaload, 1) := by decide +kernel
theorem dL_law_1450 : decode cL_law 1450 = .ok (.aload_n 0, 1) := by decide +kernel
theorem dL_law_1451 : decode cL_law 1451 = .ok (.iload 5, 2) := by decide +kernel
theorem dL_law_1453 : decode cL_law 1453 = .ok (.iconst 2, 1) := by decide +kernel
theorem dL_law_1454 : decode cL_law 1454 = .ok (.iadd, 1) := by decide +kernel
theorem dL_law_1455 : decode cL_law 1455 = .ok (.iaload, 1) := by decide +kernel
theorem dL_law_1456 : decode cL_law 1456 = .ok (.ifCond .eq 7, 3) := by decide +kernel
theorem dL_law_1459 : decode cL_law 1459 = .ok (.iconst 1, 1) := by decide +kernel
theorem dL_law_1460 : decode cL_law 1460 = .ok (.goto 4, 3) := by decide +kernel
theorem dL_law_1463 : decode cL_law 1463 = .ok (.iconst 0, 1) := by decide +kernel
theorem dL_law_1464 : decode cL_law 1464 = .ok (.aload_n 3, 1) := by decide +kernel
theorem dL_law_1465 : decode cL_law 1465 = .ok (.invokestatic 213, 3) := by decide +kernel
theorem dL_law_1468 : decode cL_law 1468 = .ok (.istore 6, 2) := by decide +kernel
theorem dL_law_1470 : decode cL_law 1470 = .ok (.aload_n 2, 1) := by decide +kernel
theorem dL_law_1471 : decode cL_law 1471 = .ok (.aload_n 0, 1) := by decide +kernel
theorem dL_law_1472 : decode cL_law 1472 = .ok (.iload 5, 2) := by decide +kernel
theorem dL_law_1474 : decode cL_law 1474 = .ok (.iconst 1, 1) := by decide +kernel
theorem dL_law_1475 : decode cL_law 1475 = .ok (.iadd, 1) := by decide +kernel
theorem dL_law_1476 : decode cL_law 1476 = .ok (.iaload, 1) := by decide +kernel
theorem dL_law_1477 : decode cL_law 1477 = .ok (.aload_n 0, 1) := by decide +kernel
theorem dL_law_1478 : decode cL_law 1478 = .ok (.iload 5, 2) := by decide +kernel
theorem dL_law_1480 : decode cL_law 1480 = .ok (.iconst 2, 1) := by decide +kernel
theorem dL_law_1481 : decode cL_law 1481 = .ok (.iadd, 1) := by decide +kernel
theorem dL_law_1482 : decode cL_law 1482 = .ok (.iaload, 1) := by decide +kernel
theorem dL_law_1483 : decode cL_law 1483 = .ok (.ifCond .eq 7, 3) := by decide +kernel
theorem dL_law_1486 : decode cL_law 1486 = .ok (.iconst 1, 1) := by decide +kernel
theorem dL_law_1487 : decode cL_law 1487 = .ok (.goto 4, 3) := by decide +kernel
theorem dL_law_1490 : decode cL_law 1490 = .ok (.iconst 0, 1) := by decide +kernel
theorem dL_law_1491 : decode cL_law 1491 = .ok (.invokevirtual 215, 3) := by decide +kernel
theorem dL_law_1494 : decode cL_law 1494 = .ok (.istore 7, 2) := by decide +kernel
theorem dL_law_1496 : decode cL_law 1496 = .ok (.aload_n 2, 1) := by decide +kernel
theorem dL_law_1497 : decode cL_law 1497 = .ok (.invokevirtual 135, 3) := by decide +kernel
theorem dL_law_1500 : decode cL_law 1500 = .ok (.iload 6, 2) := by decide +kernel
theorem dL_law_1502 : decode cL_law 1502 = .ok (.if_icmp .eq 5, 3) := by decide +kernel
theorem dL_law_1505 : decode cL_law 1505 = .ok (.iconst 0, 1) := by decide +kernel
theorem dL_law_1506 : decode cL_law 1506 = .ok (.ireturn, 1) := by decide +kernel
theorem dL_law_1507 : decode cL_law 1507 = .ok (.iload 6, 2) := by decide +kernel
theorem dL_law_1509 : decode cL_law 1509 = .ok (.ifCond .ne 15, 3) := by decide +kernel
theorem dL_law_1512 : decode cL_law 1512 = .ok (.aload_n 3, 1) := by decide +kernel
theorem dL_law_1513 : decode cL_law 1513 = .ok (.iconst 0, 1) := by decide +kernel
theorem dL_law_1514 : decode cL_law 1514 = .ok (.laload, 1) := by decide +kernel
theorem dL_law_1515 : decode cL_law 1515 = .ok (.iload 7, 2) := by decide +kernel
theorem dL_law_1517 : decode cL_law 1517 = .ok (.i2l, 1) := by decide +kernel
theorem dL_law_1518 : decode cL_law 1518 = .ok (.lcmp, 1) := by decide +kernel
theorem dL_law_1519 : decode cL_law 1519 = .ok (.ifCond .eq 5, 3) := by decide +kernel
theorem dL_law_1522 : decode cL_law 1522 = .ok (.iconst 0, 1) := by decide +kernel
theorem dL_law_1523 : decode cL_law 1523 = .ok (.ireturn, 1) := by decide +kernel
theorem dL_law_1524 : decode cL_law 1524 = .ok (.goto 630, 3) := by decide +kernel
theorem dL_law_1527 : decode cL_law 1527 = .ok (.aload_n 1, 1) := by decide +kernel
theorem dL_law_1528 : decode cL_law 1528 = .ok (.aload_n 0, 1) := by decide +kernel
theorem dL_law_1529 : decode cL_law 1529 = .ok (.iload 5, 2) := by decide +kernel
theorem dL_law_1531 : decode cL_law 1531 = .ok (.iconst 1, 1) := by decide +kernel
theorem dL_law_1532 : decode cL_law 1532 = .ok (.iadd, 1) := by decide +kernel
theorem dL_law_1533 : decode cL_law 1533 = .ok (.iaload, 1) := by decide +kernel
theorem dL_law_1534 : decode cL_law 1534 = .ok (.aload_n 3, 1) := by decide +kernel
theorem dL_law_1535 : decode cL_law 1535 = .ok (.invokestatic 216, 3) := by decide +kernel
theorem dL_law_1538 : decode cL_law 1538 = .ok (.istore 6, 2) := by decide +kernel
theorem dL_law_1540 : decode cL_law 1540 = .ok (.aload_n 2, 1) := by decide +kernel
theorem dL_law_1541 : decode cL_law 1541 = .ok (.aload_n 0, 1) := by decide +kernel
theorem dL_law_1542 : decode cL_law 1542 = .ok (.iload 5, 2) := by decide +kernel
theorem dL_law_1544 : decode cL_law 1544 = .ok (.iconst 1, 1) := by decide +kernel
theorem dL_law_1545 : decode cL_law 1545 = .ok (.iadd, 1) := by decide +kernel
theorem dL_law_1546 : decode cL_law 1546 = .ok (.iaload, 1) := by decide +kernel
theorem dL_law_1547 : decode cL_law 1547 = .ok (.invokevirtual 218, 3) := by decide +kernel
theorem dL_law_1550 : decode cL_law 1550 = .ok (.istore 7, 2) := by decide +kernel
theorem dL_law_1552 : decode cL_law 1552 = .ok (.aload_n 2, 1) := by decide +kernel
theorem dL_law_1553 : decode cL_law 1553 = .ok (.invokevirtual 135, 3) := by decide +kernel
theorem dL_law_1556 : decode cL_law 1556 = .ok (.iload 6, 2) := by decide +kernel
theorem dL_law_1558 : decode cL_law 1558 = .ok (.if_icmp .eq 5, 3) := by decide +kernel
theorem dL_law_1561 : decode cL_law 1561 = .ok (.iconst 0, 1) := by decide +kernel
theorem dL_law_1562 : decode cL_law 1562 = .ok (.ireturn, 1) := by decide +kernel
theorem dL_law_1563 : decode cL_law 1563 = .ok (.iload 6, 2) := by decide +kernel
theorem dL_law_1565 : decode cL_law 1565 = .ok (.ifCond .ne 15, 3) := by decide +kernel
theorem dL_law_1568 : decode cL_law 1568 = .ok (.aload_n 3, 1) := by decide +kernel
theorem dL_law_1569 : decode cL_law 1569 = .ok (.iconst 0, 1) := by decide +kernel
theorem dL_law_1570 : decode cL_law 1570 = .ok (.laload, 1) := by decide +kernel
theorem dL_law_1571 : decode cL_law 1571 = .ok (.iload 7, 2) := by decide +kernel
theorem dL_law_1573 : decode cL_law 1573 = .ok (.i2l, 1) := by decide +kernel
theorem dL_law_1574 : decode cL_law 1574 = .ok (.lcmp, 1) := by decide +kernel
theorem dL_law_1575 : decode cL_law 1575 = .ok (.ifCond .eq 5, 3) := by decide +kernel
theorem dL_law_1578 : decode cL_law 1578 = .ok (.iconst 0, 1) := by decide +kernel
theorem dL_law_1579 : decode cL_law 1579 = .ok (.ireturn, 1) := by decide +kernel
theorem dL_law_1580 : decode cL_law 1580 = .ok (.goto 574, 3) := by decide +kernel
theorem dL_law_1583 : decode cL_law 1583 = .ok (.aload_n 1, 1) := by decide +kernel
theorem dL_law_1584 : decode cL_law 1584 = .ok (.aload_n 0, 1) := by decide +kernel
theorem dL_law_1585 : decode cL_law 1585 = .ok (.iload 5, 2) := by decide +kernel
theorem dL_law_1587 : decode cL_law 1587 = .ok (.iconst 1, 1) := by decide +kernel
theorem dL_law_1588 : decode cL_law 1588 = .ok (.iadd, 1) := by decide +kernel
theorem dL_law_1589 : decode cL_law 1589 = .ok (.iaload, 1) := by decide +kernel
theorem dL_law_1590 : decode cL_law 1590 = .ok (.i2c, 1) := by decide +kernel
theorem dL_law_1591 : decode cL_law 1591 = .ok (.aload_n 3, 1) := by decide +kernel
theorem dL_law_1592 : decode cL_law 1592 = .ok (.invokestatic 219, 3) := by decide +kernel
theorem dL_law_1595 : decode cL_law 1595 = .ok (.istore 6, 2) := by decide +kernel
theorem dL_law_1597 : decode cL_law 1597 = .ok (.aload_n 2, 1) := by decide +kernel
theorem dL_law_1598 : decode cL_law 1598 = .ok (.aload_n 0, 1) := by decide +kernel
theorem dL_law_1599 : decode cL_law 1599 = .ok (.iload 5, 2) := by decide +kernel
theorem dL_law_1601 : decode cL_law 1601 = .ok (.iconst 1, 1) := by decide +kernel
theorem dL_law_1602 : decode cL_law 1602 = .ok (.iadd, 1) := by decide +kernel
theorem dL_law_1603 : decode cL_law 1603 = .ok (.iaload, 1) := by decide +kernel
theorem dL_law_1604 : decode cL_law 1604 = .ok (.i2c, 1) := by decide +kernel
theorem dL_law_1605 : decode cL_law 1605 = .ok (.invokevirtual 222, 3) := by decide +kernel
theorem dL_law_1608 : decode cL_law 1608 = .ok (.istore 7, 2) := by decide +kernel
theorem dL_law_1610 : decode cL_law 1610 = .ok (.aload_n 2, 1) := by decide +kernel
theorem dL_law_1611 : decode cL_law 1611 = .ok (.invokevirtual 135, 3) := by decide +kernel
theorem dL_law_1614 : decode cL_law 1614 = .ok (.iload 6, 2) := by decide +kernel
theorem dL_law_1616 : decode cL_law 1616 = .ok (.if_icmp .eq 5, 3) := by decide +kernel
theorem dL_law_1619 : decode cL_law 1619 = .ok (.iconst 0, 1) := by decide +kernel
theorem dL_law_1620 : decode cL_law 1620 = .ok (.ireturn, 1) := by decide +kernel
theorem dL_law_1621 : decode cL_law 1621 = .ok (.iload 6, 2) := by decide +kernel
theorem dL_law_1623 : decode cL_law 1623 = .ok (.ifCond .ne 15, 3) := by decide +kernel
theorem dL_law_1626 : decode cL_law 1626 = .ok (.aload_n 3, 1) := by decide +kernel
theorem dL_law_1627 : decode cL_law 1627 = .ok (.iconst 0, 1) := by decide +kernel
theorem dL_law_1628 : decode cL_law 1628 = .ok (.laload, 1) := by decide +kernel
theorem dL_law_1629 : decode cL_law 1629 = .ok (.iload 7, 2) := by decide +kernel
theorem dL_law_1631 : decode cL_law 1631 = .ok (.i2l, 1) := by decide +kernel
theorem dL_law_1632 : decode cL_law 1632 = .ok (.lcmp, 1) := by decide +kernel
theorem dL_law_1633 : decode cL_law 1633 = .ok (.ifCond .eq 5, 3) := by decide +kernel
theorem dL_law_1636 : decode cL_law 1636 = .ok (.iconst 0, 1) := by decide +kernel
theorem dL_law_1637 : decode cL_law 1637 = .ok (.ireturn, 1) := by decide +kernel
theorem dL_law_1638 : decode cL_law 1638 = .ok (.goto 516, 3) := by decide +kernel
theorem dL_law_1641 : decode cL_law 1641 = .ok (.aload_n 1, 1) := by decide +kernel
theorem dL_law_1642 : decode cL_law 1642 = .ok (.aload_n 3, 1) := by decide +kernel
theorem dL_law_1643 : decode cL_law 1643 = .ok (.invokestatic 223, 3) := by decide +kernel
theorem dL_law_1646 : decode cL_law 1646 = .ok (.istore 6, 2) := by decide +kernel
theorem dL_law_1648 : decode cL_law 1648 = .ok (.aload_n 2, 1) := by decide +kernel
theorem dL_law_1649 : decode cL_law 1649 = .ok (.invokevirtual 225, 3) := by decide +kernel
theorem dL_law_1652 : decode cL_law 1652 = .ok (.istore 7, 2) := by decide +kernel
theorem dL_law_1654 : decode cL_law 1654 = .ok (.aload_n 2, 1) := by decide +kernel
theorem dL_law_1655 : decode cL_law 1655 = .ok (.invokevirtual 135, 3) := by decide +kernel
theorem dL_law_1658 : decode cL_law 1658 = .ok (.iload 6, 2) := by decide +kernel
theorem dL_law_1660 : decode cL_law 1660 = .ok (.if_icmp .eq 5, 3) := by decide +kernel
theorem dL_law_1663 : decode cL_law 1663 = .ok (.iconst 0, 1) := by decide +kernel
theorem dL_law_1664 : decode cL_law 1664 = .ok (.ireturn, 1) := by decide +kernel
theorem dL_law_1665 : decode cL_law 1665 = .ok (.iload 6, 2) := by decide +kernel
theorem dL_law_1667 : decode cL_law 1667 = .ok (.ifCond .ne 15, 3) := by decide +kernel
theorem dL_law_1670 : decode cL_law 1670 = .ok (.aload_n 3, 1) := by decide +kernel
end
section
theorem dL_law_1671 : decode cL_law 1671 = .ok (.iconst 0, 1) := by decide +kernel
theorem dL_law_1672 : decode cL_law 1672 = .ok (.laload, 1) := by decide +kernel
theorem dL_law_1673 : decode cL_law 1673 = .ok (.iload 7, 2) := by decide +kernel
theorem dL_law_1675 : decode cL_law 1675 = .ok (.i2l, 1) := by decide +kernel
theorem dL_law_1676 : decode cL_law 1676 = .ok (.lcmp, 1) := by decide +kernel
theorem dL_law_1677 : decode cL_law 1677 = .ok (.ifCond .eq 5, 3) := by decide +kernel
theorem dL_law_1680 : decode cL_law 1680 = .ok (.iconst 0, 1) := by decide +kernel
theorem dL_law_1681 : decode cL_law 1681 = .ok (.ireturn, 1) := by decide +kernel
theorem dL_law_1682 : decode cL_law 1682 = .ok (.goto 472, 3) := by decide +kernel
theorem dL_law_1685 : decode cL_law 1685 = .ok (.aload_n 1, 1) := by decide +kernel
theorem dL_law_1686 : decode cL_law 1686 = .ok (.invokevirtual 226, 3) := by decide +kernel
theorem dL_law_1689 : decode cL_law 1689 = .ok (.aload_n 2, 1) := by decide +kernel
theorem dL_law_1690 : decode cL_law 1690 = .ok (.invokevirtual 229, 3) := by decide +kernel
theorem dL_law_1693 : decode cL_law 1693 = .ok (.if_icmp .eq 461, 3) := by decide +kernel
theorem dL_law_1696 : decode cL_law 1696 = .ok (.iconst 0, 1) := by decide +kernel
theorem dL_law_1697 : decode cL_law 1697 = .ok (.ireturn, 1) := by decide +kernel
theorem dL_law_1698 : decode cL_law 1698 = .ok (.aload_n 1, 1) := by decide +kernel
theorem dL_law_1699 : decode cL_law 1699 = .ok (.aload_n 0, 1) := by decide +kernel
theorem dL_law_1700 : decode cL_law 1700 = .ok (.iload 5, 2) := by decide +kernel
theorem dL_law_1702 : decode cL_law 1702 = .ok (.iconst 1, 1) := by decide +kernel
theorem dL_law_1703 : decode cL_law 1703 = .ok (.iadd, 1) := by decide +kernel
theorem dL_law_1704 : decode cL_law 1704 = .ok (.iaload, 1) := by decide +kernel
theorem dL_law_1705 : decode cL_law 1705 = .ok (.aload_n 3, 1) := by decide +kernel
theorem dL_law_1706 : decode cL_law 1706 = .ok (.invokestatic 230, 3) := by decide +kernel
theorem dL_law_1709 : decode cL_law 1709 = .ok (.istore 6, 2) := by decide +kernel
theorem dL_law_1711 : decode cL_law 1711 = .ok (.aload_n 2, 1) := by decide +kernel
theorem dL_law_1712 : decode cL_law 1712 = .ok (.aload_n 0, 1) := by decide +kernel
theorem dL_law_1713 : decode cL_law 1713 = .ok (.iload 5, 2) := by decide +kernel
theorem dL_law_1715 : decode cL_law 1715 = .ok (.iconst 1, 1) := by decide +kernel
theorem dL_law_1716 : decode cL_law 1716 = .ok (.iadd, 1) := by decide +kernel
theorem dL_law_1717 : decode cL_law 1717 = .ok (.iaload, 1) := by decide +kernel
theorem dL_law_1718 : decode cL_law 1718 = .ok (.invokevirtual 232, 3) := by decide +kernel
theorem dL_law_1721 : decode cL_law 1721 = .ok (.istore 7, 2) := by decide +kernel
theorem dL_law_1723 : decode cL_law 1723 = .ok (.aload_n 2, 1) := by decide +kernel
theorem dL_law_1724 : decode cL_law 1724 = .ok (.invokevirtual 135, 3) := by decide +kernel
theorem dL_law_1727 : decode cL_law 1727 = .ok (.iload 6, 2) := by decide +kernel
theorem dL_law_1729 : decode cL_law 1729 = .ok (.if_icmp .eq 5, 3) := by decide +kernel
theorem dL_law_1732 : decode cL_law 1732 = .ok (.iconst 0, 1) := by decide +kernel
theorem dL_law_1733 : decode cL_law 1733 = .ok (.ireturn, 1) := by decide +kernel
theorem dL_law_1734 : decode cL_law 1734 = .ok (.iload 6, 2) := by decide +kernel
theorem dL_law_1736 : decode cL_law 1736 = .ok (.ifCond .ne 15, 3) := by decide +kernel
theorem dL_law_1739 : decode cL_law 1739 = .ok (.aload_n 3, 1) := by decide +kernel
theorem dL_law_1740 : decode cL_law 1740 = .ok (.iconst 0, 1) := by decide +kernel
theorem dL_law_1741 : decode cL_law 1741 = .ok (.laload, 1) := by decide +kernel
theorem dL_law_1742 : decode cL_law 1742 = .ok (.iload 7, 2) := by decide +kernel
theorem dL_law_1744 : decode cL_law 1744 = .ok (.i2l, 1) := by decide +kernel
theorem dL_law_1745 : decode cL_law 1745 = .ok (.lcmp, 1) := by decide +kernel
theorem dL_law_1746 : decode cL_law 1746 = .ok (.ifCond .eq 5, 3) := by decide +kernel
theorem dL_law_1749 : decode cL_law 1749 = .ok (.iconst 0, 1) := by decide +kernel
theorem dL_law_1750 : decode cL_law 1750 = .ok (.ireturn, 1) := by decide +kernel
theorem dL_law_1751 : decode cL_law 1751 = .ok (.goto 403, 3) := by decide +kernel
theorem dL_law_1754 : decode cL_law 1754 = .ok (.aload_n 1, 1) := by decide +kernel
theorem dL_law_1755 : decode cL_law 1755 = .ok (.aload_n 0, 1) := by decide +kernel
theorem dL_law_1756 : decode cL_law 1756 = .ok (.iload 5, 2) := by decide +kernel
theorem dL_law_1758 : decode cL_law 1758 = .ok (.iconst 1, 1) := by decide +kernel
theorem dL_law_1759 : decode cL_law 1759 = .ok (.iadd, 1) := by decide +kernel
theorem dL_law_1760 : decode cL_law 1760 = .ok (.iaload, 1) := by decide +kernel
theorem dL_law_1761 : decode cL_law 1761 = .ok (.aload_n 3, 1) := by decide +kernel
theorem dL_law_1762 : decode cL_law 1762 = .ok (.invokestatic 233, 3) := by decide +kernel
theorem dL_law_1765 : decode cL_law 1765 = .ok (.istore 6, 2) := by decide +kernel
theorem dL_law_1767 : decode cL_law 1767 = .ok (.aload_n 2, 1) := by decide +kernel
theorem dL_law_1768 : decode cL_law 1768 = .ok (.aload_n 0, 1) := by decide +kernel
theorem dL_law_1769 : decode cL_law 1769 = .ok (.iload 5, 2) := by decide +kernel
theorem dL_law_1771 : decode cL_law 1771 = .ok (.iconst 1, 1) := by decide +kernel
theorem dL_law_1772 : decode cL_law 1772 = .ok (.iadd, 1) := by decide +kernel
theorem dL_law_1773 : decode cL_law 1773 = .ok (.iaload, 1) := by decide +kernel
theorem dL_law_1774 : decode cL_law 1774 = .ok (.invokevirtual 235, 3) := by decide +kernel
theorem dL_law_1777 : decode cL_law 1777 = .ok (.istore 7, 2) := by decide +kernel
theorem dL_law_1779 : decode cL_law 1779 = .ok (.aload_n 2, 1) := by decide +kernel
theorem dL_law_1780 : decode cL_law 1780 = .ok (.invokevirtual 135, 3) := by decide +kernel
theorem dL_law_1783 : decode cL_law 1783 = .ok (.iload 6, 2) := by decide +kernel
theorem dL_law_1785 : decode cL_law 1785 = .ok (.if_icmp .eq 5, 3) := by decide +kernel
theorem dL_law_1788 : decode cL_law 1788 = .ok (.iconst 0, 1) := by decide +kernel
theorem dL_law_1789 : decode cL_law 1789 = .ok (.ireturn, 1) := by decide +kernel
theorem dL_law_1790 : decode cL_law 1790 = .ok (.iload 6, 2) := by decide +kernel
theorem dL_law_1792 : decode cL_law 1792 = .ok (.ifCond .ne 15, 3) := by decide +kernel
theorem dL_law_1795 : decode cL_law 1795 = .ok (.aload_n 3, 1) := by decide +kernel
theorem dL_law_1796 : decode cL_law 1796 = .ok (.iconst 0, 1) := by decide +kernel
theorem dL_law_1797 : decode cL_law 1797 = .ok (.laload, 1) := by decide +kernel
theorem dL_law_1798 : decode cL_law 1798 = .ok (.iload 7, 2) := by decide +kernel
theorem dL_law_1800 : decode cL_law 1800 = .ok (.i2l, 1) := by decide +kernel
theorem dL_law_1801 : decode cL_law 1801 = .ok (.lcmp, 1) := by decide +kernel
theorem dL_law_1802 : decode cL_law 1802 = .ok (.ifCond .eq 5, 3) := by decide +kernel
theorem dL_law_1805 : decode cL_law 1805 = .ok (.iconst 0, 1) := by decide +kernel
theorem dL_law_1806 : decode cL_law 1806 = .ok (.ireturn, 1) := by decide +kernel
theorem dL_law_1807 : decode cL_law 1807 = .ok (.goto 347, 3) := by decide +kernel
theorem dL_law_1810 : decode cL_law 1810 = .ok (.aload_n 1, 1) := by decide +kernel
theorem dL_law_1811 : decode cL_law 1811 = .ok (.aload_n 0, 1) := by decide +kernel
theorem dL_law_1812 : decode cL_law 1812 = .ok (.iload 5, 2) := by decide +kernel
theorem dL_law_1814 : decode cL_law 1814 = .ok (.iconst 1, 1) := by decide +kernel
theorem dL_law_1815 : decode cL_law 1815 = .ok (.iadd, 1) := by decide +kernel
theorem dL_law_1816 : decode cL_law 1816 = .ok (.iaload, 1) := by decide +kernel
theorem dL_law_1817 : decode cL_law 1817 = .ok (.aload_n 3, 1) := by decide +kernel
theorem dL_law_1818 : decode cL_law 1818 = .ok (.invokestatic 236, 3) := by decide +kernel
theorem dL_law_1821 : decode cL_law 1821 = .ok (.istore 6, 2) := by decide +kernel
theorem dL_law_1823 : decode cL_law 1823 = .ok (.aload_n 2, 1) := by decide +kernel
theorem dL_law_1824 : decode cL_law 1824 = .ok (.aload_n 0, 1) := by decide +kernel
theorem dL_law_1825 : decode cL_law 1825 = .ok (.iload 5, 2) := by decide +kernel
theorem dL_law_1827 : decode cL_law 1827 = .ok (.iconst 1, 1) := by decide +kernel
theorem dL_law_1828 : decode cL_law 1828 = .ok (.iadd, 1) := by decide +kernel
theorem dL_law_1829 : decode cL_law 1829 = .ok (.iaload, 1) := by decide +kernel
theorem dL_law_1830 : decode cL_law 1830 = .ok (.invokevirtual 238, 3) := by decide +kernel
theorem dL_law_1833 : decode cL_law 1833 = .ok (.istore 7, 2) := by decide +kernel
theorem dL_law_1835 : decode cL_law 1835 = .ok (.aload_n 2, 1) := by decide +kernel
theorem dL_law_1836 : decode cL_law 1836 = .ok (.invokevirtual 135, 3) := by decide +kernel
theorem dL_law_1839 : decode cL_law 1839 = .ok (.iload 6, 2) := by decide +kernel
theorem dL_law_1841 : decode cL_law 1841 = .ok (.if_icmp .eq 5, 3) := by decide +kernel
theorem dL_law_1844 : decode cL_law 1844 = .ok (.iconst 0, 1) := by decide +kernel
theorem dL_law_1845 : decode cL_law 1845 = .ok (.ireturn, 1) := by decide +kernel
theorem dL_law_1846 : decode cL_law 1846 = .ok (.iload 6, 2) := by decide +kernel
theorem dL_law_1848 : decode cL_law 1848 = .ok (.ifCond .ne 15, 3) := by decide +kernel
theorem dL_law_1851 : decode cL_law 1851 = .ok (.aload_n 3, 1) := by decide +kernel
theorem dL_law_1852 : decode cL_law 1852 = .ok (.iconst 0, 1) := by decide +kernel
theorem dL_law_1853 : decode cL_law 1853 = .ok (.laload, 1) := by decide +kernel
theorem dL_law_1854 : decode cL_law 1854 = .ok (.iload 7, 2) := by decide +kernel
theorem dL_law_1856 : decode cL_law 1856 = .ok (.i2l, 1) := by decide +kernel
theorem dL_law_1857 : decode cL_law 1857 = .ok (.lcmp, 1) := by decide +kernel
theorem dL_law_1858 : decode cL_law 1858 = .ok (.ifCond .eq 5, 3) := by decide +kernel
theorem dL_law_1861 : decode cL_law 1861 = .ok (.iconst 0, 1) := by decide +kernel
theorem dL_law_1862 : decode cL_law 1862 = .ok (.ireturn, 1) := by decide +kernel
theorem dL_law_1863 : decode cL_law 1863 = .ok (.goto 291, 3) := by decide +kernel
theorem dL_law_1866 : decode cL_law 1866 = .ok (.aload_n 1, 1) := by decide +kernel
theorem dL_law_1867 : decode cL_law 1867 = .ok (.aload 4, 2) := by decide +kernel
theorem dL_law_1869 : decode cL_law 1869 = .ok (.invokestatic 239, 3) := by decide +kernel
theorem dL_law_1872 : decode cL_law 1872 = .ok (.istore 6, 2) := by decide +kernel
theorem dL_law_1874 : decode cL_law 1874 = .ok (.aload_n 2, 1) := by decide +kernel
theorem dL_law_1875 : decode cL_law 1875 = .ok (.invokevirtual 242, 3) := by decide +kernel
theorem dL_law_1878 : decode cL_law 1878 = .ok (.dstore 7, 2) := by decide +kernel
theorem dL_law_1880 : decode cL_law 1880 = .ok (.aload_n 2, 1) := by decide +kernel
theorem dL_law_1881 : decode cL_law 1881 = .ok (.invokevirtual 135, 3) := by decide +kernel
theorem dL_law_1884 : decode cL_law 1884 = .ok (.iload 6, 2) := by decide +kernel
theorem dL_law_1886 : decode cL_law 1886 = .ok (.if_icmp .eq 5, 3) := by decide +kernel
theorem dL_law_1889 : decode cL_law 1889 = .ok (.iconst 0, 1) := by decide +kernel
theorem dL_law_1890 : decode cL_law 1890 = .ok (.ireturn, 1) := by decide +kernel
theorem dL_law_1891 : decode cL_law 1891 = .ok (.iload 6, 2) := by decide +kernel
theorem dL_law_1893 : decode cL_law 1893 = .ok (.ifCond .ne 35, 3) := by decide +kernel
theorem dL_law_1896 : decode cL_law 1896 = .ok (.aload 4, 2) := by decide +kernel
theorem dL_law_1898 : decode cL_law 1898 = .ok (.iconst 0, 1) := by decide +kernel
theorem dL_law_1899 : decode cL_law 1899 = .ok (.daload, 1) := by decide +kernel
theorem dL_law_1900 : decode cL_law 1900 = .ok (.dload 7, 2) := by decide +kernel
theorem dL_law_1902 : decode cL_law 1902 = .ok (.dcmp .l, 1) := by decide +kernel
theorem dL_law_1903 : decode cL_law 1903 = .ok (.ifCond .eq 25, 3) := by decide +kernel
theorem dL_law_1906 : decode cL_law 1906 = .ok (.aload 4, 2) := by decide +kernel
theorem dL_law_1908 : decode cL_law 1908 = .ok (.iconst 0, 1) := by decide +kernel
theorem dL_law_1909 : decode cL_law 1909 = .ok (.daload, 1) := by decide +kernel
theorem dL_law_1910 : decode cL_law 1910 = .ok (.aload 4, 2) := by decide +kernel
theorem dL_law_1912 : decode cL_law 1912 = .ok (.iconst 0, 1) := by decide +kernel
theorem dL_law_1913 : decode cL_law 1913 = .ok (.daload, 1) := by decide +kernel
theorem dL_law_1914 : decode cL_law 1914 = .ok (.dcmp .l, 1) := by decide +kernel
theorem dL_law_1915 : decode cL_law 1915 = .ok (.ifCond .eq 11, 3) := by decide +kernel
theorem dL_law_1918 : decode cL_law 1918 = .ok (.dload 7, 2) := by decide +kernel
theorem dL_law_1920 : decode cL_law 1920 = .ok (.dload 7, 2) := by decide +kernel
theorem dL_law_1922 : decode cL_law 1922 = .ok (.dcmp .l, 1) := by decide +kernel
theorem dL_law_1923 : decode cL_law 1923 = .ok (.ifCond .ne 5, 3) := by decide +kernel
theorem dL_law_1926 : decode cL_law 1926 = .ok (.iconst 0, 1) := by decide +kernel
theorem dL_law_1927 : decode cL_law 1927 = .ok (.ireturn, 1) := by decide +kernel
theorem dL_law_1928 : decode cL_law 1928 = .ok (.goto 226, 3) := by decide +kernel
theorem dL_law_1931 : decode cL_law 1931 = .ok (.aload_n 1, 1) := by decide +kernel
theorem dL_law_1932 : decode cL_law 1932 = .ok (.aload 4, 2) := by decide +kernel
theorem dL_law_1934 : decode cL_law 1934 = .ok (.invokestatic 243, 3) := by decide +kernel
theorem dL_law_1937 : decode cL_law 1937 = .ok (.istore 6, 2) := by decide +kernel
theorem dL_law_1939 : decode cL_law 1939 = .ok (.aload_n 2, 1) := by decide +kernel
theorem dL_law_1940 : decode cL_law 1940 = .ok (.invokevirtual 245, 3) := by decide +kernel
theorem dL_law_1943 : decode cL_law 1943 = .ok (.fstore 7, 2) := by decide +kernel
theorem dL_law_1945 : decode cL_law 1945 = .ok (.aload_n 2, 1) := by decide +kernel
theorem dL_law_1946 : decode cL_law 1946 = .ok (.invokevirtual 135, 3) := by decide +kernel
theorem dL_law_1949 : decode cL_law 1949 = .ok (.iload 6, 2) := by decide +kernel
theorem dL_law_1951 : decode cL_law 1951 = .ok (.if_icmp .eq 5, 3) := by decide +kernel
theorem dL_law_1954 : decode cL_law 1954 = .ok (.iconst 0, 1) := by decide +kernel
theorem dL_law_1955 : decode cL_law 1955 = .ok (.ireturn, 1) := by decide +kernel
theorem dL_law_1956 : decode cL_law 1956 = .ok (.iload 6, 2) := by decide +kernel
theorem dL_law_1958 : decode cL_law 1958 = .ok (.ifCond .ne 36, 3) := by decide +kernel
theorem dL_law_1961 : decode cL_law 1961 = .ok (.aload 4, 2) := by decide +kernel
theorem dL_law_1963 : decode cL_law 1963 = .ok (.iconst 0, 1) := by decide +kernel
theorem dL_law_1964 : decode cL_law 1964 = .ok (.daload, 1) := by decide +kernel
theorem dL_law_1965 : decode cL_law 1965 = .ok (.fload 7, 2) := by decide +kernel
theorem dL_law_1967 : decode cL_law 1967 = .ok (.f2d, 1) := by decide +kernel
theorem dL_law_1968 : decode cL_law 1968 = .ok (.dcmp .l, 1) := by decide +kernel
theorem dL_law_1969 : decode cL_law 1969 = .ok (.ifCond .eq 25, 3) := by decide +kernel
theorem dL_law_1972 : decode cL_law 1972 = .ok (.aload 4, 2) := by decide +kernel
theorem dL_law_1974 : decode cL_law 1974 = .ok (.iconst 0, 1) := by decide +kernel
theorem dL_law_1975 : decode cL_law 1975 = .ok (.daload, 1) := by decide +kernel
theorem dL_law_1976 : decode cL_law 1976 = .ok (.aload 4, 2) := by decide +kernel
theorem dL_law_1978 : decode cL_law 1978 = .ok (.iconst 0, 1) := by decide +kernel
theorem dL_law_1979 : decode cL_law 1979 = .ok (.daload, 1) := by decide +kernel
theorem dL_law_1980 : decode cL_law 1980 = .ok (.dcmp .l, 1) := by decide +kernel
theorem dL_law_1981 : decode cL_law 1981 = .ok (.ifCond .eq 11, 3) := by decide +kernel
theorem dL_law_1984 : decode cL_law 1984 = .ok (.fload 7, 2) := by decide +kernel
theorem dL_law_1986 : decode cL_law 1986 = .ok (.fload 7, 2) := by decide +kernel
theorem dL_law_1988 : decode cL_law 1988 = .ok (.fcmp .l, 1) := by decide +kernel
theorem dL_law_1989 : decode cL_law 1989 = .ok (.ifCond .ne 5, 3) := by decide +kernel
theorem dL_law_1992 : decode cL_law 1992 = .ok (.iconst 0, 1) := by decide +kernel
theorem dL_law_1993 : decode cL_law 1993 = .ok (.ireturn, 1) := by decide +kernel
theorem dL_law_1994 : decode cL_law 1994 = .ok (.goto 160, 3) := by decide +kernel
theorem dL_law_1997 : decode cL_law 1997 = .ok (.aload_n 1, 1) := by decide +kernel
theorem dL_law_1998 : decode cL_law 1998 = .ok (.aload_n 0, 1) := by decide +kernel
theorem dL_law_1999 : decode cL_law 1999 = .ok (.iload 5, 2) := by decide +kernel
theorem dL_law_2001 : decode cL_law 2001 = .ok (.iconst 1, 1) := by decide +kernel
theorem dL_law_2002 : decode cL_law 2002 = .ok (.iadd, 1) := by decide +kernel
theorem dL_law_2003 : decode cL_law 2003 = .ok (.iaload, 1) := by decide +kernel
theorem dL_law_2004 : decode cL_law 2004 = .ok (.aload_n 3, 1) := by decide +kernel
theorem dL_law_2005 : decode cL_law 2005 = .ok (.invokestatic 246, 3) := by decide +kernel
theorem dL_law_2008 : decode cL_law 2008 = .ok (.istore 6, 2) := by decide +kernel
theorem dL_law_2010 : decode cL_law 2010 = .ok (.aload_n 2, 1) := by decide +kernel
theorem dL_law_2011 : decode cL_law 2011 = .ok (.aload_n 0, 1) := by decide +kernel
theorem dL_law_2012 : decode cL_law 2012 = .ok (.iload 5, 2) := by decide +kernel
theorem dL_law_2014 : decode cL_law 2014 = .ok (.iconst 1, 1) := by decide +kernel
theorem dL_law_2015 : decode cL_law 2015 = .ok (.iadd, 1) := by decide +kernel
theorem dL_law_2016 : decode cL_law 2016 = .ok (.iaload, 1) := by decide +kernel
theorem dL_law_2017 : decode cL_law 2017 = .ok (.invokevirtual 248, 3) := by decide +kernel
theorem dL_law_2020 : decode cL_law 2020 = .ok (.istore 7, 2) := by decide +kernel
theorem dL_law_2022 : decode cL_law 2022 = .ok (.aload_n 2, 1) := by decide +kernel
theorem dL_law_2023 : decode cL_law 2023 = .ok (.invokevirtual 135, 3) := by decide +kernel
theorem dL_law_2026 : decode cL_law 2026 = .ok (.iload 6, 2) := by decide +kernel
theorem dL_law_2028 : decode cL_law 2028 = .ok (.if_icmp .eq 5, 3) := by decide +kernel
theorem dL_law_2031 : decode cL_law 2031 = .ok (.iconst 0, 1) := by decide +kernel
theorem dL_law_2032 : decode cL_law 2032 = .ok (.ireturn, 1) := by decide +kernel
theorem dL_law_2033 : decode cL_law 2033 = .ok (.iload 6, 2) := by decide +kernel
theorem dL_law_2035 : decode cL_law 2035 = .ok (.ifCond .ne 15, 3) := by decide +kernel
theorem dL_law_2038 : decode cL_law 2038 = .ok (.aload_n 3, 1) := by decide +kernel
theorem dL_law_2039 : decode cL_law 2039 = .ok (.iconst 0, 1) := by decide +kernel
theorem dL_law_2040 : decode cL_law 2040 = .ok (.laload, 1) := by decide +kernel
theorem dL_law_2041 : decode cL_law 2041 = .ok (.iload 7, 2) := by decide +kernel
theorem dL_law_2043 : decode cL_law 2043 = .ok (.i2l, 1) := by decide +kernel
theorem dL_law_2044 : decode cL_law 2044 = .ok (.lcmp, 1) := by decide +kernel
theorem dL_law_2045 : decode cL_law 2045 = .ok (.ifCond .eq 5, 3) := by decide +kernel
theorem dL_law_2048 : decode cL_law 2048 = .ok (.iconst 0, 1) := by decide +kernel
theorem dL_law_2049 : decode cL_law 2049 = .ok (.ireturn, 1) := by decide +kernel
theorem dL_law_2050 : decode cL_law 2050 = .ok (.goto 104, 3) := by decide +kernel
theorem dL_law_2053 : decode cL_law 2053 = .ok (.aload_n 1, 1) := by decide +kernel
theorem dL_law_2054 : decode cL_law 2054 = .ok (.aload_n 3, 1) := by decide +kernel
theorem dL_law_2055 : decode cL_law 2055 = .ok (.invokestatic 249, 3) := by decide +kernel
theorem dL_law_2058 : decode cL_law 2058 = .ok (.istore 6, 2) := by decide +kernel
theorem dL_law_2060 : decode cL_law 2060 = .ok (.aload_n 2, 1) := by decide +kernel
theorem dL_law_2061 : decode cL_law 2061 = .ok (.invokevirtual 251, 3) := by decide +kernel
theorem dL_law_2064 : decode cL_law 2064 = .ok (.istore 7, 2) := by decide +kernel
theorem dL_law_2066 : decode cL_law 2066 = .ok (.aload_n 2, 1) := by decide +kernel
theorem dL_law_2067 : decode cL_law 2067 = .ok (.invokevirtual 135, 3) := by decide +kernel
theorem dL_law_2070 : decode cL_law 2070 = .ok (.iload 6, 2) := by decide +kernel
theorem dL_law_2072 : decode cL_law 2072 = .ok (.if_icmp .eq 5, 3) := by decide +kernel
theorem dL_law_2075 : decode cL_law 2075 = .ok (.iconst 0, 1) := by decide +kernel
theorem dL_law_2076 : decode cL_law 2076 = .ok (.ireturn, 1) := by decide +kernel
theorem dL_law_2077 : decode cL_law 2077 = .ok (.iload 6, 2) := by decide +kernel
theorem dL_law_2079 : decode cL_law 2079 = .ok (.ifCond .ne 15, 3) := by decide +kernel
theorem dL_law_2082 : decode cL_law 2082 = .ok (.aload_n 3, 1) := by decide +kernel
theorem dL_law_2083 : decode cL_law 2083 = .ok (.iconst 0, 1) := by decide +kernel
theorem dL_law_2084 : decode cL_law 2084 = .ok (.laload, 1) := by decide +kernel
theorem dL_law_2085 : decode cL_law 2085 = .ok (.iload 7, 2) := by decide +kernel
theorem dL_law_2087 : decode cL_law 2087 = .ok (.i2l, 1) := by decide +kernel
theorem dL_law_2088 : decode cL_law 2088 = .ok (.lcmp, 1) := by decide +kernel
theorem dL_law_2089 : decode cL_law 2089 = .ok (.ifCond .eq 5, 3) := by decide +kernel
theorem dL_law_2092 : decode cL_law 2092 = .ok (.iconst 0, 1) := by decide +kernel
theorem dL_law_2093 : decode cL_law 2093 = .ok (.ireturn, 1) := by decide +kernel
theorem dL_law_2094 : decode cL_law 2094 = .ok (.goto 60, 3) := by decide +kernel
theorem dL_law_2097 : decode cL_law 2097 = .ok (.aload_n 1, 1) := by decide +kernel
theorem dL_law_2098 : decode cL_law 2098 = .ok (.invokevirtual 252, 3) := by decide +kernel
theorem dL_law_2101 : decode cL_law 2101 = .ok (.aload_n 2, 1) := by decide +kernel
theorem dL_law_2102 : decode cL_law 2102 = .ok (.invokevirtual 255, 3) := by decide +kernel
theorem dL_law_2105 : decode cL_law 2105 = .ok (.if_icmp .eq 49, 3) := by decide +kernel
theorem dL_law_2108 : decode cL_law 2108 = .ok (.iconst 0, 1) := by decide +kernel
theorem dL_law_2109 : decode cL_law 2109 = .ok (.ireturn, 1) := by decide +kernel
theorem dL_law_2110 : decode cL_law 2110 = .ok (.aload_n 1, 1) := by decide +kernel
theorem dL_law_2111 : decode cL_law 2111 = .ok (.aload_n 3, 1) := by decide +kernel
theorem dL_law_2112 : decode cL_law 2112 = .ok (.invokestatic 256, 3) := by decide +kernel
theorem dL_law_2115 : decode cL_law 2115 = .ok (.istore 6, 2) := by decide +kernel
theorem dL_law_2117 : decode cL_law 2117 = .ok (.aload_n 2, 1) := by decide +kernel
theorem dL_law_2118 : decode cL_law 2118 = .ok (.invokevirtual 258, 3) := by decide +kernel
theorem dL_law_2121 : decode cL_law 2121 = .ok (.istore 7, 2) := by decide +kernel
theorem dL_law_2123 : decode cL_law 2123 = .ok (.aload_n 2, 1) := by decide +kernel
theorem dL_law_2124 : decode cL_law 2124 = .ok (.invokevirtual 135, 3) := by decide +kernel
theorem dL_law_2127 : decode cL_law 2127 = .ok (.iload 6, 2) := by decide +kernel
theorem dL_law_2129 : decode cL_law 2129 = .ok (.if_icmp .eq 5, 3) := by decide +kernel
theorem dL_law_2132 : decode cL_law 2132 = .ok (.iconst 0, 1) := by decide +kernel
theorem dL_law_2133 : decode cL_law 2133 = .ok (.ireturn, 1) := by decide +kernel
theorem dL_law_2134 : decode cL_law 2134 = .ok (.iload 6, 2) := by decide +kernel
theorem dL_law_2136 : decode cL_law 2136 = .ok (.ifCond .ne 15, 3) := by decide +kernel
theorem dL_law_2139 : decode cL_law 2139 = .ok (.aload_n 3, 1) := by decide +kernel
theorem dL_law_2140 : decode cL_law 2140 = .ok (.iconst 0, 1) := by decide +kernel
theorem dL_law_2141 : decode cL_law 2141 = .ok (.laload, 1) := by decide +kernel
theorem dL_law_2142 : decode cL_law 2142 = .ok (.iload 7, 2) := by decide +kernel
theorem dL_law_2144 : decode cL_law 2144 = .ok (.i2l, 1) := by decide +kernel
theorem dL_law_2145 : decode cL_law 2145 = .ok (.lcmp, 1) := by decide +kernel
theorem dL_law_2146 : decode cL_law 2146 = .ok (.ifCond .eq 5, 3) := by decide +kernel
theorem dL_law_2149 : decode cL_law 2149 = .ok (.iconst 0, 1) := by decide +kernel
theorem dL_law_2150 : decode cL_law 2150 = .ok (.ireturn, 1) := by decide +kernel
theorem dL_law_2151 : decode cL_law 2151 = .ok (.goto 3, 3) := by decide +kernel
theorem dL_law_2154 : decode cL_law 2154 = .ok (.iinc 5 5, 3) := by decide +kernel
theorem dL_law_2157 : decode cL_law 2157 = .ok (.goto (-2129), 3) := by decide +kernel
theorem dL_law_2160 : decode cL_law 2160 = .ok (.iconst 1, 1) := by decide +kernel
theorem dL_law_2161 : decode cL_law 2161 = .ok (.ireturn, 1) := by decide +kernel
end
section
/-! THE WORLD: 70 cells at addresses that are given (G.2.1), made once and never again; what they hold by two functions a side: C of the class, M of the reference: .1 an object's numbers (by cell, by slot), .2 a row's (by cell, by place); o, d the law's two rows of one -/
abbrev gx_F : Type := Nat → Nat → Int32
abbrev gx_S : Type := (Nat → Nat → Int32) × (Nat → Nat → Int32)
abbrev gx_G : Type := va_G × (Nat → Nat) × (Nat → ClassId) × Nat
def gx_chr (x : Int32) : Int32 := vp_nar .char x
def gx_boo (x : Int32) : Int32 := vp_nar .boolean x
def gx_bi (b : Bool) : Int32 := if b = true then 1 else 0
def gx_u (F : Nat → Nat → Int32) (k n : Nat) (x : Int32) : Nat → Nat → Int32 := fun a b => if a = k then (if b = n then x else F a b) else F a b
def gx_cp (F : Nat → Nat → Int32) (k0 k1 sp dp n : Nat) : Nat → Nat → Int32 := fun a b => if a = k1 then (if dp ≤ b ∧ b < dp + n then F k0 (sp + (b - dp)) else F a b) else F a b
theorem gx_u_ne {F : Nat → Nat → Int32} {k n j : Nat} {x : Int32} (h : j ≠ k) : gx_u F k n x j = F j := by
  funext b
  unfold gx_u
  rw [if_neg h]
theorem gx_cp_ne {F : Nat → Nat → Int32} {k0 k1 sp dp n j : Nat} (h : j ≠ k1) : gx_cp F k0 k1 sp dp n j = F j := by
  funext b
  unfold gx_cp
  rw [if_neg h]
/-- the rows of ints of the reference: cell, length -/
def gx_mlen (k : Nat) : Nat := if k = 60 then 696 else if k = 64 then 60 else if k = 67 then 186 else 87
def gx_isW (k : Nat) : Prop := k < 44 ∧ k % 4 = 0
def gx_isM (k : Nat) : Prop := k = 59 ∨ k = 60 ∨ k = 61 ∨ k = 62 ∨ k = 63 ∨ k = 64 ∨ k = 67
def gx_cell (G : gx_G) (C M : gx_S) (o : Int64) (d : UInt64) (k : Nat) : va_E :=
  if k < 44 then
    (if k % 4 = 0 then .inr (7, [.ref (G.2.1 (k + 1)), .ref (G.2.1 (k + 2)), .ref (G.2.1 (k + 3)), .int (C.1 k 3), .int (C.1 k 4), .int (C.1 k 5), .int (C.1 k 6), .int (C.1 k 7), .int (C.1 k 8)])
     else .inl (G.2.2.1 0, (if k % 4 = 1 then 32 else if k % 4 = 2 then 7 else 42), .inl (C.2 k)))
  else if k = 44 then .inr (8, [.ref (G.2.1 0), .ref (G.2.1 4), .ref (G.2.1 8), .int (gx_boo (C.1 k 3)), .ref (G.2.1 46), .ref (G.2.1 48), .ref (G.2.1 51), .ref (G.2.1 53), .int (C.1 k 8), .ref (G.2.1 54), .int (C.1 k 10), .ref (G.2.1 45), .int (C.1 k 12)])
  else if k = 45 then .inl (G.2.2.1 1, 28, .inl (fun n => gx_chr (C.2 k n)))
  else if k = 46 then .inr (4, [.ref (G.2.1 47), .int (C.1 k 1), .int (C.1 k 2)])
  else if k = 47 then .inl (G.2.2.1 3, 8, .inr (.inr (.inr (.inr (fun n => some (G.2.1 (12 + 4 * n)))))))
  else if k = 48 then .inr (2, [.ref (G.2.1 49), .ref (G.2.1 50), .int (C.1 k 2)])
  else if k = 49 then .inl (G.2.2.1 2, 42, .inl (fun n => gx_boo (C.2 k n)))
  else if k = 50 then .inl (G.2.2.1 0, 42, .inl (C.2 k))
  else if k = 51 then .inr (3, [.ref (G.2.1 52), .int (C.1 k 1), .int (C.1 k 2)])
  else if k = 52 then .inl (G.2.2.1 0, 4, .inl (C.2 k))
  else if k = 53 then .inr (5, [.ref (G.2.1 48), .ref (G.2.1 51), .int (C.1 k 2), .int (C.1 k 3)])
  else if k = 54 then .inr (6, [.ref (G.2.1 55), .ref (G.2.1 56), .ref (G.2.1 57), .int (C.1 k 3), .int (C.1 k 4), .int (C.1 k 5)])
  else if k = 55 then .inl (G.2.2.1 1, 60, .inl (fun n => gx_chr (C.2 k n)))
  else if k = 56 then .inl (G.2.2.1 1, 30, .inl (fun n => gx_chr (C.2 k n)))
  else if k = 57 then .inl (G.2.2.1 0, 120, .inl (C.2 k))
  else if k = 58 then .inr (9, [.ref (G.2.1 59), .ref (G.2.1 60), .ref (G.2.1 61), .ref (G.2.1 62), .ref (G.2.1 63), .int (gx_boo (M.1 k 5)), .int (M.1 k 6), .int (gx_boo (M.1 k 7)), .int (M.1 k 8), .int (M.1 k 9), .int (M.1 k 10), .int (M.1 k 11), .int (M.1 k 12), .ref (G.2.1 64), .int (M.1 k 14), .int (M.1 k 15), .ref (G.2.1 65), .int (M.1 k 17), .ref (G.2.1 66), .int (M.1 k 19), .ref (G.2.1 67), .int (M.1 k 21)])
  else if k = 65 then .inl (G.2.2.1 1, 32, .inl (fun n => gx_chr (M.2 k n)))
  else if k = 66 then .inl (G.2.2.1 2, 42, .inl (fun n => gx_boo (M.2 k n)))
  else if k = 68 then .inl (G.2.2.1 4, 1, .inr (.inl (fun _ => o)))
  else if k = 69 then .inl (G.2.2.1 5, 1, .inr (.inr (.inr (.inl (fun _ => d)))))
  else .inl (G.2.2.1 0, gx_mlen k, .inl (M.2 k))
def gx_ws (G : gx_G) (C M : gx_S) (o : Int64) (d : UInt64) : va_W := (List.range 70).map fun k => (G.2.1 k, gx_cell G C M o d k)
theorem gx_ws_get {G : gx_G} {C M : gx_S} {o : Int64} {d : UInt64} {k : Nat} (hk : k < 70) : (gx_ws G C M o d)[k]? = some (G.2.1 k, gx_cell G C M o d k) := by
  simp [gx_ws, hk]
theorem gx_ws_of {G : gx_G} {C M : gx_S} {o : Int64} {d : UInt64} {k : Nat} {q : Nat × va_E} (h : (gx_ws G C M o d)[k]? = some q) : k < 70 ∧ q = (G.2.1 k, gx_cell G C M o d k) := by
  have hk : k < 70 := by
    have := (List.getElem?_eq_some_iff.mp h).1
    simpa [gx_ws] using this
  rw [gx_ws_get hk] at h
  exact ⟨hk, (Option.some.inj h).symm⟩
theorem gx_ws_set {G : gx_G} {C M C' M' : gx_S} {o o' : Int64} {d d' : UInt64} {k : Nat} {x : va_E} (h1 : x = gx_cell G C' M' o' d' k) (h2 : ∀ j, j ≠ k → gx_cell G C' M' o' d' j = gx_cell G C M o d j) : (gx_ws G C M o d).set k (G.2.1 k, x) = gx_ws G C' M' o' d' := by
  apply List.ext_getElem?
  intro i
  by_cases hi : i < 70
  · rw [gx_ws_get hi]
    by_cases hik : i = k
    · subst hik
      rw [List.getElem?_set_self (by simpa [gx_ws] using hi), h1]
    · rw [List.getElem?_set_ne (Ne.symm hik), gx_ws_get hi, h2 i hik]
  · have l1 : ((gx_ws G C M o d).set k (G.2.1 k, x)).length ≤ i := by simp [gx_ws]; omega
    have l2 : (gx_ws G C' M' o' d').length ≤ i := by simp [gx_ws]; omega
    rw [List.getElem?_eq_none l1, List.getElem?_eq_none l2]
theorem gx_c1 {G : gx_G} {I V : Nat → Nat → Int32} {M : gx_S} {o : Int64} {d : UInt64} {k n j : Nat} {x : Int32} (h : j ≠ k) : gx_cell G (gx_u I k n x, V) M o d j = gx_cell G (I, V) M o d j := by
  simp only [gx_cell, gx_u_ne h]
theorem gx_c2 {G : gx_G} {I V : Nat → Nat → Int32} {M : gx_S} {o : Int64} {d : UInt64} {k n j : Nat} {x : Int32} (h : j ≠ k) : gx_cell G (I, gx_u V k n x) M o d j = gx_cell G (I, V) M o d j := by
  simp only [gx_cell, gx_u_ne h]
theorem gx_c2c {G : gx_G} {I V : Nat → Nat → Int32} {M : gx_S} {o : Int64} {d : UInt64} {k0 k sp dp n j : Nat} (h : j ≠ k) : gx_cell G (I, gx_cp V k0 k sp dp n) M o d j = gx_cell G (I, V) M o d j := by
  simp only [gx_cell, gx_cp_ne h]
theorem gx_m1 {G : gx_G} {I V : Nat → Nat → Int32} {C : gx_S} {o : Int64} {d : UInt64} {k n j : Nat} {x : Int32} (h : j ≠ k) : gx_cell G C (gx_u I k n x, V) o d j = gx_cell G C (I, V) o d j := by
  simp only [gx_cell, gx_u_ne h]
theorem gx_m2 {G : gx_G} {I V : Nat → Nat → Int32} {C : gx_S} {o : Int64} {d : UInt64} {k n j : Nat} {x : Int32} (h : j ≠ k) : gx_cell G C (I, gx_u V k n x) o d j = gx_cell G C (I, V) o d j := by
  simp only [gx_cell, gx_u_ne h]
/-- which cells may change: the world's, and what comes -/
def gx_A (G : gx_G) : Nat → Prop := fun q => (∃ k, k < 70 ∧ q = G.2.1 k) ∨ G.2.2.2 ≤ q
def gx_D (G : gx_G) : Prop := ∀ j k, j < 70 → k < 70 → G.2.1 j = G.2.1 k → j = k
theorem gx_D.va {G : gx_G} (h : gx_D G) (C M : gx_S) (o : Int64) (d : UInt64) : va_D (gx_A G) (gx_ws G C M o d) := by
  refine ⟨fun i j x y hi hj hxy => ?_, fun k q hq => ?_⟩
  · obtain ⟨h1, rfl⟩ := gx_ws_of hi
    obtain ⟨h2, rfl⟩ := gx_ws_of hj
    exact h i j h1 h2 hxy
  · obtain ⟨h1, rfl⟩ := gx_ws_of hq
    exact Or.inl ⟨k, h1, rfl⟩
abbrev gx_tys (G : gx_G) : List (ClassId × FieldType) := [(G.2.2.1 0, .int), (G.2.2.1 1, .char), (G.2.2.1 2, .boolean), (G.2.2.1 3, .object "GluedWall$Wall"), (G.2.2.1 4, .long), (G.2.2.1 5, .double)]
/-- the tables' words that stay -/
def gx_ok (w : Cond) : Bool := w.onTables && w.keepsH
def gx_V (G : gx_G) (U : State) : Prop := (∀ w ∈ lw_tbl, gx_ok w = true → w.before #[] U = true) ∧ va_K G.1 vwCl (gx_tys G) U ∧ gx_D G
theorem gx_V.w {G : gx_G} {U : State} (h : gx_V G U) {A : Array Value} {w : Cond} (hm : w ∈ lw_tbl) (ho : gx_ok w = true) : w.before A U = true := by
  have h1 := h.1 w hm ho
  simp only [gx_ok, Bool.and_eq_true] at ho
  exact va_tabs ho.1 rfl h1
theorem gx_V.same {G : gx_G} {u U : State} (hv : u.vm = U.vm) (h : gx_V G u) : gx_V G U := by
  refine ⟨fun w hm ho => ?_, va_K.moved (by rw [hv]; exact Vm.Alike.refl _) h.2.1, h.2.2⟩
  have h1 := h.1 w hm ho
  simp only [gx_ok, Bool.and_eq_true] at ho
  exact va_tabs ho.1 hv h1
theorem gx_V.warm {G : gx_G} {u U : State} (hW : u.WarmedH U.vm) (h : gx_V G u) : gx_V G U := by
  refine ⟨fun w hm ho => ?_, va_K.moved hW.alike h.2.1, h.2.2⟩
  have h1 := h.1 w hm ho
  simp only [gx_ok, Bool.and_eq_true] at ho
  have h2 := Cond.onTables_warmH (T := U) (args' := #[]) hW ho.1 ho.2 h1
  rwa [State.setVm_self] at h2
def gx_H (G : gx_G) (C M : gx_S) (o : Int64) (d : UInt64) (H : Heap) : Prop := va_P G.1 vwCl (gx_ws G C M o d) H ∧ G.2.2.2 ≤ H.size
/-- the world at a state -/
def gx_U (G : gx_G) (C M : gx_S) (o : Int64) (d : UInt64) (U : State) : Prop := gx_V G U ∧ gx_H G C M o d U.heap
/-- the world at a point of a walk that began with the heap H0 -/
def gx_at (G : gx_G) (C M : gx_S) (o : Int64) (d : UInt64) (H0 H : Heap) (locs : List Loc) : Prop := va_P G.1 vwCl (gx_ws G C M o d) H ∧ va_S (gx_A G) H0 H locs ∧ G.2.2.2 ≤ H0.size
theorem gx_at.H {G : gx_G} {C M : gx_S} {o : Int64} {d : UInt64} {H0 H : Heap} {locs : List Loc} (h : gx_at G C M o d H0 H locs) : gx_H G C M o d H := ⟨h.1, Nat.le_trans h.2.2 h.2.1.1⟩
theorem gx_U.at {G : gx_G} {C M : gx_S} {o : Int64} {d : UInt64} {U : State} (h : gx_U G C M o d U) : gx_at G C M o d U.heap U.heap [] := ⟨h.2.1, va_S.rf, h.2.2⟩
theorem gx_blind {G : gx_G} {C M : gx_S} {o : Int64} {d : UInt64} {av : List Value} : FrameBlind (va_Pc av (gx_U G C M o d)) := fun _ U g mk q => ⟨q.1, gx_V.same (u := U) (U := U.calling g mk _) rfl q.2.1, q.2.2⟩
theorem gx_go {G : gx_G} {C M : gx_S} {o : Int64} {d : UInt64} {s : State} {H : Heap} {locs : List Loc} (hV : gx_V G s) (hw : gx_at G C M o d s.heap H locs) (U : State) (hU : U.heap = H) (hW : s.WarmedH U.vm) : gx_U G C M o d U := ⟨gx_V.warm hW hV, by rw [hU]; exact hw.H⟩
end
section
/-! ROWS of instructions over the world; where the pure function branches or looks at an index, its value is at hand as hF -/
def gx_in (i : Int32) (n : Nat) : Bool := decide (¬ i < 0) && decide (i.toNatClampNeg < n)
def gx_ck {α : Type} (b : Bool) (X : Option α) : Option α := if b = true then X else none
theorem gx_in_vp {i : Int32} {n : Nat} (h : gx_in i n = true) : vp_in i n := by
  simp only [gx_in, Bool.and_eq_true, decide_eq_true_eq] at h
  intro q
  rcases q with q | q
  · exact h.1 q
  · exact absurd h.2 (Nat.not_lt.mpr q)
theorem gx_in_lt {i : Int32} {n : Nat} (h : gx_in i n = true) : i.toNatClampNeg < n := by
  simp only [gx_in, Bool.and_eq_true, decide_eq_true_eq] at h
  exact h.2
theorem gx_ck_of {α : Type} {b : Bool} {X : Option α} {q : α} (h : gx_ck b X = some q) : b = true ∧ X = some q := by
  unfold gx_ck at h
  by_cases hb : b = true
  · rw [if_pos hb] at h; exact ⟨hb, h⟩
  · rw [if_neg hb] at h; cases h
theorem gx_upd_u (V : Nat → Nat → Int32) (k n : Nat) (x : Int32) : upd (V k) n x = gx_u V k n x k := by
  funext j
  simp only [upd, gx_u, if_true]
theorem gx_upd_c (V : Nat → Nat → Int32) (k n : Nat) (x : Int32) : upd (fun j => gx_chr (V k j)) n (vp_nar .char x) = fun j => gx_chr (gx_u V k n x k j) := by
  funext j
  simp only [upd, gx_u, if_true]
  by_cases h : j = n
  · rw [if_pos h, if_pos h]; rfl
  · rw [if_neg h, if_neg h]
theorem gx_upd_z (V : Nat → Nat → Int32) (k n : Nat) (x : Int32) : upd (fun j => gx_boo (V k j)) n (vp_nar .boolean x) = fun j => gx_boo (gx_u V k n x k j) := by
  funext j
  simp only [upd, gx_u, if_true]
  by_cases h : j = n
  · rw [if_pos h, if_pos h]; rfl
  · rw [if_neg h, if_neg h]
theorem gx_cpy_u (V : Nat → Nat → Int32) (k0 k1 sp dp n : Nat) : va_cpy (V k0) (V k1) sp dp n = gx_cp V k0 k1 sp dp n k1 := by
  funext j
  simp only [va_cpy, gx_cp, if_true]
theorem gx_u_at (F : Nat → Nat → Int32) (k n : Nat) (x : Int32) : gx_u F k n x k n = x := by simp [gx_u]
theorem gx_u_at_ne {F : Nat → Nat → Int32} {k n j : Nat} {x : Int32} (h : j ≠ n) : gx_u F k n x k j = F k j := by simp [gx_u, h]
section GXR
variable {α : Type} {p : Program} {l : Launch} {e : Env} {R : Room} {s : State} {m : MethodId} {args : Array Value} {below : List Frame} {meth : Method} {c : Code} {H : Heap} {locs : List Loc} {cells slots : Nat} {Q : State → Prop}
variable {cc : ByteArray} {pc : Nat} {ls : Array Slot} {rest : List Value} {G : gx_G} {C M C' M' : gx_S} {o o' : Int64} {d d' : UInt64} {own : String} {X Y : Option α} {out : α}
theorem gx_get (hx : p.tables.exec = Jvm.exec) (hb : c.code = cc) (hown : s.vm.findClass own = some m.cls) (hV : gx_V G s) (hw : gx_at G C M o d s.heap H locs) {k ci N : Nat} {Cn : String} {T : u_T} {fs : List Value} (hk : k < 70) (hcell : gx_cell G C M o d k = .inr (ci, fs)) (hcl : vwCl[ci]? = some (Cn, T, N)) (hlay : ∀ w ∈ u_ws Cn T N, w ∈ lw_tbl ∧ gx_ok w = true) (j : Nat) (hj : j < N) (hcn : (T j).1 = Cn) {v : Value} (hv : fs[j]? = some v) {index : Nat} (hlink : (Cond.fieldLink own index Cn (T j).2.1 (T j).2.2.1).before args s = true) (hdg : decode cc pc = .ok (.getfield index, 3))
    (kk : W p l e R s m args below meth c H locs cells slots Q (F0 m (pc + 3) ls (v :: rest))) : W p l e R s m args below meth c H locs cells slots Q (F0 m pc ls (.ref (G.2.1 k) :: rest)) :=
  va_get (args := args) (Ts := u_ws Cn T N) hx hb (fun w h => hV.w (hlay w h).1 (hlay w h).2) (fun _ h => h) hown hV.2.1 hw.1 k ((gx_ws_get hk).trans (by rw [hcell])) hcl j hj hlink (fun x h => by rw [hcn] at h; exact h) hv hdg kk
theorem gx_put (hx : p.tables.exec = Jvm.exec) (hb : c.code = cc) (hown : s.vm.findClass own = some m.cls) (hV : gx_V G s) (hw : gx_at G C M o d s.heap H locs) {k ci N : Nat} {Cn : String} {T : u_T} {fs : List Value} (hk : k < 70) (hcell : gx_cell G C M o d k = .inr (ci, fs)) (hcl : vwCl[ci]? = some (Cn, T, N)) (hlay : ∀ w ∈ u_ws Cn T N, w ∈ lw_tbl ∧ gx_ok w = true) (ty0 : Nat → FieldType) (hty : ∀ k, k < N → parseFieldDescriptor (T k).2.2.1 = some (ty0 k)) (hnm : ∀ a, a < N → ∀ b, b < N → a ≠ b → (T a).2.1 ≠ (T b).2.1) (j : Nat) (hj : j < N) (hcn : (T j).1 = Cn) (hfin : (T j).2.2.2 = false) {ty : FieldType} {v : Value} (hd : parseFieldDescriptor (T j).2.2.1 = some ty) (hn : narrow ty v = v) (hfit : fits ty v = true) (hl : j < fs.length)
    (hnew : (Sum.inr (ci, fs.set j v) : va_E) = gx_cell G C' M' o' d' k) (hrest : ∀ i, i ≠ k → gx_cell G C' M' o' d' i = gx_cell G C M o d i) {index : Nat} (hlink : (Cond.fieldLink own index Cn (T j).2.1 (T j).2.2.1).before args s = true) (hdg : decode cc pc = .ok (.putfield index, 3))
    (kk : ∀ (H1 : Heap) (locs1 : List Loc), gx_at G C' M' o' d' s.heap H1 locs1 → W p l e R s m args below meth c H1 locs1 cells slots Q (F0 m (pc + 3) ls rest)) : W p l e R s m args below meth c H locs cells slots Q (F0 m pc ls (v :: .ref (G.2.1 k) :: rest)) :=
  va_put (args := args) (Ts := u_ws Cn T N) hx hb (fun w h => hV.w (hlay w h).1 (hlay w h).2) (fun _ h => h) ty0 hty hnm hown hV.2.1 hw.1 (hV.2.2.va C M o d) hw.2.1 k ((gx_ws_get hk).trans (by rw [hcell])) hcl j hj hlink (fun x h => by rw [hcn] at h; exact h) hfin hd hn hfit hl hdg
    (fun H1 locs1 hP _ hS => kk H1 locs1 ⟨by rw [gx_ws_set hnew hrest] at hP; exact hP, hS, hw.2.2⟩)
theorem gx_iald (hx : p.tables.exec = Jvm.exec) (hb : c.code = cc) (hV : gx_V G s) (hw : gx_at G C M o d s.heap H locs) {k n : Nat} {f : Nat → Int32} (hk : k < 70) (hcell : gx_cell G C M o d k = .inl (G.2.2.1 0, n, .inl f)) {i : Int32} (hF : gx_ck (gx_in i n) X = some out) (hdg : decode cc pc = .ok (.iaload, 1))
    (kk : gx_in i n = true → X = some out → W p l e R s m args below meth c H locs cells slots Q (F0 m (pc + 1) ls (.int (f i.toNatClampNeg) :: rest))) : W p l e R s m args below meth c H locs cells slots Q (F0 m pc ls (.int i :: .ref (G.2.1 k) :: rest)) := by
  obtain ⟨h1, h2⟩ := gx_ck_of hF
  exact va_iald hx hb hV.2.1 hw.1 k 0 ((gx_ws_get hk).trans (by rw [hcell])) rfl (gx_in_vp h1) hdg (kk h1 h2)
theorem gx_cald (hx : p.tables.exec = Jvm.exec) (hb : c.code = cc) (hV : gx_V G s) (hw : gx_at G C M o d s.heap H locs) {k n : Nat} {f : Nat → Int32} (hk : k < 70) (hcell : gx_cell G C M o d k = .inl (G.2.2.1 1, n, .inl f)) {i : Int32} (hF : gx_ck (gx_in i n) X = some out) (hdg : decode cc pc = .ok (.caload, 1))
    (kk : gx_in i n = true → X = some out → W p l e R s m args below meth c H locs cells slots Q (F0 m (pc + 1) ls (.int (f i.toNatClampNeg) :: rest))) : W p l e R s m args below meth c H locs cells slots Q (F0 m pc ls (.int i :: .ref (G.2.1 k) :: rest)) := by
  obtain ⟨h1, h2⟩ := gx_ck_of hF
  exact va_cald hx hb hV.2.1 hw.1 k 1 ((gx_ws_get hk).trans (by rw [hcell])) rfl (gx_in_vp h1) hdg (kk h1 h2)
theorem gx_zald (hx : p.tables.exec = Jvm.exec) (hb : c.code = cc) (hV : gx_V G s) (hw : gx_at G C M o d s.heap H locs) {k n : Nat} {f : Nat → Int32} (hk : k < 70) (hcell : gx_cell G C M o d k = .inl (G.2.2.1 2, n, .inl f)) {i : Int32} (hF : gx_ck (gx_in i n) X = some out) (hdg : decode cc pc = .ok (.baload, 1))
    (kk : gx_in i n = true → X = some out → W p l e R s m args below meth c H locs cells slots Q (F0 m (pc + 1) ls (.int (f i.toNatClampNeg) :: rest))) : W p l e R s m args below meth c H locs cells slots Q (F0 m pc ls (.int i :: .ref (G.2.1 k) :: rest)) := by
  obtain ⟨h1, h2⟩ := gx_ck_of hF
  exact va_zald hx hb hV.2.1 hw.1 k 2 ((gx_ws_get hk).trans (by rw [hcell])) rfl (gx_in_vp h1) hdg (kk h1 h2)
theorem gx_walls (hx : p.tables.exec = Jvm.exec) (hb : c.code = cc) (hV : gx_V G s) (hw : gx_at G C M o d s.heap H locs) {i : Int32} (hF : gx_ck (gx_in i 8) X = some out) (hdg : decode cc pc = .ok (.aaload, 1))
    (kk : gx_isW (12 + 4 * i.toNatClampNeg) → X = some out → W p l e R s m args below meth c H locs cells slots Q (F0 m (pc + 1) ls (.ref (G.2.1 (12 + 4 * i.toNatClampNeg)) :: rest))) : W p l e R s m args below meth c H locs cells slots Q (F0 m pc ls (.int i :: .ref (G.2.1 47) :: rest)) := by
  obtain ⟨h1, h2⟩ := gx_ck_of hF
  have h3 := gx_in_lt h1
  refine va_aldq hx hb hV.2.1 hw.1 47 3 ((gx_ws_get (by decide)).trans rfl) rfl (gx_in_vp h1) hdg (kk ⟨by omega, by omega⟩ h2)
theorem gx_iast (hx : p.tables.exec = Jvm.exec) (hb : c.code = cc) (hV : gx_V G s) (hw : gx_at G C M o d s.heap H locs) {k n : Nat} {f : Nat → Int32} (hk : k < 70) (hcell : gx_cell G C M o d k = .inl (G.2.2.1 0, n, .inl f)) {i x : Int32} (hnew : (Sum.inl (G.2.2.1 0, n, .inl (upd f i.toNatClampNeg x)) : va_E) = gx_cell G C' M' o' d' k) (hrest : ∀ i, i ≠ k → gx_cell G C' M' o' d' i = gx_cell G C M o d i) (hF : gx_ck (gx_in i n) X = some out) (hdg : decode cc pc = .ok (.iastore, 1))
    (kk : ∀ (H1 : Heap) (locs1 : List Loc), gx_at G C' M' o' d' s.heap H1 locs1 → X = some out → W p l e R s m args below meth c H1 locs1 cells slots Q (F0 m (pc + 1) ls rest)) : W p l e R s m args below meth c H locs cells slots Q (F0 m pc ls (.int x :: .int i :: .ref (G.2.1 k) :: rest)) := by
  obtain ⟨h1, h2⟩ := gx_ck_of hF
  exact va_iast hx hb hV.2.1 hw.1 (hV.2.2.va C M o d) hw.2.1 k 0 ((gx_ws_get hk).trans (by rw [hcell])) rfl (gx_in_vp h1) hdg (fun H1 locs1 hP _ hS => kk H1 locs1 ⟨by rw [gx_ws_set hnew hrest] at hP; exact hP, hS, hw.2.2⟩ h2)
theorem gx_cast (hx : p.tables.exec = Jvm.exec) (hb : c.code = cc) (hV : gx_V G s) (hw : gx_at G C M o d s.heap H locs) {k n : Nat} {f : Nat → Int32} (hk : k < 70) (hcell : gx_cell G C M o d k = .inl (G.2.2.1 1, n, .inl f)) {i x : Int32} (hnew : (Sum.inl (G.2.2.1 1, n, .inl (upd f i.toNatClampNeg (vp_nar .char x))) : va_E) = gx_cell G C' M' o' d' k) (hrest : ∀ i, i ≠ k → gx_cell G C' M' o' d' i = gx_cell G C M o d i) (hF : gx_ck (gx_in i n) X = some out) (hdg : decode cc pc = .ok (.castore, 1))
    (kk : ∀ (H1 : Heap) (locs1 : List Loc), gx_at G C' M' o' d' s.heap H1 locs1 → X = some out → W p l e R s m args below meth c H1 locs1 cells slots Q (F0 m (pc + 1) ls rest)) : W p l e R s m args below meth c H locs cells slots Q (F0 m pc ls (.int x :: .int i :: .ref (G.2.1 k) :: rest)) := by
  obtain ⟨h1, h2⟩ := gx_ck_of hF
  exact va_cast hx hb hV.2.1 hw.1 (hV.2.2.va C M o d) hw.2.1 k 1 ((gx_ws_get hk).trans (by rw [hcell])) rfl (gx_in_vp h1) hdg (fun H1 locs1 hP _ hS => kk H1 locs1 ⟨by rw [gx_ws_set hnew hrest] at hP; exact hP, hS, hw.2.2⟩ h2)
theorem gx_zast (hx : p.tables.exec = Jvm.exec) (hb : c.code = cc) (hV : gx_V G s) (hw : gx_at G C M o d s.heap H locs) {k n : Nat} {f : Nat → Int32} (hk : k < 70) (hcell : gx_cell G C M o d k = .inl (G.2.2.1 2, n, .inl f)) {i x : Int32} (hnew : (Sum.inl (G.2.2.1 2, n, .inl (upd f i.toNatClampNeg (vp_nar .boolean x))) : va_E) = gx_cell G C' M' o' d' k) (hrest : ∀ i, i ≠ k → gx_cell G C' M' o' d' i = gx_cell G C M o d i) (hF : gx_ck (gx_in i n) X = some out) (hdg : decode cc pc = .ok (.bastore, 1))
    (kk : ∀ (H1 : Heap) (locs1 : List Loc), gx_at G C' M' o' d' s.heap H1 locs1 → X = some out → W p l e R s m args below meth c H1 locs1 cells slots Q (F0 m (pc + 1) ls rest)) : W p l e R s m args below meth c H locs cells slots Q (F0 m pc ls (.int x :: .int i :: .ref (G.2.1 k) :: rest)) := by
  obtain ⟨h1, h2⟩ := gx_ck_of hF
  exact va_zast hx hb hV.2.1 hw.1 (hV.2.2.va C M o d) hw.2.1 k 2 ((gx_ws_get hk).trans (by rw [hcell])) rfl (gx_in_vp h1) hdg (fun H1 locs1 hP _ hS => kk H1 locs1 ⟨by rw [gx_ws_set hnew hrest] at hP; exact hP, hS, hw.2.2⟩ h2)
theorem gx_if_eq (hx : p.tables.exec = Jvm.exec) (hb : c.code = cc) {x : Int32} {off : Int} {tgt : Nat} (hF : (if x = 0 then X else Y) = some out) (hdg : decode cc pc = .ok (.ifCond .eq off, 3)) (ht : (pc : Int) + off = (tgt : Int)) (kt : X = some out → W p l e R s m args below meth c H locs cells slots Q (F0 m tgt ls rest)) (kf : Y = some out → W p l e R s m args below meth c H locs cells slots Q (F0 m (pc + 3) ls rest)) : W p l e R s m args below meth c H locs cells slots Q (F0 m pc ls (.int x :: rest)) :=
  lv_if_eq hx hb hdg ht (fun h => kt (by rw [if_pos h] at hF; exact hF)) (fun h => kf (by rw [if_neg h] at hF; exact hF))
theorem gx_if_ne (hx : p.tables.exec = Jvm.exec) (hb : c.code = cc) {x : Int32} {off : Int} {tgt : Nat} (hF : (if x = 0 then Y else X) = some out) (hdg : decode cc pc = .ok (.ifCond .ne off, 3)) (ht : (pc : Int) + off = (tgt : Int)) (kt : X = some out → W p l e R s m args below meth c H locs cells slots Q (F0 m tgt ls rest)) (kf : Y = some out → W p l e R s m args below meth c H locs cells slots Q (F0 m (pc + 3) ls rest)) : W p l e R s m args below meth c H locs cells slots Q (F0 m pc ls (.int x :: rest)) :=
  lv_if_ne hx hb hdg ht (fun h => kt (by rw [if_neg h] at hF; exact hF)) (fun h => kf (by rw [if_pos h] at hF; exact hF))
theorem gx_icmp_eq (hx : p.tables.exec = Jvm.exec) (hb : c.code = cc) {x y : Int32} {off : Int} {tgt : Nat} (hF : (if x = y then X else Y) = some out) (hdg : decode cc pc = .ok (.if_icmp .eq off, 3)) (ht : (pc : Int) + off = (tgt : Int)) (kt : X = some out → W p l e R s m args below meth c H locs cells slots Q (F0 m tgt ls rest)) (kf : Y = some out → W p l e R s m args below meth c H locs cells slots Q (F0 m (pc + 3) ls rest)) : W p l e R s m args below meth c H locs cells slots Q (F0 m pc ls (.int y :: .int x :: rest)) :=
  lv_icmp_eq hx hb hdg ht (fun h => kt (by rw [if_pos h] at hF; exact hF)) (fun h => kf (by rw [if_neg h] at hF; exact hF))
theorem gx_icmp_ne (hx : p.tables.exec = Jvm.exec) (hb : c.code = cc) {x y : Int32} {off : Int} {tgt : Nat} (hF : (if x = y then Y else X) = some out) (hdg : decode cc pc = .ok (.if_icmp .ne off, 3)) (ht : (pc : Int) + off = (tgt : Int)) (kt : X = some out → W p l e R s m args below meth c H locs cells slots Q (F0 m tgt ls rest)) (kf : Y = some out → W p l e R s m args below meth c H locs cells slots Q (F0 m (pc + 3) ls rest)) : W p l e R s m args below meth c H locs cells slots Q (F0 m pc ls (.int y :: .int x :: rest)) :=
  lv_icmp_ne hx hb hdg ht (fun h => kt (by rw [if_neg h] at hF; exact hF)) (fun h => kf (by rw [if_pos h] at hF; exact hF))
theorem gx_if_lt (hx : p.tables.exec = Jvm.exec) (hb : c.code = cc) {x : Int32} {off : Int} {tgt : Nat} (hF : (if x < 0 then X else Y) = some out) (hdg : decode cc pc = .ok (.ifCond .lt off, 3)) (ht : (pc : Int) + off = (tgt : Int)) (kt : X = some out → W p l e R s m args below meth c H locs cells slots Q (F0 m tgt ls rest)) (kf : Y = some out → W p l e R s m args below meth c H locs cells slots Q (F0 m (pc + 3) ls rest)) : W p l e R s m args below meth c H locs cells slots Q (F0 m pc ls (.int x :: rest)) :=
  lv_if_lt hx hb hdg ht (fun h => kt (by rw [if_pos h] at hF; exact hF)) (fun h => kf (by rw [if_neg h] at hF; exact hF))
theorem gx_icmp_lt (hx : p.tables.exec = Jvm.exec) (hb : c.code = cc) {x y : Int32} {off : Int} {tgt : Nat} (hF : (if x < y then X else Y) = some out) (hdg : decode cc pc = .ok (.if_icmp .lt off, 3)) (ht : (pc : Int) + off = (tgt : Int)) (kt : X = some out → W p l e R s m args below meth c H locs cells slots Q (F0 m tgt ls rest)) (kf : Y = some out → W p l e R s m args below meth c H locs cells slots Q (F0 m (pc + 3) ls rest)) : W p l e R s m args below meth c H locs cells slots Q (F0 m pc ls (.int y :: .int x :: rest)) :=
  lv_icmp_lt hx hb hdg ht (fun h => kt (by rw [if_pos h] at hF; exact hF)) (fun h => kf (by rw [if_neg h] at hF; exact hF))
theorem gx_if_ge (hx : p.tables.exec = Jvm.exec) (hb : c.code = cc) {x : Int32} {off : Int} {tgt : Nat} (hF : (if 0 ≤ x then X else Y) = some out) (hdg : decode cc pc = .ok (.ifCond .ge off, 3)) (ht : (pc : Int) + off = (tgt : Int)) (kt : X = some out → W p l e R s m args below meth c H locs cells slots Q (F0 m tgt ls rest)) (kf : Y = some out → W p l e R s m args below meth c H locs cells slots Q (F0 m (pc + 3) ls rest)) : W p l e R s m args below meth c H locs cells slots Q (F0 m pc ls (.int x :: rest)) :=
  lv_if_ge hx hb hdg ht (fun h => kt (by rw [if_pos h] at hF; exact hF)) (fun h => kf (by rw [if_neg h] at hF; exact hF))
theorem gx_icmp_ge (hx : p.tables.exec = Jvm.exec) (hb : c.code = cc) {x y : Int32} {off : Int} {tgt : Nat} (hF : (if y ≤ x then X else Y) = some out) (hdg : decode cc pc = .ok (.if_icmp .ge off, 3)) (ht : (pc : Int) + off = (tgt : Int)) (kt : X = some out → W p l e R s m args below meth c H locs cells slots Q (F0 m tgt ls rest)) (kf : Y = some out → W p l e R s m args below meth c H locs cells slots Q (F0 m (pc + 3) ls rest)) : W p l e R s m args below meth c H locs cells slots Q (F0 m pc ls (.int y :: .int x :: rest)) :=
  lv_icmp_ge hx hb hdg ht (fun h => kt (by rw [if_pos h] at hF; exact hF)) (fun h => kf (by rw [if_neg h] at hF; exact hF))
theorem gx_if_gt (hx : p.tables.exec = Jvm.exec) (hb : c.code = cc) {x : Int32} {off : Int} {tgt : Nat} (hF : (if 0 < x then X else Y) = some out) (hdg : decode cc pc = .ok (.ifCond .gt off, 3)) (ht : (pc : Int) + off = (tgt : Int)) (kt : X = some out → W p l e R s m args below meth c H locs cells slots Q (F0 m tgt ls rest)) (kf : Y = some out → W p l e R s m args below meth c H locs cells slots Q (F0 m (pc + 3) ls rest)) : W p l e R s m args below meth c H locs cells slots Q (F0 m pc ls (.int x :: rest)) :=
  lv_if_gt hx hb hdg ht (fun h => kt (by rw [if_pos h] at hF; exact hF)) (fun h => kf (by rw [if_neg h] at hF; exact hF))
theorem gx_icmp_gt (hx : p.tables.exec = Jvm.exec) (hb : c.code = cc) {x y : Int32} {off : Int} {tgt : Nat} (hF : (if y < x then X else Y) = some out) (hdg : decode cc pc = .ok (.if_icmp .gt off, 3)) (ht : (pc : Int) + off = (tgt : Int)) (kt : X = some out → W p l e R s m args below meth c H locs cells slots Q (F0 m tgt ls rest)) (kf : Y = some out → W p l e R s m args below meth c H locs cells slots Q (F0 m (pc + 3) ls rest)) : W p l e R s m args below meth c H locs cells slots Q (F0 m pc ls (.int y :: .int x :: rest)) :=
  lv_icmp_gt hx hb hdg ht (fun h => kt (by rw [if_pos h] at hF; exact hF)) (fun h => kf (by rw [if_neg h] at hF; exact hF))
theorem gx_if_le (hx : p.tables.exec = Jvm.exec) (hb : c.code = cc) {x : Int32} {off : Int} {tgt : Nat} (hF : (if x ≤ 0 then X else Y) = some out) (hdg : decode cc pc = .ok (.ifCond .le off, 3)) (ht : (pc : Int) + off = (tgt : Int)) (kt : X = some out → W p l e R s m args below meth c H locs cells slots Q (F0 m tgt ls rest)) (kf : Y = some out → W p l e R s m args below meth c H locs cells slots Q (F0 m (pc + 3) ls rest)) : W p l e R s m args below meth c H locs cells slots Q (F0 m pc ls (.int x :: rest)) :=
  lv_if_le hx hb hdg ht (fun h => kt (by rw [if_pos h] at hF; exact hF)) (fun h => kf (by rw [if_neg h] at hF; exact hF))
theorem gx_icmp_le (hx : p.tables.exec = Jvm.exec) (hb : c.code = cc) {x y : Int32} {off : Int} {tgt : Nat} (hF : (if x ≤ y then X else Y) = some out) (hdg : decode cc pc = .ok (.if_icmp .le off, 3)) (ht : (pc : Int) + off = (tgt : Int)) (kt : X = some out → W p l e R s m args below meth c H locs cells slots Q (F0 m tgt ls rest)) (kf : Y = some out → W p l e R s m args below meth c H locs cells slots Q (F0 m (pc + 3) ls rest)) : W p l e R s m args below meth c H locs cells slots Q (F0 m pc ls (.int y :: .int x :: rest)) :=
  lv_icmp_le hx hb hdg ht (fun h => kt (by rw [if_pos h] at hF; exact hF)) (fun h => kf (by rw [if_neg h] at hF; exact hF))
end GXR
end
section
/-! CONTRACTS of methods over the world, how one is begun, called and ended -/
abbrev gx_K (l : Launch) (y : MethodName) (bytes : ByteArray) (maxL : Nat) (ret : Option FieldType) (rm : Room) (av : List Value) (G : gx_G) (C M : gx_S) (o : Int64) (d : UInt64) (Qc : Array Value → State → Outcome → State → Prop) (mc ms : Nat) : Prop := Met l y [.code y bytes maxL ret] rm (va_Pc av (gx_U G C M o d)) Qc mc ms (gx_A G)
def gx_Qi (G : gx_G) (r : Int32) (C M : gx_S) (o : Int64) (d : UInt64) : Array Value → State → Outcome → State → Prop := va_Qi (fun r' (_ : Unit) => r' = r) (fun _ t => gx_H G C M o d t.heap) (gx_A G)
def gx_Qd (G : gx_G) (r : UInt64) (C M : gx_S) (o : Int64) (d : UInt64) : Array Value → State → Outcome → State → Prop := va_Qd (fun r' (_ : Unit) => r' = r) (fun _ t => gx_H G C M o d t.heap) (gx_A G)
def gx_Qf (G : gx_G) (r : UInt32) (C M : gx_S) (o : Int64) (d : UInt64) : Array Value → State → Outcome → State → Prop := va_Qf (fun r' (_ : Unit) => r' = r) (fun _ t => gx_H G C M o d t.heap) (gx_A G)
def gx_Qv (G : gx_G) (C M : gx_S) (o : Int64) (d : UInt64) : Array Value → State → Outcome → State → Prop := va_Qv (fun (_ : Unit) => True) (fun _ t => gx_H G C M o d t.heap) (gx_A G)
theorem gx_bi_0 : gx_bi false = 0 := rfl
theorem gx_bi_1 : gx_bi true = 1 := rfl
theorem gx_bi_eq {b : Bool} : gx_bi b = 0 ↔ b = false := by cases b <;> simp [gx_bi]
theorem gx_narb (b : Bool) : narrow .boolean (.int (gx_bi b)) = .int (gx_bi b) := by cases b <;> rfl
theorem gx_nari (x : Int32) : narrow .int (.int x) = .int x := rfl
theorem gx_hz {x : Int32} (h : gx_boo x = x) : narrow .boolean (.int x) = .int x := by
  have h1 : narrow .boolean (.int x) = .int (gx_boo x) := rfl
  rw [h1, h]
theorem gx_narc (x : Int32) : narrow .char (.int (gx_chr x)) = .int (gx_chr x) := by
  have h1 : ∀ y : Int32, gx_chr y = y.toUInt32.toUInt16.toUInt32.toInt32 := fun _ => rfl
  have h2 : narrow .char (.int (gx_chr x)) = .int ((gx_chr x).toUInt32.toUInt16.toUInt32.toInt32) := rfl
  rw [h2, h1]
  simp
  have h3 : x.toUInt32 % 65536 % 65536 = x.toUInt32 % 65536 := by
    apply UInt32.toNat_inj.mp
    rw [UInt32.toNat_mod, UInt32.toNat_mod]
    exact Nat.mod_mod _ _
  rw [h3]
section GXC
variable {α : Type} {p : Program} {l : Launch} {e : Env} {R : Room} {s : State} {m : MethodId} {args : Array Value} {below : List Frame} {meth : Method} {c : Code} {H : Heap} {locs : List Loc} {cells slots : Nat} {Q : State → Prop}
variable {cc : ByteArray} {pc : Nat} {ls : Array Slot} {rest : List Value} {G : gx_G} {C M C' M' : gx_S} {o o' : Int64} {d d' : UInt64} {own : String} {X Y : Option α} {out : α}
/-- what stands in the tables of a call -/
theorem gx_callB {y : MethodName} {bytes : ByteArray} {maxL mc ms n index : Nat} {ret : Option FieldType} {rm : Room} (hrc : rm.cells = mc) (hrs : rm.slots = ms) (hlink : (Cond.methodLink own index y).before args s = true) (hini : (Cond.initialized y.cls).before args s = true) (hcode : (Cond.code y bytes maxL ret).before args s = true)
    (hd : y.cls ≠ "java/lang/invoke/MethodHandle" ∧ y.cls ≠ "java/lang/invoke/VarHandle" ∧ (parseMethodDescriptor y.desc).map (fun d => d.parameters.length) = some n) (hR : rm.frames + 1 ≤ R.frames ∧ 8 + (maxL + 11) + rm.locals ≤ R.locals) :
    CallB R s args own index y bytes maxL ret [.code y bytes maxL ret] rm mc ms n := by
  refine ⟨hrc, hrs, hR.1, hR.2, fun w hw a' U hW => ?_, List.mem_cons_self, hcode, hini, ⟨hd.1, hd.2.1⟩, fun sig h => ?_, hlink⟩
  · rw [List.mem_singleton.mp hw]
    exact word_at hW (Or.inl (by first | rfl | simp [Cond.onTables, Cond.keeps, Cond.steady])) hcode
  · have h2 := hd.2.2
    rw [h] at h2
    exact (Option.some.inj h2).symm
/-- what stands in the tables of a call of a nest mate's private method -/
theorem gx_callN {y : MethodName} {bytes : ByteArray} {maxL mc ms n index : Nat} {ret : Option FieldType} {rm : Room} {host : String} (hrc : rm.cells = mc) (hrs : rm.slots = ms) (hlink : (Cond.methodLinkNest own index y host).before args s = true) (hini : (Cond.initialized y.cls).before args s = true) (hcode : (Cond.code y bytes maxL ret).before args s = true)
    (hd : y.cls ≠ "java/lang/invoke/MethodHandle" ∧ y.cls ≠ "java/lang/invoke/VarHandle" ∧ (parseMethodDescriptor y.desc).map (fun d => d.parameters.length) = some n) (hR : rm.frames + 1 ≤ R.frames ∧ 8 + (maxL + 11) + rm.locals ≤ R.locals) :
    va_CN R s args own index y host bytes maxL ret [.code y bytes maxL ret] rm mc ms n := by
  refine ⟨⟨hrc, hrs, hR.1, hR.2, fun w hw a' U hW => ?_, List.mem_cons_self⟩, hcode, hini, ⟨hd.1, hd.2.1⟩, fun sig h => ?_, hlink⟩
  · rw [List.mem_singleton.mp hw]
    exact word_at hW (Or.inl (by first | rfl | simp [Cond.onTables, Cond.keeps, Cond.steady])) hcode
  · have h2 := hd.2.2
    rw [h] at h2
    exact (Option.some.inj h2).symm
/-- the receiver is there -/
theorem gx_recv {av : List Value} (hV : gx_V G s) (hw : gx_at G C M o d s.heap H locs) {k ci N : Nat} {Cn : String} {T : u_T} {fs : List Value} (hk : k < 70) (hcell : gx_cell G C M o d k = .inr (ci, fs)) (hcl : vwCl[ci]? = some (Cn, T, N)) : PreV s H Cn (G.2.1 k) (va_Pc (.ref (G.2.1 k) :: av) (gx_U G C M o d)) av := by
  refine ⟨gx_blind, ?_, fun U hU hW => ⟨rfl, gx_go hV hw U hU hW⟩⟩
  have h := hw.1 k _ (gx_ws_get hk)
  rw [hcell] at h
  obtain ⟨r, h1, cell, q1, q2, q3, q4⟩ := h
  have hr : r = (Cn, T, N) := Option.some.inj (h1.symm.trans hcl)
  subst hr
  obtain ⟨hS, hfc, kC, hkC, hkind⟩ := hV.2.1.1 ci _ hcl
  exact ⟨cell, q1, by rw [q3]; rfl, by rw [q2]; exact hfc⟩
theorem gx_pre {av : List Value} (hV : gx_V G s) (hw : gx_at G C M o d s.heap H locs) : PreS s H (va_Pc av (gx_U G C M o d)) av := ⟨gx_blind, fun U hU hW => ⟨rfl, gx_go hV hw U hU hW⟩⟩
theorem gx_back {t : State} {H1 : Heap} {locs1 : List Loc} (hw : gx_at G C M o d s.heap H locs) (ht : t.heap = H1) (hB : gx_H G C' M' o' d' t.heap) (hS : va_S (gx_A G) s.heap H1 locs1) : gx_at G C' M' o' d' s.heap H1 locs1 := ⟨by rw [← ht]; exact hB.1, hS, hw.2.2⟩
theorem gx_runi {a : Array Value} {st0 : List Value} {mc ms : Nat} {r : Int32} (hw : gx_at G C M o d s.heap H locs) (hr : va_Run p l e R s m args below meth c H locs cells slots mc ms (F0 m pc ls st0) rest (gx_Qi G r C' M' o' d' a) (gx_A G))
    (kk : ∀ (H1 : Heap) (locs1 : List Loc), gx_at G C' M' o' d' s.heap H1 locs1 → W p l e R s m args below meth c H1 locs1 (cells + mc) (slots + ms) Q (F0 m (pc + 3) ls (.int r :: rest))) : W p l e R s m args below meth c H locs cells slots Q (F0 m pc ls st0) :=
  va_calli hr hw.2.1 (fun _ _ h => h) (fun _ h => h) (fun r' _ t H1 locs1 ht _ hp hB _ _ hS => by subst hp; exact kk H1 locs1 (gx_back hw ht hB hS))
theorem gx_rund {a : Array Value} {st0 : List Value} {mc ms : Nat} {r : UInt64} (hw : gx_at G C M o d s.heap H locs) (hr : va_Run p l e R s m args below meth c H locs cells slots mc ms (F0 m pc ls st0) rest (gx_Qd G r C' M' o' d' a) (gx_A G))
    (kk : ∀ (H1 : Heap) (locs1 : List Loc), gx_at G C' M' o' d' s.heap H1 locs1 → W p l e R s m args below meth c H1 locs1 (cells + mc) (slots + ms) Q (F0 m (pc + 3) ls (.double r :: rest))) : W p l e R s m args below meth c H locs cells slots Q (F0 m pc ls st0) :=
  va_calld hr hw.2.1 (fun _ _ h => h) (fun _ h => h) (fun r' _ t H1 locs1 ht _ hp hB _ _ hS => by subst hp; exact kk H1 locs1 (gx_back hw ht hB hS))
theorem gx_runf {a : Array Value} {st0 : List Value} {mc ms : Nat} {r : UInt32} (hw : gx_at G C M o d s.heap H locs) (hr : va_Run p l e R s m args below meth c H locs cells slots mc ms (F0 m pc ls st0) rest (gx_Qf G r C' M' o' d' a) (gx_A G))
    (kk : ∀ (H1 : Heap) (locs1 : List Loc), gx_at G C' M' o' d' s.heap H1 locs1 → W p l e R s m args below meth c H1 locs1 (cells + mc) (slots + ms) Q (F0 m (pc + 3) ls (.float r :: rest))) : W p l e R s m args below meth c H locs cells slots Q (F0 m pc ls st0) :=
  va_callf hr hw.2.1 (fun _ _ h => h) (fun _ h => h) (fun r' _ t H1 locs1 ht _ hp hB _ _ hS => by subst hp; exact kk H1 locs1 (gx_back hw ht hB hS))
theorem gx_runv {a : Array Value} {st0 : List Value} {mc ms : Nat} (hw : gx_at G C M o d s.heap H locs) (hr : va_Run p l e R s m args below meth c H locs cells slots mc ms (F0 m pc ls st0) rest (gx_Qv G C' M' o' d' a) (gx_A G))
    (kk : ∀ (H1 : Heap) (locs1 : List Loc), gx_at G C' M' o' d' s.heap H1 locs1 → W p l e R s m args below meth c H1 locs1 (cells + mc) (slots + ms) Q (F0 m (pc + 3) ls rest)) : W p l e R s m args below meth c H locs cells slots Q (F0 m pc ls st0) :=
  va_callv hr hw.2.1 (fun _ _ h => h) (fun _ h => h) (fun _ t H1 locs1 ht _ _ hB _ _ hS => kk H1 locs1 (gx_back hw ht hB hS))
/-- ends -/
theorem gx_iret {r : Int32} (hx : p.tables.exec = Jvm.exec) (hb : c.code = cc) (hr : meth.sig.returnType = some .int) (hlocks : meth.locks = false) (hw : gx_at G C M o d s.heap H locs) (hdg : decode cc pc = .ok (.ireturn, 1)) : W p l e R s m args below meth c H locs cells slots (MQ below (gx_Qi G r C M o d) args s cells slots (gx_A G)) (F0 m pc ls [.int r]) :=
  W.iret hx hb hr (fun t ht _ => ⟨⟨r, (), rfl, rfl, by show gx_H G C M o d t.heap; rw [ht]; exact hw.H⟩, hw.2.1.F ht⟩) hw.2.1.2.2 hdg hlocks
theorem gx_zret {r : Int32} {ty : FieldType} (hx : p.tables.exec = Jvm.exec) (hb : c.code = cc) (hr : meth.sig.returnType = some ty) (hn : narrow ty (.int r) = .int r) (hlocks : meth.locks = false) (hw : gx_at G C M o d s.heap H locs) (hdg : decode cc pc = .ok (.ireturn, 1)) : W p l e R s m args below meth c H locs cells slots (MQ below (gx_Qi G r C M o d) args s cells slots (gx_A G)) (F0 m pc ls [.int r]) :=
  W.zret hx hb hr hn (fun t ht _ => ⟨⟨r, (), rfl, rfl, by show gx_H G C M o d t.heap; rw [ht]; exact hw.H⟩, hw.2.1.F ht⟩) hw.2.1.2.2 hdg hlocks
theorem gx_vret (hx : p.tables.exec = Jvm.exec) (hb : c.code = cc) (hr : meth.sig.returnType = none) (hlocks : meth.locks = false) (hw : gx_at G C M o d s.heap H locs) (hdg : decode cc pc = .ok (.return_, 1)) : W p l e R s m args below meth c H locs cells slots (MQ below (gx_Qv G C M o d) args s cells slots (gx_A G)) (F0 m pc ls []) :=
  W.vret hx hb hr (fun t ht _ => ⟨⟨(), rfl, trivial, by show gx_H G C M o d t.heap; rw [ht]; exact hw.H⟩, hw.2.1.F ht⟩) hw.2.1.2.2 hdg hlocks
end GXC
end
section
/-! ROWS of the fields and rows of the world, printed by program (gen2.py) -/
theorem gx_w0 : gx_isW 0 := ⟨by decide, by decide⟩
theorem gx_w4 : gx_isW 4 := ⟨by decide, by decide⟩
theorem gx_w8 : gx_isW 8 := ⟨by decide, by decide⟩
theorem gx_a59 : gx_isM 59 := by simp [gx_isM]
theorem gx_a60 : gx_isM 60 := by simp [gx_isM]
theorem gx_a61 : gx_isM 61 := by simp [gx_isM]
theorem gx_a62 : gx_isM 62 := by simp [gx_isM]
theorem gx_a63 : gx_isM 63 := by simp [gx_isM]
theorem gx_a64 : gx_isM 64 := by simp [gx_isM]
theorem gx_a67 : gx_isM 67 := by simp [gx_isM]
theorem gc_W {G : gx_G} {C M : gx_S} {o : Int64} {d : UInt64} {k : Nat} (hW : gx_isW k) : gx_cell G C M o d k = .inr (7, [.ref (G.2.1 (k + 1)), .ref (G.2.1 (k + 2)), .ref (G.2.1 (k + 3)), .int (C.1 k 3), .int (C.1 k 4), .int (C.1 k 5), .int (C.1 k 6), .int (C.1 k 7), .int (C.1 k 8)]) := by
  unfold gx_cell
  rw [if_pos hW.1, if_pos hW.2]
theorem gx_Wk {k : Nat} (hW : gx_isW k) : k < 70 := Nat.lt_trans hW.1 (by decide)
theorem gc_w1 {G : gx_G} {C M : gx_S} {o : Int64} {d : UInt64} {k : Nat} (hW : gx_isW k) : gx_cell G C M o d (k + 1) = .inl (G.2.2.1 0, 32, .inl (C.2 (k + 1))) := by
  have h1 : k + 1 < 44 := by have := hW.1; have := hW.2; omega
  have h2 : (k + 1) % 4 = 1 := by have := hW.2; omega
  unfold gx_cell
  rw [if_pos h1, h2]
  rfl
theorem gx_Wk1 {k : Nat} (hW : gx_isW k) : k + 1 < 70 := by have := hW.1; omega
theorem gc_w2 {G : gx_G} {C M : gx_S} {o : Int64} {d : UInt64} {k : Nat} (hW : gx_isW k) : gx_cell G C M o d (k + 2) = .inl (G.2.2.1 0, 7, .inl (C.2 (k + 2))) := by
  have h1 : k + 2 < 44 := by have := hW.1; have := hW.2; omega
  have h2 : (k + 2) % 4 = 2 := by have := hW.2; omega
  unfold gx_cell
  rw [if_pos h1, h2]
  rfl
theorem gx_Wk2 {k : Nat} (hW : gx_isW k) : k + 2 < 70 := by have := hW.1; omega
theorem gc_w3 {G : gx_G} {C M : gx_S} {o : Int64} {d : UInt64} {k : Nat} (hW : gx_isW k) : gx_cell G C M o d (k + 3) = .inl (G.2.2.1 0, 42, .inl (C.2 (k + 3))) := by
  have h1 : k + 3 < 44 := by have := hW.1; have := hW.2; omega
  have h2 : (k + 3) % 4 = 3 := by have := hW.2; omega
  unfold gx_cell
  rw [if_pos h1, h2]
  rfl
theorem gx_Wk3 {k : Nat} (hW : gx_isW k) : k + 3 < 70 := by have := hW.1; omega
theorem gc_M {G : gx_G} {C M : gx_S} {o : Int64} {d : UInt64} {k : Nat} (hM : gx_isM k) : gx_cell G C M o d k = .inl (G.2.2.1 0, gx_mlen k, .inl (M.2 k)) := by
  rcases hM with rfl | rfl | rfl | rfl | rfl | rfl | rfl <;> rfl
theorem gx_Mk {k : Nat} (hM : gx_isM k) : k < 70 := by
  rcases hM with rfl | rfl | rfl | rfl | rfl | rfl | rfl <;> decide
theorem gl_X0 : ∀ w ∈ u_ws RX0 TX0 3, w ∈ lw_tbl ∧ gx_ok w = true := by decide +kernel
theorem gl_X1 : ∀ w ∈ u_ws RX1 TX1 3, w ∈ lw_tbl ∧ gx_ok w = true := by decide +kernel
theorem gl_X2 : ∀ w ∈ u_ws RX2 TX2 3, w ∈ lw_tbl ∧ gx_ok w = true := by decide +kernel
theorem gl_X3 : ∀ w ∈ u_ws RX3 TX3 4, w ∈ lw_tbl ∧ gx_ok w = true := by decide +kernel
theorem gl_X4 : ∀ w ∈ u_ws RX4 TX4 6, w ∈ lw_tbl ∧ gx_ok w = true := by decide +kernel
theorem gl_X5 : ∀ w ∈ u_ws RX5 TX5 9, w ∈ lw_tbl ∧ gx_ok w = true := by decide +kernel
theorem gl_X6 : ∀ w ∈ u_ws RX6 TX6 13, w ∈ lw_tbl ∧ gx_ok w = true := by decide +kernel
theorem gl_X7 : ∀ w ∈ u_ws RX7 TX7 22, w ∈ lw_tbl ∧ gx_ok w = true := by decide +kernel
section GXF
variable {α : Type} {p : Program} {l : Launch} {e : Env} {R : Room} {s : State} {m : MethodId} {args : Array Value} {below : List Frame} {meth : Method} {c : Code} {H : Heap} {locs : List Loc} {cells slots : Nat} {Q : State → Prop}
variable {cc : ByteArray} {pc : Nat} {ls : Array Slot} {rest : List Value} {G : gx_G} {C M : gx_S} {I V : gx_F} {o : Int64} {d : UInt64} {own : String} {X Y : Option α} {out : α}
theorem gg_X0_0 (hx : p.tables.exec = Jvm.exec) (hb : c.code = cc) (hown : s.vm.findClass own = some m.cls) (hV : gx_V G s) (hw : gx_at G (I, V) M o d s.heap H locs) {index : Nat} (hlink : (Cond.fieldLink own index RX0 "reached" "[Z").before args s = true) (hdg : decode cc pc = .ok (.getfield index, 3)) (kk : W p l e R s m args below meth c H locs cells slots Q (F0 m (pc + 3) ls (.ref (G.2.1 49) :: rest))) : W p l e R s m args below meth c H locs cells slots Q (F0 m pc ls (.ref (G.2.1 48) :: rest)) :=
  gx_get (k := 48) hx hb hown hV hw (by decide) rfl rfl gl_X0 0 (by decide) rfl rfl hlink hdg kk
theorem gg_X0_1 (hx : p.tables.exec = Jvm.exec) (hb : c.code = cc) (hown : s.vm.findClass own = some m.cls) (hV : gx_V G s) (hw : gx_at G (I, V) M o d s.heap H locs) {index : Nat} (hlink : (Cond.fieldLink own index RX0 "queue" "[I").before args s = true) (hdg : decode cc pc = .ok (.getfield index, 3)) (kk : W p l e R s m args below meth c H locs cells slots Q (F0 m (pc + 3) ls (.ref (G.2.1 50) :: rest))) : W p l e R s m args below meth c H locs cells slots Q (F0 m pc ls (.ref (G.2.1 48) :: rest)) :=
  gx_get (k := 48) hx hb hown hV hw (by decide) rfl rfl gl_X0 1 (by decide) rfl rfl hlink hdg kk
theorem gg_X0_2 (hx : p.tables.exec = Jvm.exec) (hb : c.code = cc) (hown : s.vm.findClass own = some m.cls) (hV : gx_V G s) (hw : gx_at G (I, V) M o d s.heap H locs) {index : Nat} (hlink : (Cond.fieldLink own index RX0 "queued" "I").before args s = true) (hdg : decode cc pc = .ok (.getfield index, 3)) (kk : W p l e R s m args below meth c H locs cells slots Q (F0 m (pc + 3) ls (.int (I 48 2) :: rest))) : W p l e R s m args below meth c H locs cells slots Q (F0 m pc ls (.ref (G.2.1 48) :: rest)) :=
  gx_get (k := 48) hx hb hown hV hw (by decide) rfl rfl gl_X0 2 (by decide) rfl rfl hlink hdg kk
theorem gp_X0_2 (hx : p.tables.exec = Jvm.exec) (hb : c.code = cc) (hown : s.vm.findClass own = some m.cls) (hV : gx_V G s) (hw : gx_at G (I, V) M o d s.heap H locs) {x : Int32} {index : Nat} (hlink : (Cond.fieldLink own index RX0 "queued" "I").before args s = true) (hdg : decode cc pc = .ok (.putfield index, 3)) (kk : ∀ (H1 : Heap) (locs1 : List Loc), gx_at G (gx_u I 48 2 x, V) M o d s.heap H1 locs1 → W p l e R s m args below meth c H1 locs1 cells slots Q (F0 m (pc + 3) ls rest)) : W p l e R s m args below meth c H locs cells slots Q (F0 m pc ls (.int x :: .ref (G.2.1 48) :: rest)) :=
  gx_put (k := 48) (ty := .int) hx hb hown hV hw (by decide) rfl rfl gl_X0 tyX0 tyX0_ok nmX0 2 (by decide) rfl rfl rfl rfl rfl (by show 2 < 3; decide) (by simp [gx_cell, gx_u]) (fun i hi => gx_c1 hi) hlink hdg kk
theorem gg_X1_0 (hx : p.tables.exec = Jvm.exec) (hb : c.code = cc) (hown : s.vm.findClass own = some m.cls) (hV : gx_V G s) (hw : gx_at G (I, V) M o d s.heap H locs) {index : Nat} (hlink : (Cond.fieldLink own index RX1 "facing" "[I").before args s = true) (hdg : decode cc pc = .ok (.getfield index, 3)) (kk : W p l e R s m args below meth c H locs cells slots Q (F0 m (pc + 3) ls (.ref (G.2.1 52) :: rest))) : W p l e R s m args below meth c H locs cells slots Q (F0 m pc ls (.ref (G.2.1 51) :: rest)) :=
  gx_get (k := 51) hx hb hown hV hw (by decide) rfl rfl gl_X1 0 (by decide) rfl rfl hlink hdg kk
theorem gg_X1_1 (hx : p.tables.exec = Jvm.exec) (hb : c.code = cc) (hown : s.vm.findClass own = some m.cls) (hV : gx_V G s) (hw : gx_at G (I, V) M o d s.heap H locs) {index : Nat} (hlink : (Cond.fieldLink own index RX1 "foundPlace" "I").before args s = true) (hdg : decode cc pc = .ok (.getfield index, 3)) (kk : W p l e R s m args below meth c H locs cells slots Q (F0 m (pc + 3) ls (.int (I 51 1) :: rest))) : W p l e R s m args below meth c H locs cells slots Q (F0 m pc ls (.ref (G.2.1 51) :: rest)) :=
  gx_get (k := 51) hx hb hown hV hw (by decide) rfl rfl gl_X1 1 (by decide) rfl rfl hlink hdg kk
theorem gp_X1_1 (hx : p.tables.exec = Jvm.exec) (hb : c.code = cc) (hown : s.vm.findClass own = some m.cls) (hV : gx_V G s) (hw : gx_at G (I, V) M o d s.heap H locs) {x : Int32} {index : Nat} (hlink : (Cond.fieldLink own index RX1 "foundPlace" "I").before args s = true) (hdg : decode cc pc = .ok (.putfield index, 3)) (kk : ∀ (H1 : Heap) (locs1 : List Loc), gx_at G (gx_u I 51 1 x, V) M o d s.heap H1 locs1 → W p l e R s m args below meth c H1 locs1 cells slots Q (F0 m (pc + 3) ls rest)) : W p l e R s m args below meth c H locs cells slots Q (F0 m pc ls (.int x :: .ref (G.2.1 51) :: rest)) :=
  gx_put (k := 51) (ty := .int) hx hb hown hV hw (by decide) rfl rfl gl_X1 tyX1 tyX1_ok nmX1 1 (by decide) rfl rfl rfl rfl rfl (by show 1 < 3; decide) (by simp [gx_cell, gx_u]) (fun i hi => gx_c1 hi) hlink hdg kk
theorem gg_X1_2 (hx : p.tables.exec = Jvm.exec) (hb : c.code = cc) (hown : s.vm.findClass own = some m.cls) (hV : gx_V G s) (hw : gx_at G (I, V) M o d s.heap H locs) {index : Nat} (hlink : (Cond.fieldLink own index RX1 "foundBrick" "I").before args s = true) (hdg : decode cc pc = .ok (.getfield index, 3)) (kk : W p l e R s m args below meth c H locs cells slots Q (F0 m (pc + 3) ls (.int (I 51 2) :: rest))) : W p l e R s m args below meth c H locs cells slots Q (F0 m pc ls (.ref (G.2.1 51) :: rest)) :=
  gx_get (k := 51) hx hb hown hV hw (by decide) rfl rfl gl_X1 2 (by decide) rfl rfl hlink hdg kk
theorem gp_X1_2 (hx : p.tables.exec = Jvm.exec) (hb : c.code = cc) (hown : s.vm.findClass own = some m.cls) (hV : gx_V G s) (hw : gx_at G (I, V) M o d s.heap H locs) {x : Int32} {index : Nat} (hlink : (Cond.fieldLink own index RX1 "foundBrick" "I").before args s = true) (hdg : decode cc pc = .ok (.putfield index, 3)) (kk : ∀ (H1 : Heap) (locs1 : List Loc), gx_at G (gx_u I 51 2 x, V) M o d s.heap H1 locs1 → W p l e R s m args below meth c H1 locs1 cells slots Q (F0 m (pc + 3) ls rest)) : W p l e R s m args below meth c H locs cells slots Q (F0 m pc ls (.int x :: .ref (G.2.1 51) :: rest)) :=
  gx_put (k := 51) (ty := .int) hx hb hown hV hw (by decide) rfl rfl gl_X1 tyX1 tyX1_ok nmX1 2 (by decide) rfl rfl rfl rfl rfl (by show 2 < 3; decide) (by simp [gx_cell, gx_u]) (fun i hi => gx_c1 hi) hlink hdg kk
theorem gg_X2_0 (hx : p.tables.exec = Jvm.exec) (hb : c.code = cc) (hown : s.vm.findClass own = some m.cls) (hV : gx_V G s) (hw : gx_at G (I, V) M o d s.heap H locs) {index : Nat} (hlink : (Cond.fieldLink own index RX2 "walls" "[LGluedWall$Wall;").before args s = true) (hdg : decode cc pc = .ok (.getfield index, 3)) (kk : W p l e R s m args below meth c H locs cells slots Q (F0 m (pc + 3) ls (.ref (G.2.1 47) :: rest))) : W p l e R s m args below meth c H locs cells slots Q (F0 m pc ls (.ref (G.2.1 46) :: rest)) :=
  gx_get (k := 46) hx hb hown hV hw (by decide) rfl rfl gl_X2 0 (by decide) rfl rfl hlink hdg kk
theorem gg_X2_1 (hx : p.tables.exec = Jvm.exec) (hb : c.code = cc) (hown : s.vm.findClass own = some m.cls) (hV : gx_V G s) (hw : gx_at G (I, V) M o d s.heap H locs) {index : Nat} (hlink : (Cond.fieldLink own index RX2 "next" "I").before args s = true) (hdg : decode cc pc = .ok (.getfield index, 3)) (kk : W p l e R s m args below meth c H locs cells slots Q (F0 m (pc + 3) ls (.int (I 46 1) :: rest))) : W p l e R s m args below meth c H locs cells slots Q (F0 m pc ls (.ref (G.2.1 46) :: rest)) :=
  gx_get (k := 46) hx hb hown hV hw (by decide) rfl rfl gl_X2 1 (by decide) rfl rfl hlink hdg kk
theorem gp_X2_1 (hx : p.tables.exec = Jvm.exec) (hb : c.code = cc) (hown : s.vm.findClass own = some m.cls) (hV : gx_V G s) (hw : gx_at G (I, V) M o d s.heap H locs) {x : Int32} {index : Nat} (hlink : (Cond.fieldLink own index RX2 "next" "I").before args s = true) (hdg : decode cc pc = .ok (.putfield index, 3)) (kk : ∀ (H1 : Heap) (locs1 : List Loc), gx_at G (gx_u I 46 1 x, V) M o d s.heap H1 locs1 → W p l e R s m args below meth c H1 locs1 cells slots Q (F0 m (pc + 3) ls rest)) : W p l e R s m args below meth c H locs cells slots Q (F0 m pc ls (.int x :: .ref (G.2.1 46) :: rest)) :=
  gx_put (k := 46) (ty := .int) hx hb hown hV hw (by decide) rfl rfl gl_X2 tyX2 tyX2_ok nmX2 1 (by decide) rfl rfl rfl rfl rfl (by show 1 < 3; decide) (by simp [gx_cell, gx_u]) (fun i hi => gx_c1 hi) hlink hdg kk
theorem gg_X2_2 (hx : p.tables.exec = Jvm.exec) (hb : c.code = cc) (hown : s.vm.findClass own = some m.cls) (hV : gx_V G s) (hw : gx_at G (I, V) M o d s.heap H locs) {index : Nat} (hlink : (Cond.fieldLink own index RX2 "count" "I").before args s = true) (hdg : decode cc pc = .ok (.getfield index, 3)) (kk : W p l e R s m args below meth c H locs cells slots Q (F0 m (pc + 3) ls (.int (I 46 2) :: rest))) : W p l e R s m args below meth c H locs cells slots Q (F0 m pc ls (.ref (G.2.1 46) :: rest)) :=
  gx_get (k := 46) hx hb hown hV hw (by decide) rfl rfl gl_X2 2 (by decide) rfl rfl hlink hdg kk
theorem gp_X2_2 (hx : p.tables.exec = Jvm.exec) (hb : c.code = cc) (hown : s.vm.findClass own = some m.cls) (hV : gx_V G s) (hw : gx_at G (I, V) M o d s.heap H locs) {x : Int32} {index : Nat} (hlink : (Cond.fieldLink own index RX2 "count" "I").before args s = true) (hdg : decode cc pc = .ok (.putfield index, 3)) (kk : ∀ (H1 : Heap) (locs1 : List Loc), gx_at G (gx_u I 46 2 x, V) M o d s.heap H1 locs1 → W p l e R s m args below meth c H1 locs1 cells slots Q (F0 m (pc + 3) ls rest)) : W p l e R s m args below meth c H locs cells slots Q (F0 m pc ls (.int x :: .ref (G.2.1 46) :: rest)) :=
  gx_put (k := 46) (ty := .int) hx hb hown hV hw (by decide) rfl rfl gl_X2 tyX2 tyX2_ok nmX2 2 (by decide) rfl rfl rfl rfl rfl (by show 2 < 3; decide) (by simp [gx_cell, gx_u]) (fun i hi => gx_c1 hi) hlink hdg kk
theorem gg_X3_0 (hx : p.tables.exec = Jvm.exec) (hb : c.code = cc) (hown : s.vm.findClass own = some m.cls) (hV : gx_V G s) (hw : gx_at G (I, V) M o d s.heap H locs) {index : Nat} (hlink : (Cond.fieldLink own index RX3 "footing" "LGluedWall$Footing;").before args s = true) (hdg : decode cc pc = .ok (.getfield index, 3)) (kk : W p l e R s m args below meth c H locs cells slots Q (F0 m (pc + 3) ls (.ref (G.2.1 48) :: rest))) : W p l e R s m args below meth c H locs cells slots Q (F0 m pc ls (.ref (G.2.1 53) :: rest)) :=
  gx_get (k := 53) hx hb hown hV hw (by decide) rfl rfl gl_X3 0 (by decide) rfl rfl hlink hdg kk
theorem gg_X3_1 (hx : p.tables.exec = Jvm.exec) (hb : c.code = cc) (hown : s.vm.findClass own = some m.cls) (hV : gx_V G s) (hw : gx_at G (I, V) M o d s.heap H locs) {index : Nat} (hlink : (Cond.fieldLink own index RX3 "growth" "LGluedWall$Growth;").before args s = true) (hdg : decode cc pc = .ok (.getfield index, 3)) (kk : W p l e R s m args below meth c H locs cells slots Q (F0 m (pc + 3) ls (.ref (G.2.1 51) :: rest))) : W p l e R s m args below meth c H locs cells slots Q (F0 m pc ls (.ref (G.2.1 53) :: rest)) :=
  gx_get (k := 53) hx hb hown hV hw (by decide) rfl rfl gl_X3 1 (by decide) rfl rfl hlink hdg kk
theorem gg_X3_2 (hx : p.tables.exec = Jvm.exec) (hb : c.code = cc) (hown : s.vm.findClass own = some m.cls) (hV : gx_V G s) (hw : gx_at G (I, V) M o d s.heap H locs) {index : Nat} (hlink : (Cond.fieldLink own index RX3 "refusedFor" "I").before args s = true) (hdg : decode cc pc = .ok (.getfield index, 3)) (kk : W p l e R s m args below meth c H locs cells slots Q (F0 m (pc + 3) ls (.int (I 53 2) :: rest))) : W p l e R s m args below meth c H locs cells slots Q (F0 m pc ls (.ref (G.2.1 53) :: rest)) :=
  gx_get (k := 53) hx hb hown hV hw (by decide) rfl rfl gl_X3 2 (by decide) rfl rfl hlink hdg kk
theorem gp_X3_2 (hx : p.tables.exec = Jvm.exec) (hb : c.code = cc) (hown : s.vm.findClass own = some m.cls) (hV : gx_V G s) (hw : gx_at G (I, V) M o d s.heap H locs) {x : Int32} {index : Nat} (hlink : (Cond.fieldLink own index RX3 "refusedFor" "I").before args s = true) (hdg : decode cc pc = .ok (.putfield index, 3)) (kk : ∀ (H1 : Heap) (locs1 : List Loc), gx_at G (gx_u I 53 2 x, V) M o d s.heap H1 locs1 → W p l e R s m args below meth c H1 locs1 cells slots Q (F0 m (pc + 3) ls rest)) : W p l e R s m args below meth c H locs cells slots Q (F0 m pc ls (.int x :: .ref (G.2.1 53) :: rest)) :=
  gx_put (k := 53) (ty := .int) hx hb hown hV hw (by decide) rfl rfl gl_X3 tyX3 tyX3_ok nmX3 2 (by decide) rfl rfl rfl rfl rfl (by show 2 < 4; decide) (by simp [gx_cell, gx_u]) (fun i hi => gx_c1 hi) hlink hdg kk
theorem gg_X3_3 (hx : p.tables.exec = Jvm.exec) (hb : c.code = cc) (hown : s.vm.findClass own = some m.cls) (hV : gx_V G s) (hw : gx_at G (I, V) M o d s.heap H locs) {index : Nat} (hlink : (Cond.fieldLink own index RX3 "refusedDetail" "I").before args s = true) (hdg : decode cc pc = .ok (.getfield index, 3)) (kk : W p l e R s m args below meth c H locs cells slots Q (F0 m (pc + 3) ls (.int (I 53 3) :: rest))) : W p l e R s m args below meth c H locs cells slots Q (F0 m pc ls (.ref (G.2.1 53) :: rest)) :=
  gx_get (k := 53) hx hb hown hV hw (by decide) rfl rfl gl_X3 3 (by decide) rfl rfl hlink hdg kk
theorem gp_X3_3 (hx : p.tables.exec = Jvm.exec) (hb : c.code = cc) (hown : s.vm.findClass own = some m.cls) (hV : gx_V G s) (hw : gx_at G (I, V) M o d s.heap H locs) {x : Int32} {index : Nat} (hlink : (Cond.fieldLink own index RX3 "refusedDetail" "I").before args s = true) (hdg : decode cc pc = .ok (.putfield index, 3)) (kk : ∀ (H1 : Heap) (locs1 : List Loc), gx_at G (gx_u I 53 3 x, V) M o d s.heap H1 locs1 → W p l e R s m args below meth c H1 locs1 cells slots Q (F0 m (pc + 3) ls rest)) : W p l e R s m args below meth c H locs cells slots Q (F0 m pc ls (.int x :: .ref (G.2.1 53) :: rest)) :=
  gx_put (k := 53) (ty := .int) hx hb hown hV hw (by decide) rfl rfl gl_X3 tyX3 tyX3_ok nmX3 3 (by decide) rfl rfl rfl rfl rfl (by show 3 < 4; decide) (by simp [gx_cell, gx_u]) (fun i hi => gx_c1 hi) hlink hdg kk
theorem gg_X4_0 (hx : p.tables.exec = Jvm.exec) (hb : c.code = cc) (hown : s.vm.findClass own = some m.cls) (hV : gx_V G s) (hw : gx_at G (I, V) M o d s.heap H locs) {index : Nat} (hlink : (Cond.fieldLink own index RX4 "signs" "[C").before args s = true) (hdg : decode cc pc = .ok (.getfield index, 3)) (kk : W p l e R s m args below meth c H locs cells slots Q (F0 m (pc + 3) ls (.ref (G.2.1 55) :: rest))) : W p l e R s m args below meth c H locs cells slots Q (F0 m pc ls (.ref (G.2.1 54) :: rest)) :=
  gx_get (k := 54) hx hb hown hV hw (by decide) rfl rfl gl_X4 0 (by decide) rfl rfl hlink hdg kk
theorem gg_X4_1 (hx : p.tables.exec = Jvm.exec) (hb : c.code = cc) (hown : s.vm.findClass own = some m.cls) (hV : gx_V G s) (hw : gx_at G (I, V) M o d s.heap H locs) {index : Nat} (hlink : (Cond.fieldLink own index RX4 "deeds" "[C").before args s = true) (hdg : decode cc pc = .ok (.getfield index, 3)) (kk : W p l e R s m args below meth c H locs cells slots Q (F0 m (pc + 3) ls (.ref (G.2.1 56) :: rest))) : W p l e R s m args below meth c H locs cells slots Q (F0 m pc ls (.ref (G.2.1 54) :: rest)) :=
  gx_get (k := 54) hx hb hown hV hw (by decide) rfl rfl gl_X4 1 (by decide) rfl rfl hlink hdg kk
theorem gg_X4_2 (hx : p.tables.exec = Jvm.exec) (hb : c.code = cc) (hown : s.vm.findClass own = some m.cls) (hV : gx_V G s) (hw : gx_at G (I, V) M o d s.heap H locs) {index : Nat} (hlink : (Cond.fieldLink own index RX4 "numbers" "[I").before args s = true) (hdg : decode cc pc = .ok (.getfield index, 3)) (kk : W p l e R s m args below meth c H locs cells slots Q (F0 m (pc + 3) ls (.ref (G.2.1 57) :: rest))) : W p l e R s m args below meth c H locs cells slots Q (F0 m pc ls (.ref (G.2.1 54) :: rest)) :=
  gx_get (k := 54) hx hb hown hV hw (by decide) rfl rfl gl_X4 2 (by decide) rfl rfl hlink hdg kk
theorem gg_X4_3 (hx : p.tables.exec = Jvm.exec) (hb : c.code = cc) (hown : s.vm.findClass own = some m.cls) (hV : gx_V G s) (hw : gx_at G (I, V) M o d s.heap H locs) {index : Nat} (hlink : (Cond.fieldLink own index RX4 "at" "I").before args s = true) (hdg : decode cc pc = .ok (.getfield index, 3)) (kk : W p l e R s m args below meth c H locs cells slots Q (F0 m (pc + 3) ls (.int (I 54 3) :: rest))) : W p l e R s m args below meth c H locs cells slots Q (F0 m pc ls (.ref (G.2.1 54) :: rest)) :=
  gx_get (k := 54) hx hb hown hV hw (by decide) rfl rfl gl_X4 3 (by decide) rfl rfl hlink hdg kk
theorem gp_X4_3 (hx : p.tables.exec = Jvm.exec) (hb : c.code = cc) (hown : s.vm.findClass own = some m.cls) (hV : gx_V G s) (hw : gx_at G (I, V) M o d s.heap H locs) {x : Int32} {index : Nat} (hlink : (Cond.fieldLink own index RX4 "at" "I").before args s = true) (hdg : decode cc pc = .ok (.putfield index, 3)) (kk : ∀ (H1 : Heap) (locs1 : List Loc), gx_at G (gx_u I 54 3 x, V) M o d s.heap H1 locs1 → W p l e R s m args below meth c H1 locs1 cells slots Q (F0 m (pc + 3) ls rest)) : W p l e R s m args below meth c H locs cells slots Q (F0 m pc ls (.int x :: .ref (G.2.1 54) :: rest)) :=
  gx_put (k := 54) (ty := .int) hx hb hown hV hw (by decide) rfl rfl gl_X4 tyX4 tyX4_ok nmX4 3 (by decide) rfl rfl rfl rfl rfl (by show 3 < 6; decide) (by simp [gx_cell, gx_u]) (fun i hi => gx_c1 hi) hlink hdg kk
theorem gg_X4_4 (hx : p.tables.exec = Jvm.exec) (hb : c.code = cc) (hown : s.vm.findClass own = some m.cls) (hV : gx_V G s) (hw : gx_at G (I, V) M o d s.heap H locs) {index : Nat} (hlink : (Cond.fieldLink own index RX4 "length" "I").before args s = true) (hdg : decode cc pc = .ok (.getfield index, 3)) (kk : W p l e R s m args below meth c H locs cells slots Q (F0 m (pc + 3) ls (.int (I 54 4) :: rest))) : W p l e R s m args below meth c H locs cells slots Q (F0 m pc ls (.ref (G.2.1 54) :: rest)) :=
  gx_get (k := 54) hx hb hown hV hw (by decide) rfl rfl gl_X4 4 (by decide) rfl rfl hlink hdg kk
theorem gp_X4_4 (hx : p.tables.exec = Jvm.exec) (hb : c.code = cc) (hown : s.vm.findClass own = some m.cls) (hV : gx_V G s) (hw : gx_at G (I, V) M o d s.heap H locs) {x : Int32} {index : Nat} (hlink : (Cond.fieldLink own index RX4 "length" "I").before args s = true) (hdg : decode cc pc = .ok (.putfield index, 3)) (kk : ∀ (H1 : Heap) (locs1 : List Loc), gx_at G (gx_u I 54 4 x, V) M o d s.heap H1 locs1 → W p l e R s m args below meth c H1 locs1 cells slots Q (F0 m (pc + 3) ls rest)) : W p l e R s m args below meth c H locs cells slots Q (F0 m pc ls (.int x :: .ref (G.2.1 54) :: rest)) :=
  gx_put (k := 54) (ty := .int) hx hb hown hV hw (by decide) rfl rfl gl_X4 tyX4 tyX4_ok nmX4 4 (by decide) rfl rfl rfl rfl rfl (by show 4 < 6; decide) (by simp [gx_cell, gx_u]) (fun i hi => gx_c1 hi) hlink hdg kk
theorem gg_X4_5 (hx : p.tables.exec = Jvm.exec) (hb : c.code = cc) (hown : s.vm.findClass own = some m.cls) (hV : gx_V G s) (hw : gx_at G (I, V) M o d s.heap H locs) {index : Nat} (hlink : (Cond.fieldLink own index RX4 "commandCount" "I").before args s = true) (hdg : decode cc pc = .ok (.getfield index, 3)) (kk : W p l e R s m args below meth c H locs cells slots Q (F0 m (pc + 3) ls (.int (I 54 5) :: rest))) : W p l e R s m args below meth c H locs cells slots Q (F0 m pc ls (.ref (G.2.1 54) :: rest)) :=
  gx_get (k := 54) hx hb hown hV hw (by decide) rfl rfl gl_X4 5 (by decide) rfl rfl hlink hdg kk
theorem gp_X4_5 (hx : p.tables.exec = Jvm.exec) (hb : c.code = cc) (hown : s.vm.findClass own = some m.cls) (hV : gx_V G s) (hw : gx_at G (I, V) M o d s.heap H locs) {x : Int32} {index : Nat} (hlink : (Cond.fieldLink own index RX4 "commandCount" "I").before args s = true) (hdg : decode cc pc = .ok (.putfield index, 3)) (kk : ∀ (H1 : Heap) (locs1 : List Loc), gx_at G (gx_u I 54 5 x, V) M o d s.heap H1 locs1 → W p l e R s m args below meth c H1 locs1 cells slots Q (F0 m (pc + 3) ls rest)) : W p l e R s m args below meth c H locs cells slots Q (F0 m pc ls (.int x :: .ref (G.2.1 54) :: rest)) :=
  gx_put (k := 54) (ty := .int) hx hb hown hV hw (by decide) rfl rfl gl_X4 tyX4 tyX4_ok nmX4 5 (by decide) rfl rfl rfl rfl rfl (by show 5 < 6; decide) (by simp [gx_cell, gx_u]) (fun i hi => gx_c1 hi) hlink hdg kk
theorem gg_X5_0 (hx : p.tables.exec = Jvm.exec) (hb : c.code = cc) (hown : s.vm.findClass own = some m.cls) (hV : gx_V G s) (hw : gx_at G (I, V) M o d s.heap H locs) {k : Nat} (hW : gx_isW k) {index : Nat} (hlink : (Cond.fieldLink own index RX5 "glues" "[I").before args s = true) (hdg : decode cc pc = .ok (.getfield index, 3)) (kk : W p l e R s m args below meth c H locs cells slots Q (F0 m (pc + 3) ls (.ref (G.2.1 (k + 1)) :: rest))) : W p l e R s m args below meth c H locs cells slots Q (F0 m pc ls (.ref (G.2.1 k) :: rest)) :=
  gx_get (k := k) hx hb hown hV hw (gx_Wk hW) (gc_W hW) rfl gl_X5 0 (by decide) rfl rfl hlink hdg kk
theorem gg_X5_1 (hx : p.tables.exec = Jvm.exec) (hb : c.code = cc) (hown : s.vm.findClass own = some m.cls) (hV : gx_V G s) (hw : gx_at G (I, V) M o d s.heap H locs) {k : Nat} (hW : gx_isW k) {index : Nat} (hlink : (Cond.fieldLink own index RX5 "strengths" "[I").before args s = true) (hdg : decode cc pc = .ok (.getfield index, 3)) (kk : W p l e R s m args below meth c H locs cells slots Q (F0 m (pc + 3) ls (.ref (G.2.1 (k + 2)) :: rest))) : W p l e R s m args below meth c H locs cells slots Q (F0 m pc ls (.ref (G.2.1 k) :: rest)) :=
  gx_get (k := k) hx hb hown hV hw (gx_Wk hW) (gc_W hW) rfl gl_X5 1 (by decide) rfl rfl hlink hdg kk
theorem gg_X5_2 (hx : p.tables.exec = Jvm.exec) (hb : c.code = cc) (hown : s.vm.findClass own = some m.cls) (hV : gx_V G s) (hw : gx_at G (I, V) M o d s.heap H locs) {k : Nat} (hW : gx_isW k) {index : Nat} (hlink : (Cond.fieldLink own index RX5 "bricks" "[I").before args s = true) (hdg : decode cc pc = .ok (.getfield index, 3)) (kk : W p l e R s m args below meth c H locs cells slots Q (F0 m (pc + 3) ls (.ref (G.2.1 (k + 3)) :: rest))) : W p l e R s m args below meth c H locs cells slots Q (F0 m pc ls (.ref (G.2.1 k) :: rest)) :=
  gx_get (k := k) hx hb hown hV hw (gx_Wk hW) (gc_W hW) rfl gl_X5 2 (by decide) rfl rfl hlink hdg kk
theorem gg_X5_3 (hx : p.tables.exec = Jvm.exec) (hb : c.code = cc) (hown : s.vm.findClass own = some m.cls) (hV : gx_V G s) (hw : gx_at G (I, V) M o d s.heap H locs) {k : Nat} (hW : gx_isW k) {index : Nat} (hlink : (Cond.fieldLink own index RX5 "kindCount" "I").before args s = true) (hdg : decode cc pc = .ok (.getfield index, 3)) (kk : W p l e R s m args below meth c H locs cells slots Q (F0 m (pc + 3) ls (.int (I k 3) :: rest))) : W p l e R s m args below meth c H locs cells slots Q (F0 m pc ls (.ref (G.2.1 k) :: rest)) :=
  gx_get (k := k) hx hb hown hV hw (gx_Wk hW) (gc_W hW) rfl gl_X5 3 (by decide) rfl rfl hlink hdg kk
theorem gp_X5_3 (hx : p.tables.exec = Jvm.exec) (hb : c.code = cc) (hown : s.vm.findClass own = some m.cls) (hV : gx_V G s) (hw : gx_at G (I, V) M o d s.heap H locs) {k : Nat} (hW : gx_isW k) {x : Int32} {index : Nat} (hlink : (Cond.fieldLink own index RX5 "kindCount" "I").before args s = true) (hdg : decode cc pc = .ok (.putfield index, 3)) (kk : ∀ (H1 : Heap) (locs1 : List Loc), gx_at G (gx_u I k 3 x, V) M o d s.heap H1 locs1 → W p l e R s m args below meth c H1 locs1 cells slots Q (F0 m (pc + 3) ls rest)) : W p l e R s m args below meth c H locs cells slots Q (F0 m pc ls (.int x :: .ref (G.2.1 k) :: rest)) :=
  gx_put (k := k) (ty := .int) hx hb hown hV hw (gx_Wk hW) (gc_W hW) rfl gl_X5 tyX5 tyX5_ok nmX5 3 (by decide) rfl rfl rfl rfl rfl (by show 3 < 9; decide) (by rw [gc_W hW]; simp [gx_u]) (fun i hi => gx_c1 hi) hlink hdg kk
theorem gg_X5_4 (hx : p.tables.exec = Jvm.exec) (hb : c.code = cc) (hown : s.vm.findClass own = some m.cls) (hV : gx_V G s) (hw : gx_at G (I, V) M o d s.heap H locs) {k : Nat} (hW : gx_isW k) {index : Nat} (hlink : (Cond.fieldLink own index RX5 "needed" "I").before args s = true) (hdg : decode cc pc = .ok (.getfield index, 3)) (kk : W p l e R s m args below meth c H locs cells slots Q (F0 m (pc + 3) ls (.int (I k 4) :: rest))) : W p l e R s m args below meth c H locs cells slots Q (F0 m pc ls (.ref (G.2.1 k) :: rest)) :=
  gx_get (k := k) hx hb hown hV hw (gx_Wk hW) (gc_W hW) rfl gl_X5 4 (by decide) rfl rfl hlink hdg kk
theorem gp_X5_4 (hx : p.tables.exec = Jvm.exec) (hb : c.code = cc) (hown : s.vm.findClass own = some m.cls) (hV : gx_V G s) (hw : gx_at G (I, V) M o d s.heap H locs) {k : Nat} (hW : gx_isW k) {x : Int32} {index : Nat} (hlink : (Cond.fieldLink own index RX5 "needed" "I").before args s = true) (hdg : decode cc pc = .ok (.putfield index, 3)) (kk : ∀ (H1 : Heap) (locs1 : List Loc), gx_at G (gx_u I k 4 x, V) M o d s.heap H1 locs1 → W p l e R s m args below meth c H1 locs1 cells slots Q (F0 m (pc + 3) ls rest)) : W p l e R s m args below meth c H locs cells slots Q (F0 m pc ls (.int x :: .ref (G.2.1 k) :: rest)) :=
  gx_put (k := k) (ty := .int) hx hb hown hV hw (gx_Wk hW) (gc_W hW) rfl gl_X5 tyX5 tyX5_ok nmX5 4 (by decide) rfl rfl rfl rfl rfl (by show 4 < 9; decide) (by rw [gc_W hW]; simp [gx_u]) (fun i hi => gx_c1 hi) hlink hdg kk
theorem gg_X5_5 (hx : p.tables.exec = Jvm.exec) (hb : c.code = cc) (hown : s.vm.findClass own = some m.cls) (hV : gx_V G s) (hw : gx_at G (I, V) M o d s.heap H locs) {k : Nat} (hW : gx_isW k) {index : Nat} (hlink : (Cond.fieldLink own index RX5 "seedPlace" "I").before args s = true) (hdg : decode cc pc = .ok (.getfield index, 3)) (kk : W p l e R s m args below meth c H locs cells slots Q (F0 m (pc + 3) ls (.int (I k 5) :: rest))) : W p l e R s m args below meth c H locs cells slots Q (F0 m pc ls (.ref (G.2.1 k) :: rest)) :=
  gx_get (k := k) hx hb hown hV hw (gx_Wk hW) (gc_W hW) rfl gl_X5 5 (by decide) rfl rfl hlink hdg kk
theorem gp_X5_5 (hx : p.tables.exec = Jvm.exec) (hb : c.code = cc) (hown : s.vm.findClass own = some m.cls) (hV : gx_V G s) (hw : gx_at G (I, V) M o d s.heap H locs) {k : Nat} (hW : gx_isW k) {x : Int32} {index : Nat} (hlink : (Cond.fieldLink own index RX5 "seedPlace" "I").before args s = true) (hdg : decode cc pc = .ok (.putfield index, 3)) (kk : ∀ (H1 : Heap) (locs1 : List Loc), gx_at G (gx_u I k 5 x, V) M o d s.heap H1 locs1 → W p l e R s m args below meth c H1 locs1 cells slots Q (F0 m (pc + 3) ls rest)) : W p l e R s m args below meth c H locs cells slots Q (F0 m pc ls (.int x :: .ref (G.2.1 k) :: rest)) :=
  gx_put (k := k) (ty := .int) hx hb hown hV hw (gx_Wk hW) (gc_W hW) rfl gl_X5 tyX5 tyX5_ok nmX5 5 (by decide) rfl rfl rfl rfl rfl (by show 5 < 9; decide) (by rw [gc_W hW]; simp [gx_u]) (fun i hi => gx_c1 hi) hlink hdg kk
theorem gg_X5_6 (hx : p.tables.exec = Jvm.exec) (hb : c.code = cc) (hown : s.vm.findClass own = some m.cls) (hV : gx_V G s) (hw : gx_at G (I, V) M o d s.heap H locs) {k : Nat} (hW : gx_isW k) {index : Nat} (hlink : (Cond.fieldLink own index RX5 "laidSoFar" "I").before args s = true) (hdg : decode cc pc = .ok (.getfield index, 3)) (kk : W p l e R s m args below meth c H locs cells slots Q (F0 m (pc + 3) ls (.int (I k 6) :: rest))) : W p l e R s m args below meth c H locs cells slots Q (F0 m pc ls (.ref (G.2.1 k) :: rest)) :=
  gx_get (k := k) hx hb hown hV hw (gx_Wk hW) (gc_W hW) rfl gl_X5 6 (by decide) rfl rfl hlink hdg kk
theorem gp_X5_6 (hx : p.tables.exec = Jvm.exec) (hb : c.code = cc) (hown : s.vm.findClass own = some m.cls) (hV : gx_V G s) (hw : gx_at G (I, V) M o d s.heap H locs) {k : Nat} (hW : gx_isW k) {x : Int32} {index : Nat} (hlink : (Cond.fieldLink own index RX5 "laidSoFar" "I").before args s = true) (hdg : decode cc pc = .ok (.putfield index, 3)) (kk : ∀ (H1 : Heap) (locs1 : List Loc), gx_at G (gx_u I k 6 x, V) M o d s.heap H1 locs1 → W p l e R s m args below meth c H1 locs1 cells slots Q (F0 m (pc + 3) ls rest)) : W p l e R s m args below meth c H locs cells slots Q (F0 m pc ls (.int x :: .ref (G.2.1 k) :: rest)) :=
  gx_put (k := k) (ty := .int) hx hb hown hV hw (gx_Wk hW) (gc_W hW) rfl gl_X5 tyX5 tyX5_ok nmX5 6 (by decide) rfl rfl rfl rfl rfl (by show 6 < 9; decide) (by rw [gc_W hW]; simp [gx_u]) (fun i hi => gx_c1 hi) hlink hdg kk
theorem gg_X5_7 (hx : p.tables.exec = Jvm.exec) (hb : c.code = cc) (hown : s.vm.findClass own = some m.cls) (hV : gx_V G s) (hw : gx_at G (I, V) M o d s.heap H locs) {k : Nat} (hW : gx_isW k) {index : Nat} (hlink : (Cond.fieldLink own index RX5 "grownSoFar" "I").before args s = true) (hdg : decode cc pc = .ok (.getfield index, 3)) (kk : W p l e R s m args below meth c H locs cells slots Q (F0 m (pc + 3) ls (.int (I k 7) :: rest))) : W p l e R s m args below meth c H locs cells slots Q (F0 m pc ls (.ref (G.2.1 k) :: rest)) :=
  gx_get (k := k) hx hb hown hV hw (gx_Wk hW) (gc_W hW) rfl gl_X5 7 (by decide) rfl rfl hlink hdg kk
theorem gp_X5_7 (hx : p.tables.exec = Jvm.exec) (hb : c.code = cc) (hown : s.vm.findClass own = some m.cls) (hV : gx_V G s) (hw : gx_at G (I, V) M o d s.heap H locs) {k : Nat} (hW : gx_isW k) {x : Int32} {index : Nat} (hlink : (Cond.fieldLink own index RX5 "grownSoFar" "I").before args s = true) (hdg : decode cc pc = .ok (.putfield index, 3)) (kk : ∀ (H1 : Heap) (locs1 : List Loc), gx_at G (gx_u I k 7 x, V) M o d s.heap H1 locs1 → W p l e R s m args below meth c H1 locs1 cells slots Q (F0 m (pc + 3) ls rest)) : W p l e R s m args below meth c H locs cells slots Q (F0 m pc ls (.int x :: .ref (G.2.1 k) :: rest)) :=
  gx_put (k := k) (ty := .int) hx hb hown hV hw (gx_Wk hW) (gc_W hW) rfl gl_X5 tyX5 tyX5_ok nmX5 7 (by decide) rfl rfl rfl rfl rfl (by show 7 < 9; decide) (by rw [gc_W hW]; simp [gx_u]) (fun i hi => gx_c1 hi) hlink hdg kk
theorem gg_X5_8 (hx : p.tables.exec = Jvm.exec) (hb : c.code = cc) (hown : s.vm.findClass own = some m.cls) (hV : gx_V G s) (hw : gx_at G (I, V) M o d s.heap H locs) {k : Nat} (hW : gx_isW k) {index : Nat} (hlink : (Cond.fieldLink own index RX5 "takenSoFar" "I").before args s = true) (hdg : decode cc pc = .ok (.getfield index, 3)) (kk : W p l e R s m args below meth c H locs cells slots Q (F0 m (pc + 3) ls (.int (I k 8) :: rest))) : W p l e R s m args below meth c H locs cells slots Q (F0 m pc ls (.ref (G.2.1 k) :: rest)) :=
  gx_get (k := k) hx hb hown hV hw (gx_Wk hW) (gc_W hW) rfl gl_X5 8 (by decide) rfl rfl hlink hdg kk
theorem gp_X5_8 (hx : p.tables.exec = Jvm.exec) (hb : c.code = cc) (hown : s.vm.findClass own = some m.cls) (hV : gx_V G s) (hw : gx_at G (I, V) M o d s.heap H locs) {k : Nat} (hW : gx_isW k) {x : Int32} {index : Nat} (hlink : (Cond.fieldLink own index RX5 "takenSoFar" "I").before args s = true) (hdg : decode cc pc = .ok (.putfield index, 3)) (kk : ∀ (H1 : Heap) (locs1 : List Loc), gx_at G (gx_u I k 8 x, V) M o d s.heap H1 locs1 → W p l e R s m args below meth c H1 locs1 cells slots Q (F0 m (pc + 3) ls rest)) : W p l e R s m args below meth c H locs cells slots Q (F0 m pc ls (.int x :: .ref (G.2.1 k) :: rest)) :=
  gx_put (k := k) (ty := .int) hx hb hown hV hw (gx_Wk hW) (gc_W hW) rfl gl_X5 tyX5 tyX5_ok nmX5 8 (by decide) rfl rfl rfl rfl rfl (by show 8 < 9; decide) (by rw [gc_W hW]; simp [gx_u]) (fun i hi => gx_c1 hi) hlink hdg kk
theorem gg_X6_0 (hx : p.tables.exec = Jvm.exec) (hb : c.code = cc) (hown : s.vm.findClass own = some m.cls) (hV : gx_V G s) (hw : gx_at G (I, V) M o d s.heap H locs) {index : Nat} (hlink : (Cond.fieldLink own index RX6 "wall" "LGluedWall$Wall;").before args s = true) (hdg : decode cc pc = .ok (.getfield index, 3)) (kk : W p l e R s m args below meth c H locs cells slots Q (F0 m (pc + 3) ls (.ref (G.2.1 0) :: rest))) : W p l e R s m args below meth c H locs cells slots Q (F0 m pc ls (.ref (G.2.1 44) :: rest)) :=
  gx_get (k := 44) hx hb hown hV hw (by decide) rfl rfl gl_X6 0 (by decide) rfl rfl hlink hdg kk
theorem gg_X6_1 (hx : p.tables.exec = Jvm.exec) (hb : c.code = cc) (hown : s.vm.findClass own = some m.cls) (hV : gx_V G s) (hw : gx_at G (I, V) M o d s.heap H locs) {index : Nat} (hlink : (Cond.fieldLink own index RX6 "before" "LGluedWall$Wall;").before args s = true) (hdg : decode cc pc = .ok (.getfield index, 3)) (kk : W p l e R s m args below meth c H locs cells slots Q (F0 m (pc + 3) ls (.ref (G.2.1 4) :: rest))) : W p l e R s m args below meth c H locs cells slots Q (F0 m pc ls (.ref (G.2.1 44) :: rest)) :=
  gx_get (k := 44) hx hb hown hV hw (by decide) rfl rfl gl_X6 1 (by decide) rfl rfl hlink hdg kk
theorem gg_X6_2 (hx : p.tables.exec = Jvm.exec) (hb : c.code = cc) (hown : s.vm.findClass own = some m.cls) (hV : gx_V G s) (hw : gx_at G (I, V) M o d s.heap H locs) {index : Nat} (hlink : (Cond.fieldLink own index RX6 "snapshot" "LGluedWall$Wall;").before args s = true) (hdg : decode cc pc = .ok (.getfield index, 3)) (kk : W p l e R s m args below meth c H locs cells slots Q (F0 m (pc + 3) ls (.ref (G.2.1 8) :: rest))) : W p l e R s m args below meth c H locs cells slots Q (F0 m pc ls (.ref (G.2.1 44) :: rest)) :=
  gx_get (k := 44) hx hb hown hV hw (by decide) rfl rfl gl_X6 2 (by decide) rfl rfl hlink hdg kk
theorem gg_X6_3 (hx : p.tables.exec = Jvm.exec) (hb : c.code = cc) (hown : s.vm.findClass own = some m.cls) (hV : gx_V G s) (hw : gx_at G (I, V) M o d s.heap H locs) {index : Nat} (hlink : (Cond.fieldLink own index RX6 "hasSnapshot" "Z").before args s = true) (hdg : decode cc pc = .ok (.getfield index, 3)) (kk : W p l e R s m args below meth c H locs cells slots Q (F0 m (pc + 3) ls (.int (gx_boo (I 44 3)) :: rest))) : W p l e R s m args below meth c H locs cells slots Q (F0 m pc ls (.ref (G.2.1 44) :: rest)) :=
  gx_get (k := 44) hx hb hown hV hw (by decide) rfl rfl gl_X6 3 (by decide) rfl rfl hlink hdg kk
theorem gp_X6_3 (hx : p.tables.exec = Jvm.exec) (hb : c.code = cc) (hown : s.vm.findClass own = some m.cls) (hV : gx_V G s) (hw : gx_at G (I, V) M o d s.heap H locs) {x : Int32} (hz : gx_boo x = x) (hzf : fits .boolean (.int x) = true) {index : Nat} (hlink : (Cond.fieldLink own index RX6 "hasSnapshot" "Z").before args s = true) (hdg : decode cc pc = .ok (.putfield index, 3)) (kk : ∀ (H1 : Heap) (locs1 : List Loc), gx_at G (gx_u I 44 3 x, V) M o d s.heap H1 locs1 → W p l e R s m args below meth c H1 locs1 cells slots Q (F0 m (pc + 3) ls rest)) : W p l e R s m args below meth c H locs cells slots Q (F0 m pc ls (.int x :: .ref (G.2.1 44) :: rest)) :=
  gx_put (k := 44) (ty := .boolean) hx hb hown hV hw (by decide) rfl rfl gl_X6 tyX6 tyX6_ok nmX6 3 (by decide) rfl rfl rfl (gx_hz hz) hzf (by show 3 < 13; decide) (by simp [gx_cell, gx_u, hz]) (fun i hi => gx_c1 hi) hlink hdg kk
theorem gg_X6_4 (hx : p.tables.exec = Jvm.exec) (hb : c.code = cc) (hown : s.vm.findClass own = some m.cls) (hV : gx_V G s) (hw : gx_at G (I, V) M o d s.heap H locs) {index : Nat} (hlink : (Cond.fieldLink own index RX6 "history" "LGluedWall$History;").before args s = true) (hdg : decode cc pc = .ok (.getfield index, 3)) (kk : W p l e R s m args below meth c H locs cells slots Q (F0 m (pc + 3) ls (.ref (G.2.1 46) :: rest))) : W p l e R s m args below meth c H locs cells slots Q (F0 m pc ls (.ref (G.2.1 44) :: rest)) :=
  gx_get (k := 44) hx hb hown hV hw (by decide) rfl rfl gl_X6 4 (by decide) rfl rfl hlink hdg kk
theorem gg_X6_5 (hx : p.tables.exec = Jvm.exec) (hb : c.code = cc) (hown : s.vm.findClass own = some m.cls) (hV : gx_V G s) (hw : gx_at G (I, V) M o d s.heap H locs) {index : Nat} (hlink : (Cond.fieldLink own index RX6 "footing" "LGluedWall$Footing;").before args s = true) (hdg : decode cc pc = .ok (.getfield index, 3)) (kk : W p l e R s m args below meth c H locs cells slots Q (F0 m (pc + 3) ls (.ref (G.2.1 48) :: rest))) : W p l e R s m args below meth c H locs cells slots Q (F0 m pc ls (.ref (G.2.1 44) :: rest)) :=
  gx_get (k := 44) hx hb hown hV hw (by decide) rfl rfl gl_X6 5 (by decide) rfl rfl hlink hdg kk
theorem gg_X6_6 (hx : p.tables.exec = Jvm.exec) (hb : c.code = cc) (hown : s.vm.findClass own = some m.cls) (hV : gx_V G s) (hw : gx_at G (I, V) M o d s.heap H locs) {index : Nat} (hlink : (Cond.fieldLink own index RX6 "growth" "LGluedWall$Growth;").before args s = true) (hdg : decode cc pc = .ok (.getfield index, 3)) (kk : W p l e R s m args below meth c H locs cells slots Q (F0 m (pc + 3) ls (.ref (G.2.1 51) :: rest))) : W p l e R s m args below meth c H locs cells slots Q (F0 m pc ls (.ref (G.2.1 44) :: rest)) :=
  gx_get (k := 44) hx hb hown hV hw (by decide) rfl rfl gl_X6 6 (by decide) rfl rfl hlink hdg kk
theorem gg_X6_7 (hx : p.tables.exec = Jvm.exec) (hb : c.code = cc) (hown : s.vm.findClass own = some m.cls) (hV : gx_V G s) (hw : gx_at G (I, V) M o d s.heap H locs) {index : Nat} (hlink : (Cond.fieldLink own index RX6 "mason" "LGluedWall$Mason;").before args s = true) (hdg : decode cc pc = .ok (.getfield index, 3)) (kk : W p l e R s m args below meth c H locs cells slots Q (F0 m (pc + 3) ls (.ref (G.2.1 53) :: rest))) : W p l e R s m args below meth c H locs cells slots Q (F0 m pc ls (.ref (G.2.1 44) :: rest)) :=
  gx_get (k := 44) hx hb hown hV hw (by decide) rfl rfl gl_X6 7 (by decide) rfl rfl hlink hdg kk
theorem gg_X6_8 (hx : p.tables.exec = Jvm.exec) (hb : c.code = cc) (hown : s.vm.findClass own = some m.cls) (hV : gx_V G s) (hw : gx_at G (I, V) M o d s.heap H locs) {index : Nat} (hlink : (Cond.fieldLink own index RX6 "refusedCommand" "I").before args s = true) (hdg : decode cc pc = .ok (.getfield index, 3)) (kk : W p l e R s m args below meth c H locs cells slots Q (F0 m (pc + 3) ls (.int (I 44 8) :: rest))) : W p l e R s m args below meth c H locs cells slots Q (F0 m pc ls (.ref (G.2.1 44) :: rest)) :=
  gx_get (k := 44) hx hb hown hV hw (by decide) rfl rfl gl_X6 8 (by decide) rfl rfl hlink hdg kk
theorem gp_X6_8 (hx : p.tables.exec = Jvm.exec) (hb : c.code = cc) (hown : s.vm.findClass own = some m.cls) (hV : gx_V G s) (hw : gx_at G (I, V) M o d s.heap H locs) {x : Int32} {index : Nat} (hlink : (Cond.fieldLink own index RX6 "refusedCommand" "I").before args s = true) (hdg : decode cc pc = .ok (.putfield index, 3)) (kk : ∀ (H1 : Heap) (locs1 : List Loc), gx_at G (gx_u I 44 8 x, V) M o d s.heap H1 locs1 → W p l e R s m args below meth c H1 locs1 cells slots Q (F0 m (pc + 3) ls rest)) : W p l e R s m args below meth c H locs cells slots Q (F0 m pc ls (.int x :: .ref (G.2.1 44) :: rest)) :=
  gx_put (k := 44) (ty := .int) hx hb hown hV hw (by decide) rfl rfl gl_X6 tyX6 tyX6_ok nmX6 8 (by decide) rfl rfl rfl rfl rfl (by show 8 < 13; decide) (by simp [gx_cell, gx_u]) (fun i hi => gx_c1 hi) hlink hdg kk
theorem gg_X6_9 (hx : p.tables.exec = Jvm.exec) (hb : c.code = cc) (hown : s.vm.findClass own = some m.cls) (hV : gx_V G s) (hw : gx_at G (I, V) M o d s.heap H locs) {index : Nat} (hlink : (Cond.fieldLink own index RX6 "text" "LGluedWall$Text;").before args s = true) (hdg : decode cc pc = .ok (.getfield index, 3)) (kk : W p l e R s m args below meth c H locs cells slots Q (F0 m (pc + 3) ls (.ref (G.2.1 54) :: rest))) : W p l e R s m args below meth c H locs cells slots Q (F0 m pc ls (.ref (G.2.1 44) :: rest)) :=
  gx_get (k := 44) hx hb hown hV hw (by decide) rfl rfl gl_X6 9 (by decide) rfl rfl hlink hdg kk
theorem gg_X6_10 (hx : p.tables.exec = Jvm.exec) (hb : c.code = cc) (hown : s.vm.findClass own = some m.cls) (hV : gx_V G s) (hw : gx_at G (I, V) M o d s.heap H locs) {index : Nat} (hlink : (Cond.fieldLink own index RX6 "faultIndex" "I").before args s = true) (hdg : decode cc pc = .ok (.getfield index, 3)) (kk : W p l e R s m args below meth c H locs cells slots Q (F0 m (pc + 3) ls (.int (I 44 10) :: rest))) : W p l e R s m args below meth c H locs cells slots Q (F0 m pc ls (.ref (G.2.1 44) :: rest)) :=
  gx_get (k := 44) hx hb hown hV hw (by decide) rfl rfl gl_X6 10 (by decide) rfl rfl hlink hdg kk
theorem gp_X6_10 (hx : p.tables.exec = Jvm.exec) (hb : c.code = cc) (hown : s.vm.findClass own = some m.cls) (hV : gx_V G s) (hw : gx_at G (I, V) M o d s.heap H locs) {x : Int32} {index : Nat} (hlink : (Cond.fieldLink own index RX6 "faultIndex" "I").before args s = true) (hdg : decode cc pc = .ok (.putfield index, 3)) (kk : ∀ (H1 : Heap) (locs1 : List Loc), gx_at G (gx_u I 44 10 x, V) M o d s.heap H1 locs1 → W p l e R s m args below meth c H1 locs1 cells slots Q (F0 m (pc + 3) ls rest)) : W p l e R s m args below meth c H locs cells slots Q (F0 m pc ls (.int x :: .ref (G.2.1 44) :: rest)) :=
  gx_put (k := 44) (ty := .int) hx hb hown hV hw (by decide) rfl rfl gl_X6 tyX6 tyX6_ok nmX6 10 (by decide) rfl rfl rfl rfl rfl (by show 10 < 13; decide) (by simp [gx_cell, gx_u]) (fun i hi => gx_c1 hi) hlink hdg kk
theorem gg_X6_11 (hx : p.tables.exec = Jvm.exec) (hb : c.code = cc) (hown : s.vm.findClass own = some m.cls) (hV : gx_V G s) (hw : gx_at G (I, V) M o d s.heap H locs) {index : Nat} (hlink : (Cond.fieldLink own index RX6 "lineSigns" "[C").before args s = true) (hdg : decode cc pc = .ok (.getfield index, 3)) (kk : W p l e R s m args below meth c H locs cells slots Q (F0 m (pc + 3) ls (.ref (G.2.1 45) :: rest))) : W p l e R s m args below meth c H locs cells slots Q (F0 m pc ls (.ref (G.2.1 44) :: rest)) :=
  gx_get (k := 44) hx hb hown hV hw (by decide) rfl rfl gl_X6 11 (by decide) rfl rfl hlink hdg kk
theorem gg_X6_12 (hx : p.tables.exec = Jvm.exec) (hb : c.code = cc) (hown : s.vm.findClass own = some m.cls) (hV : gx_V G s) (hw : gx_at G (I, V) M o d s.heap H locs) {index : Nat} (hlink : (Cond.fieldLink own index RX6 "lineLength" "I").before args s = true) (hdg : decode cc pc = .ok (.getfield index, 3)) (kk : W p l e R s m args below meth c H locs cells slots Q (F0 m (pc + 3) ls (.int (I 44 12) :: rest))) : W p l e R s m args below meth c H locs cells slots Q (F0 m pc ls (.ref (G.2.1 44) :: rest)) :=
  gx_get (k := 44) hx hb hown hV hw (by decide) rfl rfl gl_X6 12 (by decide) rfl rfl hlink hdg kk
theorem gp_X6_12 (hx : p.tables.exec = Jvm.exec) (hb : c.code = cc) (hown : s.vm.findClass own = some m.cls) (hV : gx_V G s) (hw : gx_at G (I, V) M o d s.heap H locs) {x : Int32} {index : Nat} (hlink : (Cond.fieldLink own index RX6 "lineLength" "I").before args s = true) (hdg : decode cc pc = .ok (.putfield index, 3)) (kk : ∀ (H1 : Heap) (locs1 : List Loc), gx_at G (gx_u I 44 12 x, V) M o d s.heap H1 locs1 → W p l e R s m args below meth c H1 locs1 cells slots Q (F0 m (pc + 3) ls rest)) : W p l e R s m args below meth c H locs cells slots Q (F0 m pc ls (.int x :: .ref (G.2.1 44) :: rest)) :=
  gx_put (k := 44) (ty := .int) hx hb hown hV hw (by decide) rfl rfl gl_X6 tyX6 tyX6_ok nmX6 12 (by decide) rfl rfl rfl rfl rfl (by show 12 < 13; decide) (by simp [gx_cell, gx_u]) (fun i hi => gx_c1 hi) hlink hdg kk
theorem gg_X7_0 (hx : p.tables.exec = Jvm.exec) (hb : c.code = cc) (hown : s.vm.findClass own = some m.cls) (hV : gx_V G s) (hw : gx_at G C (I, V) o d s.heap H locs) {index : Nat} (hlink : (Cond.fieldLink own index RX7 "g" "[I").before args s = true) (hdg : decode cc pc = .ok (.getfield index, 3)) (kk : W p l e R s m args below meth c H locs cells slots Q (F0 m (pc + 3) ls (.ref (G.2.1 59) :: rest))) : W p l e R s m args below meth c H locs cells slots Q (F0 m pc ls (.ref (G.2.1 58) :: rest)) :=
  gx_get (k := 58) hx hb hown hV hw (by decide) rfl rfl gl_X7 0 (by decide) rfl rfl hlink hdg kk
theorem gg_X7_1 (hx : p.tables.exec = Jvm.exec) (hb : c.code = cc) (hown : s.vm.findClass own = some m.cls) (hV : gx_V G s) (hw : gx_at G C (I, V) o d s.heap H locs) {index : Nat} (hlink : (Cond.fieldLink own index RX7 "kept" "[I").before args s = true) (hdg : decode cc pc = .ok (.getfield index, 3)) (kk : W p l e R s m args below meth c H locs cells slots Q (F0 m (pc + 3) ls (.ref (G.2.1 60) :: rest))) : W p l e R s m args below meth c H locs cells slots Q (F0 m pc ls (.ref (G.2.1 58) :: rest)) :=
  gx_get (k := 58) hx hb hown hV hw (by decide) rfl rfl gl_X7 1 (by decide) rfl rfl hlink hdg kk
theorem gg_X7_2 (hx : p.tables.exec = Jvm.exec) (hb : c.code = cc) (hown : s.vm.findClass own = some m.cls) (hV : gx_V G s) (hw : gx_at G C (I, V) o d s.heap H locs) {index : Nat} (hlink : (Cond.fieldLink own index RX7 "saved" "[I").before args s = true) (hdg : decode cc pc = .ok (.getfield index, 3)) (kk : W p l e R s m args below meth c H locs cells slots Q (F0 m (pc + 3) ls (.ref (G.2.1 61) :: rest))) : W p l e R s m args below meth c H locs cells slots Q (F0 m pc ls (.ref (G.2.1 58) :: rest)) :=
  gx_get (k := 58) hx hb hown hV hw (by decide) rfl rfl gl_X7 2 (by decide) rfl rfl hlink hdg kk
theorem gg_X7_3 (hx : p.tables.exec = Jvm.exec) (hb : c.code = cc) (hown : s.vm.findClass own = some m.cls) (hV : gx_V G s) (hw : gx_at G C (I, V) o d s.heap H locs) {index : Nat} (hlink : (Cond.fieldLink own index RX7 "before" "[I").before args s = true) (hdg : decode cc pc = .ok (.getfield index, 3)) (kk : W p l e R s m args below meth c H locs cells slots Q (F0 m (pc + 3) ls (.ref (G.2.1 62) :: rest))) : W p l e R s m args below meth c H locs cells slots Q (F0 m pc ls (.ref (G.2.1 58) :: rest)) :=
  gx_get (k := 58) hx hb hown hV hw (by decide) rfl rfl gl_X7 3 (by decide) rfl rfl hlink hdg kk
theorem gg_X7_4 (hx : p.tables.exec = Jvm.exec) (hb : c.code = cc) (hown : s.vm.findClass own = some m.cls) (hV : gx_V G s) (hw : gx_at G C (I, V) o d s.heap H locs) {index : Nat} (hlink : (Cond.fieldLink own index RX7 "spare" "[I").before args s = true) (hdg : decode cc pc = .ok (.getfield index, 3)) (kk : W p l e R s m args below meth c H locs cells slots Q (F0 m (pc + 3) ls (.ref (G.2.1 63) :: rest))) : W p l e R s m args below meth c H locs cells slots Q (F0 m pc ls (.ref (G.2.1 58) :: rest)) :=
  gx_get (k := 58) hx hb hown hV hw (by decide) rfl rfl gl_X7 4 (by decide) rfl rfl hlink hdg kk
theorem gg_X7_5 (hx : p.tables.exec = Jvm.exec) (hb : c.code = cc) (hown : s.vm.findClass own = some m.cls) (hV : gx_V G s) (hw : gx_at G C (I, V) o d s.heap H locs) {index : Nat} (hlink : (Cond.fieldLink own index RX7 "isSaved" "Z").before args s = true) (hdg : decode cc pc = .ok (.getfield index, 3)) (kk : W p l e R s m args below meth c H locs cells slots Q (F0 m (pc + 3) ls (.int (gx_boo (I 58 5)) :: rest))) : W p l e R s m args below meth c H locs cells slots Q (F0 m pc ls (.ref (G.2.1 58) :: rest)) :=
  gx_get (k := 58) hx hb hown hV hw (by decide) rfl rfl gl_X7 5 (by decide) rfl rfl hlink hdg kk
theorem gp_X7_5 (hx : p.tables.exec = Jvm.exec) (hb : c.code = cc) (hown : s.vm.findClass own = some m.cls) (hV : gx_V G s) (hw : gx_at G C (I, V) o d s.heap H locs) {x : Int32} (hz : gx_boo x = x) (hzf : fits .boolean (.int x) = true) {index : Nat} (hlink : (Cond.fieldLink own index RX7 "isSaved" "Z").before args s = true) (hdg : decode cc pc = .ok (.putfield index, 3)) (kk : ∀ (H1 : Heap) (locs1 : List Loc), gx_at G C (gx_u I 58 5 x, V) o d s.heap H1 locs1 → W p l e R s m args below meth c H1 locs1 cells slots Q (F0 m (pc + 3) ls rest)) : W p l e R s m args below meth c H locs cells slots Q (F0 m pc ls (.int x :: .ref (G.2.1 58) :: rest)) :=
  gx_put (k := 58) (ty := .boolean) hx hb hown hV hw (by decide) rfl rfl gl_X7 tyX7 tyX7_ok nmX7 5 (by decide) rfl rfl rfl (gx_hz hz) hzf (by show 5 < 22; decide) (by simp [gx_cell, gx_u, hz]) (fun i hi => gx_m1 hi) hlink hdg kk
theorem gg_X7_6 (hx : p.tables.exec = Jvm.exec) (hb : c.code = cc) (hown : s.vm.findClass own = some m.cls) (hV : gx_V G s) (hw : gx_at G C (I, V) o d s.heap H locs) {index : Nat} (hlink : (Cond.fieldLink own index RX7 "changes" "I").before args s = true) (hdg : decode cc pc = .ok (.getfield index, 3)) (kk : W p l e R s m args below meth c H locs cells slots Q (F0 m (pc + 3) ls (.int (I 58 6) :: rest))) : W p l e R s m args below meth c H locs cells slots Q (F0 m pc ls (.ref (G.2.1 58) :: rest)) :=
  gx_get (k := 58) hx hb hown hV hw (by decide) rfl rfl gl_X7 6 (by decide) rfl rfl hlink hdg kk
theorem gp_X7_6 (hx : p.tables.exec = Jvm.exec) (hb : c.code = cc) (hown : s.vm.findClass own = some m.cls) (hV : gx_V G s) (hw : gx_at G C (I, V) o d s.heap H locs) {x : Int32} {index : Nat} (hlink : (Cond.fieldLink own index RX7 "changes" "I").before args s = true) (hdg : decode cc pc = .ok (.putfield index, 3)) (kk : ∀ (H1 : Heap) (locs1 : List Loc), gx_at G C (gx_u I 58 6 x, V) o d s.heap H1 locs1 → W p l e R s m args below meth c H1 locs1 cells slots Q (F0 m (pc + 3) ls rest)) : W p l e R s m args below meth c H locs cells slots Q (F0 m pc ls (.int x :: .ref (G.2.1 58) :: rest)) :=
  gx_put (k := 58) (ty := .int) hx hb hown hV hw (by decide) rfl rfl gl_X7 tyX7 tyX7_ok nmX7 6 (by decide) rfl rfl rfl rfl rfl (by show 6 < 22; decide) (by simp [gx_cell, gx_u]) (fun i hi => gx_m1 hi) hlink hdg kk
theorem gg_X7_7 (hx : p.tables.exec = Jvm.exec) (hb : c.code = cc) (hown : s.vm.findClass own = some m.cls) (hV : gx_V G s) (hw : gx_at G C (I, V) o d s.heap H locs) {index : Nat} (hlink : (Cond.fieldLink own index RX7 "isWithin" "Z").before args s = true) (hdg : decode cc pc = .ok (.getfield index, 3)) (kk : W p l e R s m args below meth c H locs cells slots Q (F0 m (pc + 3) ls (.int (gx_boo (I 58 7)) :: rest))) : W p l e R s m args below meth c H locs cells slots Q (F0 m pc ls (.ref (G.2.1 58) :: rest)) :=
  gx_get (k := 58) hx hb hown hV hw (by decide) rfl rfl gl_X7 7 (by decide) rfl rfl hlink hdg kk
theorem gp_X7_7 (hx : p.tables.exec = Jvm.exec) (hb : c.code = cc) (hown : s.vm.findClass own = some m.cls) (hV : gx_V G s) (hw : gx_at G C (I, V) o d s.heap H locs) {x : Int32} (hz : gx_boo x = x) (hzf : fits .boolean (.int x) = true) {index : Nat} (hlink : (Cond.fieldLink own index RX7 "isWithin" "Z").before args s = true) (hdg : decode cc pc = .ok (.putfield index, 3)) (kk : ∀ (H1 : Heap) (locs1 : List Loc), gx_at G C (gx_u I 58 7 x, V) o d s.heap H1 locs1 → W p l e R s m args below meth c H1 locs1 cells slots Q (F0 m (pc + 3) ls rest)) : W p l e R s m args below meth c H locs cells slots Q (F0 m pc ls (.int x :: .ref (G.2.1 58) :: rest)) :=
  gx_put (k := 58) (ty := .boolean) hx hb hown hV hw (by decide) rfl rfl gl_X7 tyX7 tyX7_ok nmX7 7 (by decide) rfl rfl rfl (gx_hz hz) hzf (by show 7 < 22; decide) (by simp [gx_cell, gx_u, hz]) (fun i hi => gx_m1 hi) hlink hdg kk
theorem gg_X7_8 (hx : p.tables.exec = Jvm.exec) (hb : c.code = cc) (hown : s.vm.findClass own = some m.cls) (hV : gx_V G s) (hw : gx_at G C (I, V) o d s.heap H locs) {index : Nat} (hlink : (Cond.fieldLink own index RX7 "done" "I").before args s = true) (hdg : decode cc pc = .ok (.getfield index, 3)) (kk : W p l e R s m args below meth c H locs cells slots Q (F0 m (pc + 3) ls (.int (I 58 8) :: rest))) : W p l e R s m args below meth c H locs cells slots Q (F0 m pc ls (.ref (G.2.1 58) :: rest)) :=
  gx_get (k := 58) hx hb hown hV hw (by decide) rfl rfl gl_X7 8 (by decide) rfl rfl hlink hdg kk
theorem gp_X7_8 (hx : p.tables.exec = Jvm.exec) (hb : c.code = cc) (hown : s.vm.findClass own = some m.cls) (hV : gx_V G s) (hw : gx_at G C (I, V) o d s.heap H locs) {x : Int32} {index : Nat} (hlink : (Cond.fieldLink own index RX7 "done" "I").before args s = true) (hdg : decode cc pc = .ok (.putfield index, 3)) (kk : ∀ (H1 : Heap) (locs1 : List Loc), gx_at G C (gx_u I 58 8 x, V) o d s.heap H1 locs1 → W p l e R s m args below meth c H1 locs1 cells slots Q (F0 m (pc + 3) ls rest)) : W p l e R s m args below meth c H locs cells slots Q (F0 m pc ls (.int x :: .ref (G.2.1 58) :: rest)) :=
  gx_put (k := 58) (ty := .int) hx hb hown hV hw (by decide) rfl rfl gl_X7 tyX7 tyX7_ok nmX7 8 (by decide) rfl rfl rfl rfl rfl (by show 8 < 22; decide) (by simp [gx_cell, gx_u]) (fun i hi => gx_m1 hi) hlink hdg kk
theorem gg_X7_9 (hx : p.tables.exec = Jvm.exec) (hb : c.code = cc) (hown : s.vm.findClass own = some m.cls) (hV : gx_V G s) (hw : gx_at G C (I, V) o d s.heap H locs) {index : Nat} (hlink : (Cond.fieldLink own index RX7 "code" "I").before args s = true) (hdg : decode cc pc = .ok (.getfield index, 3)) (kk : W p l e R s m args below meth c H locs cells slots Q (F0 m (pc + 3) ls (.int (I 58 9) :: rest))) : W p l e R s m args below meth c H locs cells slots Q (F0 m pc ls (.ref (G.2.1 58) :: rest)) :=
  gx_get (k := 58) hx hb hown hV hw (by decide) rfl rfl gl_X7 9 (by decide) rfl rfl hlink hdg kk
theorem gp_X7_9 (hx : p.tables.exec = Jvm.exec) (hb : c.code = cc) (hown : s.vm.findClass own = some m.cls) (hV : gx_V G s) (hw : gx_at G C (I, V) o d s.heap H locs) {x : Int32} {index : Nat} (hlink : (Cond.fieldLink own index RX7 "code" "I").before args s = true) (hdg : decode cc pc = .ok (.putfield index, 3)) (kk : ∀ (H1 : Heap) (locs1 : List Loc), gx_at G C (gx_u I 58 9 x, V) o d s.heap H1 locs1 → W p l e R s m args below meth c H1 locs1 cells slots Q (F0 m (pc + 3) ls rest)) : W p l e R s m args below meth c H locs cells slots Q (F0 m pc ls (.int x :: .ref (G.2.1 58) :: rest)) :=
  gx_put (k := 58) (ty := .int) hx hb hown hV hw (by decide) rfl rfl gl_X7 tyX7 tyX7_ok nmX7 9 (by decide) rfl rfl rfl rfl rfl (by show 9 < 22; decide) (by simp [gx_cell, gx_u]) (fun i hi => gx_m1 hi) hlink hdg kk
theorem gg_X7_10 (hx : p.tables.exec = Jvm.exec) (hb : c.code = cc) (hown : s.vm.findClass own = some m.cls) (hV : gx_V G s) (hw : gx_at G C (I, V) o d s.heap H locs) {index : Nat} (hlink : (Cond.fieldLink own index RX7 "why" "I").before args s = true) (hdg : decode cc pc = .ok (.getfield index, 3)) (kk : W p l e R s m args below meth c H locs cells slots Q (F0 m (pc + 3) ls (.int (I 58 10) :: rest))) : W p l e R s m args below meth c H locs cells slots Q (F0 m pc ls (.ref (G.2.1 58) :: rest)) :=
  gx_get (k := 58) hx hb hown hV hw (by decide) rfl rfl gl_X7 10 (by decide) rfl rfl hlink hdg kk
theorem gp_X7_10 (hx : p.tables.exec = Jvm.exec) (hb : c.code = cc) (hown : s.vm.findClass own = some m.cls) (hV : gx_V G s) (hw : gx_at G C (I, V) o d s.heap H locs) {x : Int32} {index : Nat} (hlink : (Cond.fieldLink own index RX7 "why" "I").before args s = true) (hdg : decode cc pc = .ok (.putfield index, 3)) (kk : ∀ (H1 : Heap) (locs1 : List Loc), gx_at G C (gx_u I 58 10 x, V) o d s.heap H1 locs1 → W p l e R s m args below meth c H1 locs1 cells slots Q (F0 m (pc + 3) ls rest)) : W p l e R s m args below meth c H locs cells slots Q (F0 m pc ls (.int x :: .ref (G.2.1 58) :: rest)) :=
  gx_put (k := 58) (ty := .int) hx hb hown hV hw (by decide) rfl rfl gl_X7 tyX7 tyX7_ok nmX7 10 (by decide) rfl rfl rfl rfl rfl (by show 10 < 22; decide) (by simp [gx_cell, gx_u]) (fun i hi => gx_m1 hi) hlink hdg kk
theorem gg_X7_11 (hx : p.tables.exec = Jvm.exec) (hb : c.code = cc) (hown : s.vm.findClass own = some m.cls) (hV : gx_V G s) (hw : gx_at G C (I, V) o d s.heap H locs) {index : Nat} (hlink : (Cond.fieldLink own index RX7 "detail" "I").before args s = true) (hdg : decode cc pc = .ok (.getfield index, 3)) (kk : W p l e R s m args below meth c H locs cells slots Q (F0 m (pc + 3) ls (.int (I 58 11) :: rest))) : W p l e R s m args below meth c H locs cells slots Q (F0 m pc ls (.ref (G.2.1 58) :: rest)) :=
  gx_get (k := 58) hx hb hown hV hw (by decide) rfl rfl gl_X7 11 (by decide) rfl rfl hlink hdg kk
theorem gp_X7_11 (hx : p.tables.exec = Jvm.exec) (hb : c.code = cc) (hown : s.vm.findClass own = some m.cls) (hV : gx_V G s) (hw : gx_at G C (I, V) o d s.heap H locs) {x : Int32} {index : Nat} (hlink : (Cond.fieldLink own index RX7 "detail" "I").before args s = true) (hdg : decode cc pc = .ok (.putfield index, 3)) (kk : ∀ (H1 : Heap) (locs1 : List Loc), gx_at G C (gx_u I 58 11 x, V) o d s.heap H1 locs1 → W p l e R s m args below meth c H1 locs1 cells slots Q (F0 m (pc + 3) ls rest)) : W p l e R s m args below meth c H locs cells slots Q (F0 m pc ls (.int x :: .ref (G.2.1 58) :: rest)) :=
  gx_put (k := 58) (ty := .int) hx hb hown hV hw (by decide) rfl rfl gl_X7 tyX7 tyX7_ok nmX7 11 (by decide) rfl rfl rfl rfl rfl (by show 11 < 22; decide) (by simp [gx_cell, gx_u]) (fun i hi => gx_m1 hi) hlink hdg kk
theorem gg_X7_12 (hx : p.tables.exec = Jvm.exec) (hb : c.code = cc) (hown : s.vm.findClass own = some m.cls) (hV : gx_V G s) (hw : gx_at G C (I, V) o d s.heap H locs) {index : Nat} (hlink : (Cond.fieldLink own index RX7 "index0" "I").before args s = true) (hdg : decode cc pc = .ok (.getfield index, 3)) (kk : W p l e R s m args below meth c H locs cells slots Q (F0 m (pc + 3) ls (.int (I 58 12) :: rest))) : W p l e R s m args below meth c H locs cells slots Q (F0 m pc ls (.ref (G.2.1 58) :: rest)) :=
  gx_get (k := 58) hx hb hown hV hw (by decide) rfl rfl gl_X7 12 (by decide) rfl rfl hlink hdg kk
theorem gp_X7_12 (hx : p.tables.exec = Jvm.exec) (hb : c.code = cc) (hown : s.vm.findClass own = some m.cls) (hV : gx_V G s) (hw : gx_at G C (I, V) o d s.heap H locs) {x : Int32} {index : Nat} (hlink : (Cond.fieldLink own index RX7 "index0" "I").before args s = true) (hdg : decode cc pc = .ok (.putfield index, 3)) (kk : ∀ (H1 : Heap) (locs1 : List Loc), gx_at G C (gx_u I 58 12 x, V) o d s.heap H1 locs1 → W p l e R s m args below meth c H1 locs1 cells slots Q (F0 m (pc + 3) ls rest)) : W p l e R s m args below meth c H locs cells slots Q (F0 m pc ls (.int x :: .ref (G.2.1 58) :: rest)) :=
  gx_put (k := 58) (ty := .int) hx hb hown hV hw (by decide) rfl rfl gl_X7 tyX7 tyX7_ok nmX7 12 (by decide) rfl rfl rfl rfl rfl (by show 12 < 22; decide) (by simp [gx_cell, gx_u]) (fun i hi => gx_m1 hi) hlink hdg kk
theorem gg_X7_13 (hx : p.tables.exec = Jvm.exec) (hb : c.code = cc) (hown : s.vm.findClass own = some m.cls) (hV : gx_V G s) (hw : gx_at G C (I, V) o d s.heap H locs) {index : Nat} (hlink : (Cond.fieldLink own index RX7 "input" "[I").before args s = true) (hdg : decode cc pc = .ok (.getfield index, 3)) (kk : W p l e R s m args below meth c H locs cells slots Q (F0 m (pc + 3) ls (.ref (G.2.1 64) :: rest))) : W p l e R s m args below meth c H locs cells slots Q (F0 m pc ls (.ref (G.2.1 58) :: rest)) :=
  gx_get (k := 58) hx hb hown hV hw (by decide) rfl rfl gl_X7 13 (by decide) rfl rfl hlink hdg kk
theorem gg_X7_14 (hx : p.tables.exec = Jvm.exec) (hb : c.code = cc) (hown : s.vm.findClass own = some m.cls) (hV : gx_V G s) (hw : gx_at G C (I, V) o d s.heap H locs) {index : Nat} (hlink : (Cond.fieldLink own index RX7 "length" "I").before args s = true) (hdg : decode cc pc = .ok (.getfield index, 3)) (kk : W p l e R s m args below meth c H locs cells slots Q (F0 m (pc + 3) ls (.int (I 58 14) :: rest))) : W p l e R s m args below meth c H locs cells slots Q (F0 m pc ls (.ref (G.2.1 58) :: rest)) :=
  gx_get (k := 58) hx hb hown hV hw (by decide) rfl rfl gl_X7 14 (by decide) rfl rfl hlink hdg kk
theorem gp_X7_14 (hx : p.tables.exec = Jvm.exec) (hb : c.code = cc) (hown : s.vm.findClass own = some m.cls) (hV : gx_V G s) (hw : gx_at G C (I, V) o d s.heap H locs) {x : Int32} {index : Nat} (hlink : (Cond.fieldLink own index RX7 "length" "I").before args s = true) (hdg : decode cc pc = .ok (.putfield index, 3)) (kk : ∀ (H1 : Heap) (locs1 : List Loc), gx_at G C (gx_u I 58 14 x, V) o d s.heap H1 locs1 → W p l e R s m args below meth c H1 locs1 cells slots Q (F0 m (pc + 3) ls rest)) : W p l e R s m args below meth c H locs cells slots Q (F0 m pc ls (.int x :: .ref (G.2.1 58) :: rest)) :=
  gx_put (k := 58) (ty := .int) hx hb hown hV hw (by decide) rfl rfl gl_X7 tyX7 tyX7_ok nmX7 14 (by decide) rfl rfl rfl rfl rfl (by show 14 < 22; decide) (by simp [gx_cell, gx_u]) (fun i hi => gx_m1 hi) hlink hdg kk
theorem gg_X7_15 (hx : p.tables.exec = Jvm.exec) (hb : c.code = cc) (hown : s.vm.findClass own = some m.cls) (hV : gx_V G s) (hw : gx_at G C (I, V) o d s.heap H locs) {index : Nat} (hlink : (Cond.fieldLink own index RX7 "fault0" "I").before args s = true) (hdg : decode cc pc = .ok (.getfield index, 3)) (kk : W p l e R s m args below meth c H locs cells slots Q (F0 m (pc + 3) ls (.int (I 58 15) :: rest))) : W p l e R s m args below meth c H locs cells slots Q (F0 m pc ls (.ref (G.2.1 58) :: rest)) :=
  gx_get (k := 58) hx hb hown hV hw (by decide) rfl rfl gl_X7 15 (by decide) rfl rfl hlink hdg kk
theorem gp_X7_15 (hx : p.tables.exec = Jvm.exec) (hb : c.code = cc) (hown : s.vm.findClass own = some m.cls) (hV : gx_V G s) (hw : gx_at G C (I, V) o d s.heap H locs) {x : Int32} {index : Nat} (hlink : (Cond.fieldLink own index RX7 "fault0" "I").before args s = true) (hdg : decode cc pc = .ok (.putfield index, 3)) (kk : ∀ (H1 : Heap) (locs1 : List Loc), gx_at G C (gx_u I 58 15 x, V) o d s.heap H1 locs1 → W p l e R s m args below meth c H1 locs1 cells slots Q (F0 m (pc + 3) ls rest)) : W p l e R s m args below meth c H locs cells slots Q (F0 m pc ls (.int x :: .ref (G.2.1 58) :: rest)) :=
  gx_put (k := 58) (ty := .int) hx hb hown hV hw (by decide) rfl rfl gl_X7 tyX7 tyX7_ok nmX7 15 (by decide) rfl rfl rfl rfl rfl (by show 15 < 22; decide) (by simp [gx_cell, gx_u]) (fun i hi => gx_m1 hi) hlink hdg kk
theorem gg_X7_16 (hx : p.tables.exec = Jvm.exec) (hb : c.code = cc) (hown : s.vm.findClass own = some m.cls) (hV : gx_V G s) (hw : gx_at G C (I, V) o d s.heap H locs) {index : Nat} (hlink : (Cond.fieldLink own index RX7 "signs" "[C").before args s = true) (hdg : decode cc pc = .ok (.getfield index, 3)) (kk : W p l e R s m args below meth c H locs cells slots Q (F0 m (pc + 3) ls (.ref (G.2.1 65) :: rest))) : W p l e R s m args below meth c H locs cells slots Q (F0 m pc ls (.ref (G.2.1 58) :: rest)) :=
  gx_get (k := 58) hx hb hown hV hw (by decide) rfl rfl gl_X7 16 (by decide) rfl rfl hlink hdg kk
theorem gg_X7_17 (hx : p.tables.exec = Jvm.exec) (hb : c.code = cc) (hown : s.vm.findClass own = some m.cls) (hV : gx_V G s) (hw : gx_at G C (I, V) o d s.heap H locs) {index : Nat} (hlink : (Cond.fieldLink own index RX7 "signMany" "I").before args s = true) (hdg : decode cc pc = .ok (.getfield index, 3)) (kk : W p l e R s m args below meth c H locs cells slots Q (F0 m (pc + 3) ls (.int (I 58 17) :: rest))) : W p l e R s m args below meth c H locs cells slots Q (F0 m pc ls (.ref (G.2.1 58) :: rest)) :=
  gx_get (k := 58) hx hb hown hV hw (by decide) rfl rfl gl_X7 17 (by decide) rfl rfl hlink hdg kk
theorem gp_X7_17 (hx : p.tables.exec = Jvm.exec) (hb : c.code = cc) (hown : s.vm.findClass own = some m.cls) (hV : gx_V G s) (hw : gx_at G C (I, V) o d s.heap H locs) {x : Int32} {index : Nat} (hlink : (Cond.fieldLink own index RX7 "signMany" "I").before args s = true) (hdg : decode cc pc = .ok (.putfield index, 3)) (kk : ∀ (H1 : Heap) (locs1 : List Loc), gx_at G C (gx_u I 58 17 x, V) o d s.heap H1 locs1 → W p l e R s m args below meth c H1 locs1 cells slots Q (F0 m (pc + 3) ls rest)) : W p l e R s m args below meth c H locs cells slots Q (F0 m pc ls (.int x :: .ref (G.2.1 58) :: rest)) :=
  gx_put (k := 58) (ty := .int) hx hb hown hV hw (by decide) rfl rfl gl_X7 tyX7 tyX7_ok nmX7 17 (by decide) rfl rfl rfl rfl rfl (by show 17 < 22; decide) (by simp [gx_cell, gx_u]) (fun i hi => gx_m1 hi) hlink hdg kk
theorem gg_X7_18 (hx : p.tables.exec = Jvm.exec) (hb : c.code = cc) (hown : s.vm.findClass own = some m.cls) (hV : gx_V G s) (hw : gx_at G C (I, V) o d s.heap H locs) {index : Nat} (hlink : (Cond.fieldLink own index RX7 "isCome" "[Z").before args s = true) (hdg : decode cc pc = .ok (.getfield index, 3)) (kk : W p l e R s m args below meth c H locs cells slots Q (F0 m (pc + 3) ls (.ref (G.2.1 66) :: rest))) : W p l e R s m args below meth c H locs cells slots Q (F0 m pc ls (.ref (G.2.1 58) :: rest)) :=
  gx_get (k := 58) hx hb hown hV hw (by decide) rfl rfl gl_X7 18 (by decide) rfl rfl hlink hdg kk
theorem gg_X7_19 (hx : p.tables.exec = Jvm.exec) (hb : c.code = cc) (hown : s.vm.findClass own = some m.cls) (hV : gx_V G s) (hw : gx_at G C (I, V) o d s.heap H locs) {index : Nat} (hlink : (Cond.fieldLink own index RX7 "at" "I").before args s = true) (hdg : decode cc pc = .ok (.getfield index, 3)) (kk : W p l e R s m args below meth c H locs cells slots Q (F0 m (pc + 3) ls (.int (I 58 19) :: rest))) : W p l e R s m args below meth c H locs cells slots Q (F0 m pc ls (.ref (G.2.1 58) :: rest)) :=
  gx_get (k := 58) hx hb hown hV hw (by decide) rfl rfl gl_X7 19 (by decide) rfl rfl hlink hdg kk
theorem gp_X7_19 (hx : p.tables.exec = Jvm.exec) (hb : c.code = cc) (hown : s.vm.findClass own = some m.cls) (hV : gx_V G s) (hw : gx_at G C (I, V) o d s.heap H locs) {x : Int32} {index : Nat} (hlink : (Cond.fieldLink own index RX7 "at" "I").before args s = true) (hdg : decode cc pc = .ok (.putfield index, 3)) (kk : ∀ (H1 : Heap) (locs1 : List Loc), gx_at G C (gx_u I 58 19 x, V) o d s.heap H1 locs1 → W p l e R s m args below meth c H1 locs1 cells slots Q (F0 m (pc + 3) ls rest)) : W p l e R s m args below meth c H locs cells slots Q (F0 m pc ls (.int x :: .ref (G.2.1 58) :: rest)) :=
  gx_put (k := 58) (ty := .int) hx hb hown hV hw (by decide) rfl rfl gl_X7 tyX7 tyX7_ok nmX7 19 (by decide) rfl rfl rfl rfl rfl (by show 19 < 22; decide) (by simp [gx_cell, gx_u]) (fun i hi => gx_m1 hi) hlink hdg kk
theorem gg_X7_20 (hx : p.tables.exec = Jvm.exec) (hb : c.code = cc) (hown : s.vm.findClass own = some m.cls) (hV : gx_V G s) (hw : gx_at G C (I, V) o d s.heap H locs) {index : Nat} (hlink : (Cond.fieldLink own index RX7 "told" "[I").before args s = true) (hdg : decode cc pc = .ok (.getfield index, 3)) (kk : W p l e R s m args below meth c H locs cells slots Q (F0 m (pc + 3) ls (.ref (G.2.1 67) :: rest))) : W p l e R s m args below meth c H locs cells slots Q (F0 m pc ls (.ref (G.2.1 58) :: rest)) :=
  gx_get (k := 58) hx hb hown hV hw (by decide) rfl rfl gl_X7 20 (by decide) rfl rfl hlink hdg kk
theorem gg_X7_21 (hx : p.tables.exec = Jvm.exec) (hb : c.code = cc) (hown : s.vm.findClass own = some m.cls) (hV : gx_V G s) (hw : gx_at G C (I, V) o d s.heap H locs) {index : Nat} (hlink : (Cond.fieldLink own index RX7 "toldMany" "I").before args s = true) (hdg : decode cc pc = .ok (.getfield index, 3)) (kk : W p l e R s m args below meth c H locs cells slots Q (F0 m (pc + 3) ls (.int (I 58 21) :: rest))) : W p l e R s m args below meth c H locs cells slots Q (F0 m pc ls (.ref (G.2.1 58) :: rest)) :=
  gx_get (k := 58) hx hb hown hV hw (by decide) rfl rfl gl_X7 21 (by decide) rfl rfl hlink hdg kk
theorem gp_X7_21 (hx : p.tables.exec = Jvm.exec) (hb : c.code = cc) (hown : s.vm.findClass own = some m.cls) (hV : gx_V G s) (hw : gx_at G C (I, V) o d s.heap H locs) {x : Int32} {index : Nat} (hlink : (Cond.fieldLink own index RX7 "toldMany" "I").before args s = true) (hdg : decode cc pc = .ok (.putfield index, 3)) (kk : ∀ (H1 : Heap) (locs1 : List Loc), gx_at G C (gx_u I 58 21 x, V) o d s.heap H1 locs1 → W p l e R s m args below meth c H1 locs1 cells slots Q (F0 m (pc + 3) ls rest)) : W p l e R s m args below meth c H locs cells slots Q (F0 m pc ls (.int x :: .ref (G.2.1 58) :: rest)) :=
  gx_put (k := 58) (ty := .int) hx hb hown hV hw (by decide) rfl rfl gl_X7 tyX7 tyX7_ok nmX7 21 (by decide) rfl rfl rfl rfl rfl (by show 21 < 22; decide) (by simp [gx_cell, gx_u]) (fun i hi => gx_m1 hi) hlink hdg kk
theorem ga_w1_ld (hx : p.tables.exec = Jvm.exec) (hb : c.code = cc) (hV : gx_V G s) (hw : gx_at G (I, V) M o d s.heap H locs) {k : Nat} (hW : gx_isW k) {i : Int32} (hF : gx_ck (gx_in i 32) X = some out) (hdg : decode cc pc = .ok (.iaload, 1)) (kk : gx_in i 32 = true → X = some out → W p l e R s m args below meth c H locs cells slots Q (F0 m (pc + 1) ls (.int (V (k + 1) i.toNatClampNeg) :: rest))) : W p l e R s m args below meth c H locs cells slots Q (F0 m pc ls (.int i :: .ref (G.2.1 (k + 1)) :: rest)) :=
  gx_iald (k := k + 1) hx hb hV hw (gx_Wk1 hW) (gc_w1 hW) hF hdg kk
theorem ga_w1_st (hx : p.tables.exec = Jvm.exec) (hb : c.code = cc) (hV : gx_V G s) (hw : gx_at G (I, V) M o d s.heap H locs) {k : Nat} (hW : gx_isW k) {i x : Int32} (hF : gx_ck (gx_in i 32) X = some out) (hdg : decode cc pc = .ok (.iastore, 1)) (kk : ∀ (H1 : Heap) (locs1 : List Loc), gx_at G (I, gx_u V (k + 1) i.toNatClampNeg x) M o d s.heap H1 locs1 → X = some out → W p l e R s m args below meth c H1 locs1 cells slots Q (F0 m (pc + 1) ls rest)) : W p l e R s m args below meth c H locs cells slots Q (F0 m pc ls (.int x :: .int i :: .ref (G.2.1 (k + 1)) :: rest)) :=
  gx_iast (k := k + 1) hx hb hV hw (gx_Wk1 hW) (gc_w1 hW) (by rw [gc_w1 hW, gx_upd_u]) (fun i hi => gx_c2 hi) hF hdg kk
theorem ga_w2_ld (hx : p.tables.exec = Jvm.exec) (hb : c.code = cc) (hV : gx_V G s) (hw : gx_at G (I, V) M o d s.heap H locs) {k : Nat} (hW : gx_isW k) {i : Int32} (hF : gx_ck (gx_in i 7) X = some out) (hdg : decode cc pc = .ok (.iaload, 1)) (kk : gx_in i 7 = true → X = some out → W p l e R s m args below meth c H locs cells slots Q (F0 m (pc + 1) ls (.int (V (k + 2) i.toNatClampNeg) :: rest))) : W p l e R s m args below meth c H locs cells slots Q (F0 m pc ls (.int i :: .ref (G.2.1 (k + 2)) :: rest)) :=
  gx_iald (k := k + 2) hx hb hV hw (gx_Wk2 hW) (gc_w2 hW) hF hdg kk
theorem ga_w2_st (hx : p.tables.exec = Jvm.exec) (hb : c.code = cc) (hV : gx_V G s) (hw : gx_at G (I, V) M o d s.heap H locs) {k : Nat} (hW : gx_isW k) {i x : Int32} (hF : gx_ck (gx_in i 7) X = some out) (hdg : decode cc pc = .ok (.iastore, 1)) (kk : ∀ (H1 : Heap) (locs1 : List Loc), gx_at G (I, gx_u V (k + 2) i.toNatClampNeg x) M o d s.heap H1 locs1 → X = some out → W p l e R s m args below meth c H1 locs1 cells slots Q (F0 m (pc + 1) ls rest)) : W p l e R s m args below meth c H locs cells slots Q (F0 m pc ls (.int x :: .int i :: .ref (G.2.1 (k + 2)) :: rest)) :=
  gx_iast (k := k + 2) hx hb hV hw (gx_Wk2 hW) (gc_w2 hW) (by rw [gc_w2 hW, gx_upd_u]) (fun i hi => gx_c2 hi) hF hdg kk
theorem ga_w3_ld (hx : p.tables.exec = Jvm.exec) (hb : c.code = cc) (hV : gx_V G s) (hw : gx_at G (I, V) M o d s.heap H locs) {k : Nat} (hW : gx_isW k) {i : Int32} (hF : gx_ck (gx_in i 42) X = some out) (hdg : decode cc pc = .ok (.iaload, 1)) (kk : gx_in i 42 = true → X = some out → W p l e R s m args below meth c H locs cells slots Q (F0 m (pc + 1) ls (.int (V (k + 3) i.toNatClampNeg) :: rest))) : W p l e R s m args below meth c H locs cells slots Q (F0 m pc ls (.int i :: .ref (G.2.1 (k + 3)) :: rest)) :=
  gx_iald (k := k + 3) hx hb hV hw (gx_Wk3 hW) (gc_w3 hW) hF hdg kk
theorem ga_w3_st (hx : p.tables.exec = Jvm.exec) (hb : c.code = cc) (hV : gx_V G s) (hw : gx_at G (I, V) M o d s.heap H locs) {k : Nat} (hW : gx_isW k) {i x : Int32} (hF : gx_ck (gx_in i 42) X = some out) (hdg : decode cc pc = .ok (.iastore, 1)) (kk : ∀ (H1 : Heap) (locs1 : List Loc), gx_at G (I, gx_u V (k + 3) i.toNatClampNeg x) M o d s.heap H1 locs1 → X = some out → W p l e R s m args below meth c H1 locs1 cells slots Q (F0 m (pc + 1) ls rest)) : W p l e R s m args below meth c H locs cells slots Q (F0 m pc ls (.int x :: .int i :: .ref (G.2.1 (k + 3)) :: rest)) :=
  gx_iast (k := k + 3) hx hb hV hw (gx_Wk3 hW) (gc_w3 hW) (by rw [gc_w3 hW, gx_upd_u]) (fun i hi => gx_c2 hi) hF hdg kk
theorem ga_45_ld (hx : p.tables.exec = Jvm.exec) (hb : c.code = cc) (hV : gx_V G s) (hw : gx_at G (I, V) M o d s.heap H locs) {i : Int32} (hF : gx_ck (gx_in i 28) X = some out) (hdg : decode cc pc = .ok (.caload, 1)) (kk : gx_in i 28 = true → X = some out → W p l e R s m args below meth c H locs cells slots Q (F0 m (pc + 1) ls (.int (gx_chr (V (45) i.toNatClampNeg)) :: rest))) : W p l e R s m args below meth c H locs cells slots Q (F0 m pc ls (.int i :: .ref (G.2.1 (45)) :: rest)) :=
  gx_cald (k := 45) hx hb hV hw (by decide) rfl hF hdg kk
theorem ga_45_st (hx : p.tables.exec = Jvm.exec) (hb : c.code = cc) (hV : gx_V G s) (hw : gx_at G (I, V) M o d s.heap H locs) {i x : Int32} (hF : gx_ck (gx_in i 28) X = some out) (hdg : decode cc pc = .ok (.castore, 1)) (kk : ∀ (H1 : Heap) (locs1 : List Loc), gx_at G (I, gx_u V (45) i.toNatClampNeg x) M o d s.heap H1 locs1 → X = some out → W p l e R s m args below meth c H1 locs1 cells slots Q (F0 m (pc + 1) ls rest)) : W p l e R s m args below meth c H locs cells slots Q (F0 m pc ls (.int x :: .int i :: .ref (G.2.1 (45)) :: rest)) :=
  gx_cast (k := 45) hx hb hV hw (by decide) rfl (by rw [gx_upd_c]; rfl) (fun i hi => gx_c2 hi) hF hdg kk
theorem ga_49_ld (hx : p.tables.exec = Jvm.exec) (hb : c.code = cc) (hV : gx_V G s) (hw : gx_at G (I, V) M o d s.heap H locs) {i : Int32} (hF : gx_ck (gx_in i 42) X = some out) (hdg : decode cc pc = .ok (.baload, 1)) (kk : gx_in i 42 = true → X = some out → W p l e R s m args below meth c H locs cells slots Q (F0 m (pc + 1) ls (.int (gx_boo (V (49) i.toNatClampNeg)) :: rest))) : W p l e R s m args below meth c H locs cells slots Q (F0 m pc ls (.int i :: .ref (G.2.1 (49)) :: rest)) :=
  gx_zald (k := 49) hx hb hV hw (by decide) rfl hF hdg kk
theorem ga_49_st (hx : p.tables.exec = Jvm.exec) (hb : c.code = cc) (hV : gx_V G s) (hw : gx_at G (I, V) M o d s.heap H locs) {i x : Int32} (hF : gx_ck (gx_in i 42) X = some out) (hdg : decode cc pc = .ok (.bastore, 1)) (kk : ∀ (H1 : Heap) (locs1 : List Loc), gx_at G (I, gx_u V (49) i.toNatClampNeg x) M o d s.heap H1 locs1 → X = some out → W p l e R s m args below meth c H1 locs1 cells slots Q (F0 m (pc + 1) ls rest)) : W p l e R s m args below meth c H locs cells slots Q (F0 m pc ls (.int x :: .int i :: .ref (G.2.1 (49)) :: rest)) :=
  gx_zast (k := 49) hx hb hV hw (by decide) rfl (by rw [gx_upd_z]; rfl) (fun i hi => gx_c2 hi) hF hdg kk
theorem ga_50_ld (hx : p.tables.exec = Jvm.exec) (hb : c.code = cc) (hV : gx_V G s) (hw : gx_at G (I, V) M o d s.heap H locs) {i : Int32} (hF : gx_ck (gx_in i 42) X = some out) (hdg : decode cc pc = .ok (.iaload, 1)) (kk : gx_in i 42 = true → X = some out → W p l e R s m args below meth c H locs cells slots Q (F0 m (pc + 1) ls (.int (V (50) i.toNatClampNeg) :: rest))) : W p l e R s m args below meth c H locs cells slots Q (F0 m pc ls (.int i :: .ref (G.2.1 (50)) :: rest)) :=
  gx_iald (k := 50) hx hb hV hw (by decide) rfl hF hdg kk
theorem ga_50_st (hx : p.tables.exec = Jvm.exec) (hb : c.code = cc) (hV : gx_V G s) (hw : gx_at G (I, V) M o d s.heap H locs) {i x : Int32} (hF : gx_ck (gx_in i 42) X = some out) (hdg : decode cc pc = .ok (.iastore, 1)) (kk : ∀ (H1 : Heap) (locs1 : List Loc), gx_at G (I, gx_u V (50) i.toNatClampNeg x) M o d s.heap H1 locs1 → X = some out → W p l e R s m args below meth c H1 locs1 cells slots Q (F0 m (pc + 1) ls rest)) : W p l e R s m args below meth c H locs cells slots Q (F0 m pc ls (.int x :: .int i :: .ref (G.2.1 (50)) :: rest)) :=
  gx_iast (k := 50) hx hb hV hw (by decide) rfl (by rw [gx_upd_u]; rfl) (fun i hi => gx_c2 hi) hF hdg kk
theorem ga_52_ld (hx : p.tables.exec = Jvm.exec) (hb : c.code = cc) (hV : gx_V G s) (hw : gx_at G (I, V) M o d s.heap H locs) {i : Int32} (hF : gx_ck (gx_in i 4) X = some out) (hdg : decode cc pc = .ok (.iaload, 1)) (kk : gx_in i 4 = true → X = some out → W p l e R s m args below meth c H locs cells slots Q (F0 m (pc + 1) ls (.int (V (52) i.toNatClampNeg) :: rest))) : W p l e R s m args below meth c H locs cells slots Q (F0 m pc ls (.int i :: .ref (G.2.1 (52)) :: rest)) :=
  gx_iald (k := 52) hx hb hV hw (by decide) rfl hF hdg kk
theorem ga_52_st (hx : p.tables.exec = Jvm.exec) (hb : c.code = cc) (hV : gx_V G s) (hw : gx_at G (I, V) M o d s.heap H locs) {i x : Int32} (hF : gx_ck (gx_in i 4) X = some out) (hdg : decode cc pc = .ok (.iastore, 1)) (kk : ∀ (H1 : Heap) (locs1 : List Loc), gx_at G (I, gx_u V (52) i.toNatClampNeg x) M o d s.heap H1 locs1 → X = some out → W p l e R s m args below meth c H1 locs1 cells slots Q (F0 m (pc + 1) ls rest)) : W p l e R s m args below meth c H locs cells slots Q (F0 m pc ls (.int x :: .int i :: .ref (G.2.1 (52)) :: rest)) :=
  gx_iast (k := 52) hx hb hV hw (by decide) rfl (by rw [gx_upd_u]; rfl) (fun i hi => gx_c2 hi) hF hdg kk
theorem ga_55_ld (hx : p.tables.exec = Jvm.exec) (hb : c.code = cc) (hV : gx_V G s) (hw : gx_at G (I, V) M o d s.heap H locs) {i : Int32} (hF : gx_ck (gx_in i 60) X = some out) (hdg : decode cc pc = .ok (.caload, 1)) (kk : gx_in i 60 = true → X = some out → W p l e R s m args below meth c H locs cells slots Q (F0 m (pc + 1) ls (.int (gx_chr (V (55) i.toNatClampNeg)) :: rest))) : W p l e R s m args below meth c H locs cells slots Q (F0 m pc ls (.int i :: .ref (G.2.1 (55)) :: rest)) :=
  gx_cald (k := 55) hx hb hV hw (by decide) rfl hF hdg kk
theorem ga_55_st (hx : p.tables.exec = Jvm.exec) (hb : c.code = cc) (hV : gx_V G s) (hw : gx_at G (I, V) M o d s.heap H locs) {i x : Int32} (hF : gx_ck (gx_in i 60) X = some out) (hdg : decode cc pc = .ok (.castore, 1)) (kk : ∀ (H1 : Heap) (locs1 : List Loc), gx_at G (I, gx_u V (55) i.toNatClampNeg x) M o d s.heap H1 locs1 → X = some out → W p l e R s m args below meth c H1 locs1 cells slots Q (F0 m (pc + 1) ls rest)) : W p l e R s m args below meth c H locs cells slots Q (F0 m pc ls (.int x :: .int i :: .ref (G.2.1 (55)) :: rest)) :=
  gx_cast (k := 55) hx hb hV hw (by decide) rfl (by rw [gx_upd_c]; rfl) (fun i hi => gx_c2 hi) hF hdg kk
theorem ga_56_ld (hx : p.tables.exec = Jvm.exec) (hb : c.code = cc) (hV : gx_V G s) (hw : gx_at G (I, V) M o d s.heap H locs) {i : Int32} (hF : gx_ck (gx_in i 30) X = some out) (hdg : decode cc pc = .ok (.caload, 1)) (kk : gx_in i 30 = true → X = some out → W p l e R s m args below meth c H locs cells slots Q (F0 m (pc + 1) ls (.int (gx_chr (V (56) i.toNatClampNeg)) :: rest))) : W p l e R s m args below meth c H locs cells slots Q (F0 m pc ls (.int i :: .ref (G.2.1 (56)) :: rest)) :=
  gx_cald (k := 56) hx hb hV hw (by decide) rfl hF hdg kk
theorem ga_56_st (hx : p.tables.exec = Jvm.exec) (hb : c.code = cc) (hV : gx_V G s) (hw : gx_at G (I, V) M o d s.heap H locs) {i x : Int32} (hF : gx_ck (gx_in i 30) X = some out) (hdg : decode cc pc = .ok (.castore, 1)) (kk : ∀ (H1 : Heap) (locs1 : List Loc), gx_at G (I, gx_u V (56) i.toNatClampNeg x) M o d s.heap H1 locs1 → X = some out → W p l e R s m args below meth c H1 locs1 cells slots Q (F0 m (pc + 1) ls rest)) : W p l e R s m args below meth c H locs cells slots Q (F0 m pc ls (.int x :: .int i :: .ref (G.2.1 (56)) :: rest)) :=
  gx_cast (k := 56) hx hb hV hw (by decide) rfl (by rw [gx_upd_c]; rfl) (fun i hi => gx_c2 hi) hF hdg kk
theorem ga_57_ld (hx : p.tables.exec = Jvm.exec) (hb : c.code = cc) (hV : gx_V G s) (hw : gx_at G (I, V) M o d s.heap H locs) {i : Int32} (hF : gx_ck (gx_in i 120) X = some out) (hdg : decode cc pc = .ok (.iaload, 1)) (kk : gx_in i 120 = true → X = some out → W p l e R s m args below meth c H locs cells slots Q (F0 m (pc + 1) ls (.int (V (57) i.toNatClampNeg) :: rest))) : W p l e R s m args below meth c H locs cells slots Q (F0 m pc ls (.int i :: .ref (G.2.1 (57)) :: rest)) :=
  gx_iald (k := 57) hx hb hV hw (by decide) rfl hF hdg kk
theorem ga_57_st (hx : p.tables.exec = Jvm.exec) (hb : c.code = cc) (hV : gx_V G s) (hw : gx_at G (I, V) M o d s.heap H locs) {i x : Int32} (hF : gx_ck (gx_in i 120) X = some out) (hdg : decode cc pc = .ok (.iastore, 1)) (kk : ∀ (H1 : Heap) (locs1 : List Loc), gx_at G (I, gx_u V (57) i.toNatClampNeg x) M o d s.heap H1 locs1 → X = some out → W p l e R s m args below meth c H1 locs1 cells slots Q (F0 m (pc + 1) ls rest)) : W p l e R s m args below meth c H locs cells slots Q (F0 m pc ls (.int x :: .int i :: .ref (G.2.1 (57)) :: rest)) :=
  gx_iast (k := 57) hx hb hV hw (by decide) rfl (by rw [gx_upd_u]; rfl) (fun i hi => gx_c2 hi) hF hdg kk
theorem ga_59_ld (hx : p.tables.exec = Jvm.exec) (hb : c.code = cc) (hV : gx_V G s) (hw : gx_at G C (I, V) o d s.heap H locs) {i : Int32} (hF : gx_ck (gx_in i 87) X = some out) (hdg : decode cc pc = .ok (.iaload, 1)) (kk : gx_in i 87 = true → X = some out → W p l e R s m args below meth c H locs cells slots Q (F0 m (pc + 1) ls (.int (V (59) i.toNatClampNeg) :: rest))) : W p l e R s m args below meth c H locs cells slots Q (F0 m pc ls (.int i :: .ref (G.2.1 (59)) :: rest)) :=
  gx_iald (k := 59) hx hb hV hw (by decide) rfl hF hdg kk
theorem ga_59_st (hx : p.tables.exec = Jvm.exec) (hb : c.code = cc) (hV : gx_V G s) (hw : gx_at G C (I, V) o d s.heap H locs) {i x : Int32} (hF : gx_ck (gx_in i 87) X = some out) (hdg : decode cc pc = .ok (.iastore, 1)) (kk : ∀ (H1 : Heap) (locs1 : List Loc), gx_at G C (I, gx_u V (59) i.toNatClampNeg x) o d s.heap H1 locs1 → X = some out → W p l e R s m args below meth c H1 locs1 cells slots Q (F0 m (pc + 1) ls rest)) : W p l e R s m args below meth c H locs cells slots Q (F0 m pc ls (.int x :: .int i :: .ref (G.2.1 (59)) :: rest)) :=
  gx_iast (k := 59) hx hb hV hw (by decide) rfl (by rw [gx_upd_u]; rfl) (fun i hi => gx_m2 hi) hF hdg kk
theorem ga_60_ld (hx : p.tables.exec = Jvm.exec) (hb : c.code = cc) (hV : gx_V G s) (hw : gx_at G C (I, V) o d s.heap H locs) {i : Int32} (hF : gx_ck (gx_in i 696) X = some out) (hdg : decode cc pc = .ok (.iaload, 1)) (kk : gx_in i 696 = true → X = some out → W p l e R s m args below meth c H locs cells slots Q (F0 m (pc + 1) ls (.int (V (60) i.toNatClampNeg) :: rest))) : W p l e R s m args below meth c H locs cells slots Q (F0 m pc ls (.int i :: .ref (G.2.1 (60)) :: rest)) :=
  gx_iald (k := 60) hx hb hV hw (by decide) rfl hF hdg kk
theorem ga_60_st (hx : p.tables.exec = Jvm.exec) (hb : c.code = cc) (hV : gx_V G s) (hw : gx_at G C (I, V) o d s.heap H locs) {i x : Int32} (hF : gx_ck (gx_in i 696) X = some out) (hdg : decode cc pc = .ok (.iastore, 1)) (kk : ∀ (H1 : Heap) (locs1 : List Loc), gx_at G C (I, gx_u V (60) i.toNatClampNeg x) o d s.heap H1 locs1 → X = some out → W p l e R s m args below meth c H1 locs1 cells slots Q (F0 m (pc + 1) ls rest)) : W p l e R s m args below meth c H locs cells slots Q (F0 m pc ls (.int x :: .int i :: .ref (G.2.1 (60)) :: rest)) :=
  gx_iast (k := 60) hx hb hV hw (by decide) rfl (by rw [gx_upd_u]; rfl) (fun i hi => gx_m2 hi) hF hdg kk
theorem ga_61_ld (hx : p.tables.exec = Jvm.exec) (hb : c.code = cc) (hV : gx_V G s) (hw : gx_at G C (I, V) o d s.heap H locs) {i : Int32} (hF : gx_ck (gx_in i 87) X = some out) (hdg : decode cc pc = .ok (.iaload, 1)) (kk : gx_in i 87 = true → X = some out → W p l e R s m args below meth c H locs cells slots Q (F0 m (pc + 1) ls (.int (V (61) i.toNatClampNeg) :: rest))) : W p l e R s m args below meth c H locs cells slots Q (F0 m pc ls (.int i :: .ref (G.2.1 (61)) :: rest)) :=
  gx_iald (k := 61) hx hb hV hw (by decide) rfl hF hdg kk
theorem ga_61_st (hx : p.tables.exec = Jvm.exec) (hb : c.code = cc) (hV : gx_V G s) (hw : gx_at G C (I, V) o d s.heap H locs) {i x : Int32} (hF : gx_ck (gx_in i 87) X = some out) (hdg : decode cc pc = .ok (.iastore, 1)) (kk : ∀ (H1 : Heap) (locs1 : List Loc), gx_at G C (I, gx_u V (61) i.toNatClampNeg x) o d s.heap H1 locs1 → X = some out → W p l e R s m args below meth c H1 locs1 cells slots Q (F0 m (pc + 1) ls rest)) : W p l e R s m args below meth c H locs cells slots Q (F0 m pc ls (.int x :: .int i :: .ref (G.2.1 (61)) :: rest)) :=
  gx_iast (k := 61) hx hb hV hw (by decide) rfl (by rw [gx_upd_u]; rfl) (fun i hi => gx_m2 hi) hF hdg kk
theorem ga_62_ld (hx : p.tables.exec = Jvm.exec) (hb : c.code = cc) (hV : gx_V G s) (hw : gx_at G C (I, V) o d s.heap H locs) {i : Int32} (hF : gx_ck (gx_in i 87) X = some out) (hdg : decode cc pc = .ok (.iaload, 1)) (kk : gx_in i 87 = true → X = some out → W p l e R s m args below meth c H locs cells slots Q (F0 m (pc + 1) ls (.int (V (62) i.toNatClampNeg) :: rest))) : W p l e R s m args below meth c H locs cells slots Q (F0 m pc ls (.int i :: .ref (G.2.1 (62)) :: rest)) :=
  gx_iald (k := 62) hx hb hV hw (by decide) rfl hF hdg kk
theorem ga_62_st (hx : p.tables.exec = Jvm.exec) (hb : c.code = cc) (hV : gx_V G s) (hw : gx_at G C (I, V) o d s.heap H locs) {i x : Int32} (hF : gx_ck (gx_in i 87) X = some out) (hdg : decode cc pc = .ok (.iastore, 1)) (kk : ∀ (H1 : Heap) (locs1 : List Loc), gx_at G C (I, gx_u V (62) i.toNatClampNeg x) o d s.heap H1 locs1 → X = some out → W p l e R s m args below meth c H1 locs1 cells slots Q (F0 m (pc + 1) ls rest)) : W p l e R s m args below meth c H locs cells slots Q (F0 m pc ls (.int x :: .int i :: .ref (G.2.1 (62)) :: rest)) :=
  gx_iast (k := 62) hx hb hV hw (by decide) rfl (by rw [gx_upd_u]; rfl) (fun i hi => gx_m2 hi) hF hdg kk
theorem ga_63_ld (hx : p.tables.exec = Jvm.exec) (hb : c.code = cc) (hV : gx_V G s) (hw : gx_at G C (I, V) o d s.heap H locs) {i : Int32} (hF : gx_ck (gx_in i 87) X = some out) (hdg : decode cc pc = .ok (.iaload, 1)) (kk : gx_in i 87 = true → X = some out → W p l e R s m args below meth c H locs cells slots Q (F0 m (pc + 1) ls (.int (V (63) i.toNatClampNeg) :: rest))) : W p l e R s m args below meth c H locs cells slots Q (F0 m pc ls (.int i :: .ref (G.2.1 (63)) :: rest)) :=
  gx_iald (k := 63) hx hb hV hw (by decide) rfl hF hdg kk
theorem ga_63_st (hx : p.tables.exec = Jvm.exec) (hb : c.code = cc) (hV : gx_V G s) (hw : gx_at G C (I, V) o d s.heap H locs) {i x : Int32} (hF : gx_ck (gx_in i 87) X = some out) (hdg : decode cc pc = .ok (.iastore, 1)) (kk : ∀ (H1 : Heap) (locs1 : List Loc), gx_at G C (I, gx_u V (63) i.toNatClampNeg x) o d s.heap H1 locs1 → X = some out → W p l e R s m args below meth c H1 locs1 cells slots Q (F0 m (pc + 1) ls rest)) : W p l e R s m args below meth c H locs cells slots Q (F0 m pc ls (.int x :: .int i :: .ref (G.2.1 (63)) :: rest)) :=
  gx_iast (k := 63) hx hb hV hw (by decide) rfl (by rw [gx_upd_u]; rfl) (fun i hi => gx_m2 hi) hF hdg kk
theorem ga_64_ld (hx : p.tables.exec = Jvm.exec) (hb : c.code = cc) (hV : gx_V G s) (hw : gx_at G C (I, V) o d s.heap H locs) {i : Int32} (hF : gx_ck (gx_in i 60) X = some out) (hdg : decode cc pc = .ok (.iaload, 1)) (kk : gx_in i 60 = true → X = some out → W p l e R s m args below meth c H locs cells slots Q (F0 m (pc + 1) ls (.int (V (64) i.toNatClampNeg) :: rest))) : W p l e R s m args below meth c H locs cells slots Q (F0 m pc ls (.int i :: .ref (G.2.1 (64)) :: rest)) :=
  gx_iald (k := 64) hx hb hV hw (by decide) rfl hF hdg kk
theorem ga_64_st (hx : p.tables.exec = Jvm.exec) (hb : c.code = cc) (hV : gx_V G s) (hw : gx_at G C (I, V) o d s.heap H locs) {i x : Int32} (hF : gx_ck (gx_in i 60) X = some out) (hdg : decode cc pc = .ok (.iastore, 1)) (kk : ∀ (H1 : Heap) (locs1 : List Loc), gx_at G C (I, gx_u V (64) i.toNatClampNeg x) o d s.heap H1 locs1 → X = some out → W p l e R s m args below meth c H1 locs1 cells slots Q (F0 m (pc + 1) ls rest)) : W p l e R s m args below meth c H locs cells slots Q (F0 m pc ls (.int x :: .int i :: .ref (G.2.1 (64)) :: rest)) :=
  gx_iast (k := 64) hx hb hV hw (by decide) rfl (by rw [gx_upd_u]; rfl) (fun i hi => gx_m2 hi) hF hdg kk
theorem ga_65_ld (hx : p.tables.exec = Jvm.exec) (hb : c.code = cc) (hV : gx_V G s) (hw : gx_at G C (I, V) o d s.heap H locs) {i : Int32} (hF : gx_ck (gx_in i 32) X = some out) (hdg : decode cc pc = .ok (.caload, 1)) (kk : gx_in i 32 = true → X = some out → W p l e R s m args below meth c H locs cells slots Q (F0 m (pc + 1) ls (.int (gx_chr (V (65) i.toNatClampNeg)) :: rest))) : W p l e R s m args below meth c H locs cells slots Q (F0 m pc ls (.int i :: .ref (G.2.1 (65)) :: rest)) :=
  gx_cald (k := 65) hx hb hV hw (by decide) rfl hF hdg kk
theorem ga_65_st (hx : p.tables.exec = Jvm.exec) (hb : c.code = cc) (hV : gx_V G s) (hw : gx_at G C (I, V) o d s.heap H locs) {i x : Int32} (hF : gx_ck (gx_in i 32) X = some out) (hdg : decode cc pc = .ok (.castore, 1)) (kk : ∀ (H1 : Heap) (locs1 : List Loc), gx_at G C (I, gx_u V (65) i.toNatClampNeg x) o d s.heap H1 locs1 → X = some out → W p l e R s m args below meth c H1 locs1 cells slots Q (F0 m (pc + 1) ls rest)) : W p l e R s m args below meth c H locs cells slots Q (F0 m pc ls (.int x :: .int i :: .ref (G.2.1 (65)) :: rest)) :=
  gx_cast (k := 65) hx hb hV hw (by decide) rfl (by rw [gx_upd_c]; rfl) (fun i hi => gx_m2 hi) hF hdg kk
theorem ga_66_ld (hx : p.tables.exec = Jvm.exec) (hb : c.code = cc) (hV : gx_V G s) (hw : gx_at G C (I, V) o d s.heap H locs) {i : Int32} (hF : gx_ck (gx_in i 42) X = some out) (hdg : decode cc pc = .ok (.baload, 1)) (kk : gx_in i 42 = true → X = some out → W p l e R s m args below meth c H locs cells slots Q (F0 m (pc + 1) ls (.int (gx_boo (V (66) i.toNatClampNeg)) :: rest))) : W p l e R s m args below meth c H locs cells slots Q (F0 m pc ls (.int i :: .ref (G.2.1 (66)) :: rest)) :=
  gx_zald (k := 66) hx hb hV hw (by decide) rfl hF hdg kk
theorem ga_66_st (hx : p.tables.exec = Jvm.exec) (hb : c.code = cc) (hV : gx_V G s) (hw : gx_at G C (I, V) o d s.heap H locs) {i x : Int32} (hF : gx_ck (gx_in i 42) X = some out) (hdg : decode cc pc = .ok (.bastore, 1)) (kk : ∀ (H1 : Heap) (locs1 : List Loc), gx_at G C (I, gx_u V (66) i.toNatClampNeg x) o d s.heap H1 locs1 → X = some out → W p l e R s m args below meth c H1 locs1 cells slots Q (F0 m (pc + 1) ls rest)) : W p l e R s m args below meth c H locs cells slots Q (F0 m pc ls (.int x :: .int i :: .ref (G.2.1 (66)) :: rest)) :=
  gx_zast (k := 66) hx hb hV hw (by decide) rfl (by rw [gx_upd_z]; rfl) (fun i hi => gx_m2 hi) hF hdg kk
theorem ga_67_ld (hx : p.tables.exec = Jvm.exec) (hb : c.code = cc) (hV : gx_V G s) (hw : gx_at G C (I, V) o d s.heap H locs) {i : Int32} (hF : gx_ck (gx_in i 186) X = some out) (hdg : decode cc pc = .ok (.iaload, 1)) (kk : gx_in i 186 = true → X = some out → W p l e R s m args below meth c H locs cells slots Q (F0 m (pc + 1) ls (.int (V (67) i.toNatClampNeg) :: rest))) : W p l e R s m args below meth c H locs cells slots Q (F0 m pc ls (.int i :: .ref (G.2.1 (67)) :: rest)) :=
  gx_iald (k := 67) hx hb hV hw (by decide) rfl hF hdg kk
theorem ga_67_st (hx : p.tables.exec = Jvm.exec) (hb : c.code = cc) (hV : gx_V G s) (hw : gx_at G C (I, V) o d s.heap H locs) {i x : Int32} (hF : gx_ck (gx_in i 186) X = some out) (hdg : decode cc pc = .ok (.iastore, 1)) (kk : ∀ (H1 : Heap) (locs1 : List Loc), gx_at G C (I, gx_u V (67) i.toNatClampNeg x) o d s.heap H1 locs1 → X = some out → W p l e R s m args below meth c H1 locs1 cells slots Q (F0 m (pc + 1) ls rest)) : W p l e R s m args below meth c H locs cells slots Q (F0 m pc ls (.int x :: .int i :: .ref (G.2.1 (67)) :: rest)) :=
  gx_iast (k := 67) hx hb hV hw (by decide) rfl (by rw [gx_upd_u]; rfl) (fun i hi => gx_m2 hi) hF hdg kk
theorem ga_m_ld (hx : p.tables.exec = Jvm.exec) (hb : c.code = cc) (hV : gx_V G s) (hw : gx_at G C (I, V) o d s.heap H locs) {k : Nat} (hM : gx_isM k) {i : Int32} (hF : gx_ck (gx_in i (gx_mlen k)) X = some out) (hdg : decode cc pc = .ok (.iaload, 1)) (kk : gx_in i (gx_mlen k) = true → X = some out → W p l e R s m args below meth c H locs cells slots Q (F0 m (pc + 1) ls (.int (V (k) i.toNatClampNeg) :: rest))) : W p l e R s m args below meth c H locs cells slots Q (F0 m pc ls (.int i :: .ref (G.2.1 (k)) :: rest)) :=
  gx_iald (k := k) hx hb hV hw (gx_Mk hM) (gc_M hM) hF hdg kk
theorem ga_m_st (hx : p.tables.exec = Jvm.exec) (hb : c.code = cc) (hV : gx_V G s) (hw : gx_at G C (I, V) o d s.heap H locs) {k : Nat} (hM : gx_isM k) {i x : Int32} (hF : gx_ck (gx_in i (gx_mlen k)) X = some out) (hdg : decode cc pc = .ok (.iastore, 1)) (kk : ∀ (H1 : Heap) (locs1 : List Loc), gx_at G C (I, gx_u V (k) i.toNatClampNeg x) o d s.heap H1 locs1 → X = some out → W p l e R s m args below meth c H1 locs1 cells slots Q (F0 m (pc + 1) ls rest)) : W p l e R s m args below meth c H locs cells slots Q (F0 m pc ls (.int x :: .int i :: .ref (G.2.1 (k)) :: rest)) :=
  gx_iast (k := k) hx hb hV hw (gx_Mk hM) (gc_M hM) (by rw [gc_M hM, gx_upd_u]) (fun i hi => gx_m2 hi) hF hdg kk
theorem gx_copy1 (hx : p.tables.exec = Jvm.exec) (hb : c.code = cc) (hml : c.maxLocals = ls.size) (hown : s.vm.findClass own = some m.cls) (hV : gx_V G s) (hw : gx_at G (I, V) M o d s.heap H locs) {k0 k : Nat} (hW0 : gx_isW k0) (hW : gx_isW k) {index : Nat} (hlink : (Cond.methodLink own index arraycopyName).before args s = true) (hnat : (Cond.native arraycopyName).before args s = true) (hstat : (Cond.static arraycopyName).before args s = true) (hini : (Cond.initialized "java/lang/System").before args s = true) (hframes : 1 ≤ R.frames) (hlocals : (rest.map fun v => v.category).sum + (nativeFrameWords "java/lang/System" "arraycopy" 5 + 11) ≤ R.locals) (hdg : decode cc pc = .ok (.invokestatic index, 3))
    (kk : ∀ (H1 : Heap) (locs1 : List Loc), gx_at G (I, gx_cp V (k0 + 1) (k + 1) 0 0 32) M o d s.heap H1 locs1 → W p l e R s m args below meth c H1 locs1 cells slots Q (F0 m (pc + 3) ls rest)) : W p l e R s m args below meth c H locs cells slots Q (F0 m pc ls (.int 32 :: .int 0 :: .ref (G.2.1 (k + 1)) :: .int 0 :: .ref (G.2.1 (k0 + 1)) :: rest)) :=
  va_copyi hx hb hml hown hlink hnat hstat hini hV.2.1 hw.1 (hV.2.2.va _ M o d) hw.2.1 (k0 + 1) (k + 1) 0 0 ((gx_ws_get (gx_Wk1 hW0)).trans (by rw [gc_w1 hW0])) ((gx_ws_get (gx_Wk1 hW)).trans (by rw [gc_w1 hW])) rfl rfl rfl (by decide) (by decide) (by decide) (by decide) (by decide) (fun _ _ => rfl) hframes hlocals hdg
    (fun H1 locs1 hP _ hS => kk H1 locs1 ⟨by rw [gx_ws_set (by rw [gc_w1 hW, gx_cpy_u]) (fun i hi => gx_c2c hi)] at hP; exact hP, hS, hw.2.2⟩)
theorem gx_copy2 (hx : p.tables.exec = Jvm.exec) (hb : c.code = cc) (hml : c.maxLocals = ls.size) (hown : s.vm.findClass own = some m.cls) (hV : gx_V G s) (hw : gx_at G (I, V) M o d s.heap H locs) {k0 k : Nat} (hW0 : gx_isW k0) (hW : gx_isW k) {index : Nat} (hlink : (Cond.methodLink own index arraycopyName).before args s = true) (hnat : (Cond.native arraycopyName).before args s = true) (hstat : (Cond.static arraycopyName).before args s = true) (hini : (Cond.initialized "java/lang/System").before args s = true) (hframes : 1 ≤ R.frames) (hlocals : (rest.map fun v => v.category).sum + (nativeFrameWords "java/lang/System" "arraycopy" 5 + 11) ≤ R.locals) (hdg : decode cc pc = .ok (.invokestatic index, 3))
    (kk : ∀ (H1 : Heap) (locs1 : List Loc), gx_at G (I, gx_cp V (k0 + 2) (k + 2) 0 0 7) M o d s.heap H1 locs1 → W p l e R s m args below meth c H1 locs1 cells slots Q (F0 m (pc + 3) ls rest)) : W p l e R s m args below meth c H locs cells slots Q (F0 m pc ls (.int 7 :: .int 0 :: .ref (G.2.1 (k + 2)) :: .int 0 :: .ref (G.2.1 (k0 + 2)) :: rest)) :=
  va_copyi hx hb hml hown hlink hnat hstat hini hV.2.1 hw.1 (hV.2.2.va _ M o d) hw.2.1 (k0 + 2) (k + 2) 0 0 ((gx_ws_get (gx_Wk2 hW0)).trans (by rw [gc_w2 hW0])) ((gx_ws_get (gx_Wk2 hW)).trans (by rw [gc_w2 hW])) rfl rfl rfl (by decide) (by decide) (by decide) (by decide) (by decide) (fun _ _ => rfl) hframes hlocals hdg
    (fun H1 locs1 hP _ hS => kk H1 locs1 ⟨by rw [gx_ws_set (by rw [gc_w2 hW, gx_cpy_u]) (fun i hi => gx_c2c hi)] at hP; exact hP, hS, hw.2.2⟩)
theorem gx_copy3 (hx : p.tables.exec = Jvm.exec) (hb : c.code = cc) (hml : c.maxLocals = ls.size) (hown : s.vm.findClass own = some m.cls) (hV : gx_V G s) (hw : gx_at G (I, V) M o d s.heap H locs) {k0 k : Nat} (hW0 : gx_isW k0) (hW : gx_isW k) {index : Nat} (hlink : (Cond.methodLink own index arraycopyName).before args s = true) (hnat : (Cond.native arraycopyName).before args s = true) (hstat : (Cond.static arraycopyName).before args s = true) (hini : (Cond.initialized "java/lang/System").before args s = true) (hframes : 1 ≤ R.frames) (hlocals : (rest.map fun v => v.category).sum + (nativeFrameWords "java/lang/System" "arraycopy" 5 + 11) ≤ R.locals) (hdg : decode cc pc = .ok (.invokestatic index, 3))
    (kk : ∀ (H1 : Heap) (locs1 : List Loc), gx_at G (I, gx_cp V (k0 + 3) (k + 3) 0 0 42) M o d s.heap H1 locs1 → W p l e R s m args below meth c H1 locs1 cells slots Q (F0 m (pc + 3) ls rest)) : W p l e R s m args below meth c H locs cells slots Q (F0 m pc ls (.int 42 :: .int 0 :: .ref (G.2.1 (k + 3)) :: .int 0 :: .ref (G.2.1 (k0 + 3)) :: rest)) :=
  va_copyi hx hb hml hown hlink hnat hstat hini hV.2.1 hw.1 (hV.2.2.va _ M o d) hw.2.1 (k0 + 3) (k + 3) 0 0 ((gx_ws_get (gx_Wk3 hW0)).trans (by rw [gc_w3 hW0])) ((gx_ws_get (gx_Wk3 hW)).trans (by rw [gc_w3 hW])) rfl rfl rfl (by decide) (by decide) (by decide) (by decide) (by decide) (fun _ _ => rfl) hframes hlocals hdg
    (fun H1 locs1 hP _ hS => kk H1 locs1 ⟨by rw [gx_ws_set (by rw [gc_w3 hW, gx_cpy_u]) (fun i hi => gx_c2c hi)] at hP; exact hP, hS, hw.2.2⟩)
end GXF
end
