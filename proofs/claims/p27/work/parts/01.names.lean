-- ===== PART A: goes FIRST, ahead of the names: the tables' words, and 'selects' of the private methods out of them =====
/-- a private method of a class that the tables say can be made, by its rows of tables_1 -/
def lw_okq (q : MethodName × Nat) : Prop := (q.1.cls ≠ "java/lang/invoke/MethodHandle" ∧ q.1.cls ≠ "java/lang/invoke/VarHandle") ∧ Cond.instantiable q.1.cls q.2 ∈ tables_1 ∧ Cond.privateMethod q.1 ∈ tables_1 ∧ Cond.instanceMethod q.1 ∈ tables_1
theorem lw_p0 : lw_okq (⟨"LittleMore$Text", "takes", "(C)Z"⟩, 9) := ⟨⟨by decide +kernel, by decide +kernel⟩, List.mem_of_getElem? (i := 236) (by decide +kernel), List.mem_of_getElem? (i := 454) (by decide +kernel), List.mem_of_getElem? (i := 455) (by decide +kernel)⟩
theorem lw_p1 : lw_okq (⟨"LittleMore$Text", "signAt", "(I)I"⟩, 9) := ⟨⟨by decide +kernel, by decide +kernel⟩, List.mem_of_getElem? (i := 236) (by decide +kernel), List.mem_of_getElem? (i := 458) (by decide +kernel), List.mem_of_getElem? (i := 459) (by decide +kernel)⟩
theorem lw_p2 : lw_okq (⟨"LittleMore$Text", "readClause", "()Z"⟩, 9) := ⟨⟨by decide +kernel, by decide +kernel⟩, List.mem_of_getElem? (i := 236) (by decide +kernel), List.mem_of_getElem? (i := 462) (by decide +kernel), List.mem_of_getElem? (i := 463) (by decide +kernel)⟩
theorem lw_p3 : lw_okq (⟨"LittleMore$Text", "readWord", "()I"⟩, 9) := ⟨⟨by decide +kernel, by decide +kernel⟩, List.mem_of_getElem? (i := 236) (by decide +kernel), List.mem_of_getElem? (i := 466) (by decide +kernel), List.mem_of_getElem? (i := 467) (by decide +kernel)⟩
theorem lw_p4 : lw_okq (⟨"LittleMore$Text", "howManyAlike", "(Ljava/lang/String;)I"⟩, 9) := ⟨⟨by decide +kernel, by decide +kernel⟩, List.mem_of_getElem? (i := 236) (by decide +kernel), List.mem_of_getElem? (i := 477) (by decide +kernel), List.mem_of_getElem? (i := 478) (by decide +kernel)⟩
theorem lw_p5 : lw_okq (⟨"LittleMore$Text", "readNumber", "()Z"⟩, 9) := ⟨⟨by decide +kernel, by decide +kernel⟩, List.mem_of_getElem? (i := 236) (by decide +kernel), List.mem_of_getElem? (i := 530) (by decide +kernel), List.mem_of_getElem? (i := 531) (by decide +kernel)⟩
theorem lw_p6 : lw_okq (⟨"LittleMore$Text", "readAny", "(I)Z"⟩, 9) := ⟨⟨by decide +kernel, by decide +kernel⟩, List.mem_of_getElem? (i := 236) (by decide +kernel), List.mem_of_getElem? (i := 537) (by decide +kernel), List.mem_of_getElem? (i := 538) (by decide +kernel)⟩
theorem lw_p7 : lw_okq (⟨"LittleMore$Text", "readAll", "(I)Z"⟩, 9) := ⟨⟨by decide +kernel, by decide +kernel⟩, List.mem_of_getElem? (i := 236) (by decide +kernel), List.mem_of_getElem? (i := 541) (by decide +kernel), List.mem_of_getElem? (i := 542) (by decide +kernel)⟩
theorem lw_p8 : lw_okq (⟨"LittleMore$Text", "readOne", "(I)Z"⟩, 9) := ⟨⟨by decide +kernel, by decide +kernel⟩, List.mem_of_getElem? (i := 236) (by decide +kernel), List.mem_of_getElem? (i := 545) (by decide +kernel), List.mem_of_getElem? (i := 546) (by decide +kernel)⟩
theorem lw_p9 : lw_okq (⟨"LittleMore$Text", "putCode", "(II)Z"⟩, 9) := ⟨⟨by decide +kernel, by decide +kernel⟩, List.mem_of_getElem? (i := 236) (by decide +kernel), List.mem_of_getElem? (i := 549) (by decide +kernel), List.mem_of_getElem? (i := 550) (by decide +kernel)⟩
theorem lw_p10 : lw_okq (⟨"LittleMore$Text", "takesOneOf", "(Ljava/lang/String;)I"⟩, 9) := ⟨⟨by decide +kernel, by decide +kernel⟩, List.mem_of_getElem? (i := 236) (by decide +kernel), List.mem_of_getElem? (i := 554) (by decide +kernel), List.mem_of_getElem? (i := 555) (by decide +kernel)⟩
theorem lw_p11 : lw_okq (⟨"LittleMore", "shopToTry", "()LLittleMore$Shop;"⟩, 11) := ⟨⟨by decide +kernel, by decide +kernel⟩, List.mem_of_getElem? (i := 31) (by decide +kernel), List.mem_of_getElem? (i := 692) (by decide +kernel), List.mem_of_getElem? (i := 693) (by decide +kernel)⟩
theorem lw_p12 : lw_okq (⟨"LittleMore", "paidWith", "(II)I"⟩, 11) := ⟨⟨by decide +kernel, by decide +kernel⟩, List.mem_of_getElem? (i := 31) (by decide +kernel), List.mem_of_getElem? (i := 723) (by decide +kernel), List.mem_of_getElem? (i := 724) (by decide +kernel)⟩
theorem lw_p13 : lw_okq (⟨"LittleMore", "shopBehind", "(I)LLittleMore$Shop;"⟩, 11) := ⟨⟨by decide +kernel, by decide +kernel⟩, List.mem_of_getElem? (i := 31) (by decide +kernel), List.mem_of_getElem? (i := 744) (by decide +kernel), List.mem_of_getElem? (i := 745) (by decide +kernel)⟩
theorem lw_p14 : lw_okq (⟨"LittleMore", "isSeenWith", "(II)Z"⟩, 11) := ⟨⟨by decide +kernel, by decide +kernel⟩, List.mem_of_getElem? (i := 31) (by decide +kernel), List.mem_of_getElem? (i := 777) (by decide +kernel), List.mem_of_getElem? (i := 778) (by decide +kernel)⟩
theorem lw_p15 : lw_okq (⟨"java/util/ArrayList", "add", "(Ljava/lang/Object;[Ljava/lang/Object;I)V"⟩, 3) := ⟨⟨by decide +kernel, by decide +kernel⟩, List.mem_of_getElem? (i := 279) (by decide +kernel), List.mem_of_getElem? (i := 874) (by decide +kernel), List.mem_of_getElem? (i := 875) (by decide +kernel)⟩
def lw_privs_1 : List (MethodName × Nat) := [(⟨"LittleMore$Text", "takes", "(C)Z"⟩, 9), (⟨"LittleMore$Text", "signAt", "(I)I"⟩, 9), (⟨"LittleMore$Text", "readClause", "()Z"⟩, 9), (⟨"LittleMore$Text", "readWord", "()I"⟩, 9), (⟨"LittleMore$Text", "howManyAlike", "(Ljava/lang/String;)I"⟩, 9), (⟨"LittleMore$Text", "readNumber", "()Z"⟩, 9), (⟨"LittleMore$Text", "readAny", "(I)Z"⟩, 9), (⟨"LittleMore$Text", "readAll", "(I)Z"⟩, 9), (⟨"LittleMore$Text", "readOne", "(I)Z"⟩, 9), (⟨"LittleMore$Text", "putCode", "(II)Z"⟩, 9), (⟨"LittleMore$Text", "takesOneOf", "(Ljava/lang/String;)I"⟩, 9), (⟨"LittleMore", "shopToTry", "()LLittleMore$Shop;"⟩, 11), (⟨"LittleMore", "paidWith", "(II)I"⟩, 11), (⟨"LittleMore", "shopBehind", "(I)LLittleMore$Shop;"⟩, 11), (⟨"LittleMore", "isSeenWith", "(II)Z"⟩, 11), (⟨"java/util/ArrayList", "add", "(Ljava/lang/Object;[Ljava/lang/Object;I)V"⟩, 3)]
theorem lw_r1 : ∀ q ∈ lw_privs_1, lw_okq q := List.forall_mem_cons.mpr ⟨lw_p0, List.forall_mem_cons.mpr ⟨lw_p1, List.forall_mem_cons.mpr ⟨lw_p2, List.forall_mem_cons.mpr ⟨lw_p3, List.forall_mem_cons.mpr ⟨lw_p4, List.forall_mem_cons.mpr ⟨lw_p5, List.forall_mem_cons.mpr ⟨lw_p6, List.forall_mem_cons.mpr ⟨lw_p7, List.forall_mem_cons.mpr ⟨lw_p8, List.forall_mem_cons.mpr ⟨lw_p9, List.forall_mem_cons.mpr ⟨lw_p10, List.forall_mem_cons.mpr ⟨lw_p11, List.forall_mem_cons.mpr ⟨lw_p12, List.forall_mem_cons.mpr ⟨lw_p13, List.forall_mem_cons.mpr ⟨lw_p14, List.forall_mem_cons.mpr ⟨lw_p15, fun _ h => absurd h List.not_mem_nil⟩⟩⟩⟩⟩⟩⟩⟩⟩⟩⟩⟩⟩⟩⟩⟩
theorem lw_p16 : lw_okq (⟨"java/util/ArrayList", "grow", "()[Ljava/lang/Object;"⟩, 3) := ⟨⟨by decide +kernel, by decide +kernel⟩, List.mem_of_getElem? (i := 279) (by decide +kernel), List.mem_of_getElem? (i := 878) (by decide +kernel), List.mem_of_getElem? (i := 879) (by decide +kernel)⟩
theorem lw_p17 : lw_okq (⟨"java/util/ArrayList", "grow", "(I)[Ljava/lang/Object;"⟩, 3) := ⟨⟨by decide +kernel, by decide +kernel⟩, List.mem_of_getElem? (i := 279) (by decide +kernel), List.mem_of_getElem? (i := 882) (by decide +kernel), List.mem_of_getElem? (i := 883) (by decide +kernel)⟩
theorem lw_p18 : lw_okq (⟨"LittleMoreModel", "carryAll", "([IZ)V"⟩, 49) := ⟨⟨by decide +kernel, by decide +kernel⟩, List.mem_of_getElem? (i := 1056) (by decide +kernel), List.mem_of_getElem? (i := 1215) (by decide +kernel), List.mem_of_getElem? (i := 1216) (by decide +kernel)⟩
theorem lw_p19 : lw_okq (⟨"LittleMoreModel", "carry", "(I)I"⟩, 49) := ⟨⟨by decide +kernel, by decide +kernel⟩, List.mem_of_getElem? (i := 1056) (by decide +kernel), List.mem_of_getElem? (i := 1219) (by decide +kernel), List.mem_of_getElem? (i := 1220) (by decide +kernel)⟩
theorem lw_p20 : lw_okq (⟨"LittleMoreModel", "readClause", "(I)V"⟩, 49) := ⟨⟨by decide +kernel, by decide +kernel⟩, List.mem_of_getElem? (i := 1056) (by decide +kernel), List.mem_of_getElem? (i := 1239) (by decide +kernel), List.mem_of_getElem? (i := 1240) (by decide +kernel)⟩
theorem lw_p21 : lw_okq (⟨"LittleMoreModel", "readWord", "()I"⟩, 49) := ⟨⟨by decide +kernel, by decide +kernel⟩, List.mem_of_getElem? (i := 1056) (by decide +kernel), List.mem_of_getElem? (i := 1243) (by decide +kernel), List.mem_of_getElem? (i := 1244) (by decide +kernel)⟩
theorem lw_p22 : lw_okq (⟨"LittleMoreModel", "here", "()I"⟩, 49) := ⟨⟨by decide +kernel, by decide +kernel⟩, List.mem_of_getElem? (i := 1056) (by decide +kernel), List.mem_of_getElem? (i := 1247) (by decide +kernel), List.mem_of_getElem? (i := 1248) (by decide +kernel)⟩
theorem lw_p23 : lw_okq (⟨"LittleMoreModel", "takeAll", "(J)V"⟩, 49) := ⟨⟨by decide +kernel, by decide +kernel⟩, List.mem_of_getElem? (i := 1056) (by decide +kernel), List.mem_of_getElem? (i := 1253) (by decide +kernel), List.mem_of_getElem? (i := 1254) (by decide +kernel)⟩
theorem lw_p24 : lw_okq (⟨"LittleMoreModel", "take", "(I)V"⟩, 49) := ⟨⟨by decide +kernel, by decide +kernel⟩, List.mem_of_getElem? (i := 1056) (by decide +kernel), List.mem_of_getElem? (i := 1258) (by decide +kernel), List.mem_of_getElem? (i := 1259) (by decide +kernel)⟩
theorem lw_p25 : lw_okq (⟨"LittleMoreModel", "readNumber", "()I"⟩, 49) := ⟨⟨by decide +kernel, by decide +kernel⟩, List.mem_of_getElem? (i := 1056) (by decide +kernel), List.mem_of_getElem? (i := 1264) (by decide +kernel), List.mem_of_getElem? (i := 1265) (by decide +kernel)⟩
theorem lw_p26 : lw_okq (⟨"LittleMoreModel", "readDigit", "()I"⟩, 49) := ⟨⟨by decide +kernel, by decide +kernel⟩, List.mem_of_getElem? (i := 1056) (by decide +kernel), List.mem_of_getElem? (i := 1268) (by decide +kernel), List.mem_of_getElem? (i := 1269) (by decide +kernel)⟩
theorem lw_p27 : lw_okq (⟨"LittleMoreModel", "readExpression", "()V"⟩, 49) := ⟨⟨by decide +kernel, by decide +kernel⟩, List.mem_of_getElem? (i := 1056) (by decide +kernel), List.mem_of_getElem? (i := 1274) (by decide +kernel), List.mem_of_getElem? (i := 1275) (by decide +kernel)⟩
theorem lw_p28 : lw_okq (⟨"LittleMoreModel", "readOpening", "(I)V"⟩, 49) := ⟨⟨by decide +kernel, by decide +kernel⟩, List.mem_of_getElem? (i := 1056) (by decide +kernel), List.mem_of_getElem? (i := 1278) (by decide +kernel), List.mem_of_getElem? (i := 1279) (by decide +kernel)⟩
theorem lw_p29 : lw_okq (⟨"LittleMoreModel", "readTest", "()V"⟩, 49) := ⟨⟨by decide +kernel, by decide +kernel⟩, List.mem_of_getElem? (i := 1056) (by decide +kernel), List.mem_of_getElem? (i := 1282) (by decide +kernel), List.mem_of_getElem? (i := 1283) (by decide +kernel)⟩
theorem lw_p30 : lw_okq (⟨"LittleMoreModel", "factorEnds", "()V"⟩, 49) := ⟨⟨by decide +kernel, by decide +kernel⟩, List.mem_of_getElem? (i := 1056) (by decide +kernel), List.mem_of_getElem? (i := 1291) (by decide +kernel), List.mem_of_getElem? (i := 1292) (by decide +kernel)⟩
theorem lw_p31 : lw_okq (⟨"LittleMoreModel", "put", "(III)V"⟩, 49) := ⟨⟨by decide +kernel, by decide +kernel⟩, List.mem_of_getElem? (i := 1056) (by decide +kernel), List.mem_of_getElem? (i := 1303) (by decide +kernel), List.mem_of_getElem? (i := 1304) (by decide +kernel)⟩
def lw_privs_2 : List (MethodName × Nat) := [(⟨"java/util/ArrayList", "grow", "()[Ljava/lang/Object;"⟩, 3), (⟨"java/util/ArrayList", "grow", "(I)[Ljava/lang/Object;"⟩, 3), (⟨"LittleMoreModel", "carryAll", "([IZ)V"⟩, 49), (⟨"LittleMoreModel", "carry", "(I)I"⟩, 49), (⟨"LittleMoreModel", "readClause", "(I)V"⟩, 49), (⟨"LittleMoreModel", "readWord", "()I"⟩, 49), (⟨"LittleMoreModel", "here", "()I"⟩, 49), (⟨"LittleMoreModel", "takeAll", "(J)V"⟩, 49), (⟨"LittleMoreModel", "take", "(I)V"⟩, 49), (⟨"LittleMoreModel", "readNumber", "()I"⟩, 49), (⟨"LittleMoreModel", "readDigit", "()I"⟩, 49), (⟨"LittleMoreModel", "readExpression", "()V"⟩, 49), (⟨"LittleMoreModel", "readOpening", "(I)V"⟩, 49), (⟨"LittleMoreModel", "readTest", "()V"⟩, 49), (⟨"LittleMoreModel", "factorEnds", "()V"⟩, 49), (⟨"LittleMoreModel", "put", "(III)V"⟩, 49)]
theorem lw_r2 : ∀ q ∈ lw_privs_2, lw_okq q := List.forall_mem_cons.mpr ⟨lw_p16, List.forall_mem_cons.mpr ⟨lw_p17, List.forall_mem_cons.mpr ⟨lw_p18, List.forall_mem_cons.mpr ⟨lw_p19, List.forall_mem_cons.mpr ⟨lw_p20, List.forall_mem_cons.mpr ⟨lw_p21, List.forall_mem_cons.mpr ⟨lw_p22, List.forall_mem_cons.mpr ⟨lw_p23, List.forall_mem_cons.mpr ⟨lw_p24, List.forall_mem_cons.mpr ⟨lw_p25, List.forall_mem_cons.mpr ⟨lw_p26, List.forall_mem_cons.mpr ⟨lw_p27, List.forall_mem_cons.mpr ⟨lw_p28, List.forall_mem_cons.mpr ⟨lw_p29, List.forall_mem_cons.mpr ⟨lw_p30, List.forall_mem_cons.mpr ⟨lw_p31, fun _ h => absurd h List.not_mem_nil⟩⟩⟩⟩⟩⟩⟩⟩⟩⟩⟩⟩⟩⟩⟩⟩
theorem lw_p32 : lw_okq (⟨"LittleMoreModel", "isCustomer", "(I)Z"⟩, 49) := ⟨⟨by decide +kernel, by decide +kernel⟩, List.mem_of_getElem? (i := 1056) (by decide +kernel), List.mem_of_getElem? (i := 1311) (by decide +kernel), List.mem_of_getElem? (i := 1312) (by decide +kernel)⟩
theorem lw_p33 : lw_okq (⟨"LittleMoreModel", "moreOf", "(I)I"⟩, 49) := ⟨⟨by decide +kernel, by decide +kernel⟩, List.mem_of_getElem? (i := 1056) (by decide +kernel), List.mem_of_getElem? (i := 1316) (by decide +kernel), List.mem_of_getElem? (i := 1317) (by decide +kernel)⟩
theorem lw_p34 : lw_okq (⟨"LittleMoreModel", "of0", "(II)I"⟩, 49) := ⟨⟨by decide +kernel, by decide +kernel⟩, List.mem_of_getElem? (i := 1056) (by decide +kernel), List.mem_of_getElem? (i := 1320) (by decide +kernel), List.mem_of_getElem? (i := 1321) (by decide +kernel)⟩
theorem lw_p35 : lw_okq (⟨"LittleMoreModel", "holds", "(II)Z"⟩, 49) := ⟨⟨by decide +kernel, by decide +kernel⟩, List.mem_of_getElem? (i := 1056) (by decide +kernel), List.mem_of_getElem? (i := 1324) (by decide +kernel), List.mem_of_getElem? (i := 1325) (by decide +kernel)⟩
theorem lw_p36 : lw_okq (⟨"LittleMoreModel", "openLevel", "(I)V"⟩, 49) := ⟨⟨by decide +kernel, by decide +kernel⟩, List.mem_of_getElem? (i := 1056) (by decide +kernel), List.mem_of_getElem? (i := 1328) (by decide +kernel), List.mem_of_getElem? (i := 1329) (by decide +kernel)⟩
theorem lw_p37 : lw_okq (⟨"LittleMoreModel", "sign", "(I)I"⟩, 49) := ⟨⟨by decide +kernel, by decide +kernel⟩, List.mem_of_getElem? (i := 1056) (by decide +kernel), List.mem_of_getElem? (i := 1332) (by decide +kernel), List.mem_of_getElem? (i := 1333) (by decide +kernel)⟩
theorem lw_p38 : lw_okq (⟨"LittleMoreModel", "factorIs", "(IZ)V"⟩, 49) := ⟨⟨by decide +kernel, by decide +kernel⟩, List.mem_of_getElem? (i := 1056) (by decide +kernel), List.mem_of_getElem? (i := 1336) (by decide +kernel), List.mem_of_getElem? (i := 1337) (by decide +kernel)⟩
theorem lw_p39 : lw_okq (⟨"LittleMoreModel", "tested", "(II)I"⟩, 49) := ⟨⟨by decide +kernel, by decide +kernel⟩, List.mem_of_getElem? (i := 1056) (by decide +kernel), List.mem_of_getElem? (i := 1340) (by decide +kernel), List.mem_of_getElem? (i := 1341) (by decide +kernel)⟩
theorem lw_p40 : lw_okq (⟨"LittleMoreModel", "asksOf", "(I)I"⟩, 49) := ⟨⟨by decide +kernel, by decide +kernel⟩, List.mem_of_getElem? (i := 1056) (by decide +kernel), List.mem_of_getElem? (i := 1344) (by decide +kernel), List.mem_of_getElem? (i := 1345) (by decide +kernel)⟩
theorem lw_p41 : lw_okq (⟨"LittleMoreModel", "letsOf", "(I)I"⟩, 49) := ⟨⟨by decide +kernel, by decide +kernel⟩, List.mem_of_getElem? (i := 1056) (by decide +kernel), List.mem_of_getElem? (i := 1351) (by decide +kernel), List.mem_of_getElem? (i := 1352) (by decide +kernel)⟩
theorem lw_p42 : lw_okq (⟨"LittleMoreModel", "saysNo", "(I)Z"⟩, 49) := ⟨⟨by decide +kernel, by decide +kernel⟩, List.mem_of_getElem? (i := 1056) (by decide +kernel), List.mem_of_getElem? (i := 1355) (by decide +kernel), List.mem_of_getElem? (i := 1356) (by decide +kernel)⟩
theorem lw_p43 : lw_okq (⟨"LittleMoreModel", "lastOf", "(II)I"⟩, 49) := ⟨⟨by decide +kernel, by decide +kernel⟩, List.mem_of_getElem? (i := 1056) (by decide +kernel), List.mem_of_getElem? (i := 1381) (by decide +kernel), List.mem_of_getElem? (i := 1382) (by decide +kernel)⟩
theorem lw_p44 : lw_okq (⟨"LittleMoreModel", "goneBits", "()I"⟩, 49) := ⟨⟨by decide +kernel, by decide +kernel⟩, List.mem_of_getElem? (i := 1056) (by decide +kernel), List.mem_of_getElem? (i := 1385) (by decide +kernel), List.mem_of_getElem? (i := 1386) (by decide +kernel)⟩
theorem lw_p45 : lw_okq (⟨"LittleMoreModel", "isGone", "(I)Z"⟩, 49) := ⟨⟨by decide +kernel, by decide +kernel⟩, List.mem_of_getElem? (i := 1056) (by decide +kernel), List.mem_of_getElem? (i := 1393) (by decide +kernel), List.mem_of_getElem? (i := 1394) (by decide +kernel)⟩
theorem lw_p46 : lw_okq (⟨"LittleMoreModel", "visitOne", "(I)V"⟩, 49) := ⟨⟨by decide +kernel, by decide +kernel⟩, List.mem_of_getElem? (i := 1056) (by decide +kernel), List.mem_of_getElem? (i := 1397) (by decide +kernel), List.mem_of_getElem? (i := 1398) (by decide +kernel)⟩
theorem lw_p47 : lw_okq (⟨"LittleMoreModel", "saturdaysOn", "(I)V"⟩, 49) := ⟨⟨by decide +kernel, by decide +kernel⟩, List.mem_of_getElem? (i := 1056) (by decide +kernel), List.mem_of_getElem? (i := 1405) (by decide +kernel), List.mem_of_getElem? (i := 1406) (by decide +kernel)⟩
def lw_privs_3 : List (MethodName × Nat) := [(⟨"LittleMoreModel", "isCustomer", "(I)Z"⟩, 49), (⟨"LittleMoreModel", "moreOf", "(I)I"⟩, 49), (⟨"LittleMoreModel", "of0", "(II)I"⟩, 49), (⟨"LittleMoreModel", "holds", "(II)Z"⟩, 49), (⟨"LittleMoreModel", "openLevel", "(I)V"⟩, 49), (⟨"LittleMoreModel", "sign", "(I)I"⟩, 49), (⟨"LittleMoreModel", "factorIs", "(IZ)V"⟩, 49), (⟨"LittleMoreModel", "tested", "(II)I"⟩, 49), (⟨"LittleMoreModel", "asksOf", "(I)I"⟩, 49), (⟨"LittleMoreModel", "letsOf", "(I)I"⟩, 49), (⟨"LittleMoreModel", "saysNo", "(I)Z"⟩, 49), (⟨"LittleMoreModel", "lastOf", "(II)I"⟩, 49), (⟨"LittleMoreModel", "goneBits", "()I"⟩, 49), (⟨"LittleMoreModel", "isGone", "(I)Z"⟩, 49), (⟨"LittleMoreModel", "visitOne", "(I)V"⟩, 49), (⟨"LittleMoreModel", "saturdaysOn", "(I)V"⟩, 49)]
theorem lw_r3 : ∀ q ∈ lw_privs_3, lw_okq q := List.forall_mem_cons.mpr ⟨lw_p32, List.forall_mem_cons.mpr ⟨lw_p33, List.forall_mem_cons.mpr ⟨lw_p34, List.forall_mem_cons.mpr ⟨lw_p35, List.forall_mem_cons.mpr ⟨lw_p36, List.forall_mem_cons.mpr ⟨lw_p37, List.forall_mem_cons.mpr ⟨lw_p38, List.forall_mem_cons.mpr ⟨lw_p39, List.forall_mem_cons.mpr ⟨lw_p40, List.forall_mem_cons.mpr ⟨lw_p41, List.forall_mem_cons.mpr ⟨lw_p42, List.forall_mem_cons.mpr ⟨lw_p43, List.forall_mem_cons.mpr ⟨lw_p44, List.forall_mem_cons.mpr ⟨lw_p45, List.forall_mem_cons.mpr ⟨lw_p46, List.forall_mem_cons.mpr ⟨lw_p47, fun _ h => absurd h List.not_mem_nil⟩⟩⟩⟩⟩⟩⟩⟩⟩⟩⟩⟩⟩⟩⟩⟩
theorem lw_p48 : lw_okq (⟨"LittleMoreModel", "saturdayOn", "()V"⟩, 49) := ⟨⟨by decide +kernel, by decide +kernel⟩, List.mem_of_getElem? (i := 1056) (by decide +kernel), List.mem_of_getElem? (i := 1409) (by decide +kernel), List.mem_of_getElem? (i := 1410) (by decide +kernel)⟩
theorem lw_p49 : lw_okq (⟨"LittleMoreModel", "open", "()V"⟩, 49) := ⟨⟨by decide +kernel, by decide +kernel⟩, List.mem_of_getElem? (i := 1056) (by decide +kernel), List.mem_of_getElem? (i := 1419) (by decide +kernel), List.mem_of_getElem? (i := 1420) (by decide +kernel)⟩
theorem lw_p50 : lw_okq (⟨"LittleMoreModel", "buysIn", "(II)I"⟩, 49) := ⟨⟨by decide +kernel, by decide +kernel⟩, List.mem_of_getElem? (i := 1056) (by decide +kernel), List.mem_of_getElem? (i := 1423) (by decide +kernel), List.mem_of_getElem? (i := 1424) (by decide +kernel)⟩
theorem lw_p51 : lw_okq (⟨"LittleMoreModel", "close", "()V"⟩, 49) := ⟨⟨by decide +kernel, by decide +kernel⟩, List.mem_of_getElem? (i := 1056) (by decide +kernel), List.mem_of_getElem? (i := 1427) (by decide +kernel), List.mem_of_getElem? (i := 1428) (by decide +kernel)⟩
theorem lw_p52 : lw_okq (⟨"LittleMoreModel", "again", "()V"⟩, 49) := ⟨⟨by decide +kernel, by decide +kernel⟩, List.mem_of_getElem? (i := 1056) (by decide +kernel), List.mem_of_getElem? (i := 1442) (by decide +kernel), List.mem_of_getElem? (i := 1443) (by decide +kernel)⟩
theorem lw_p53 : lw_okq (⟨"LittleMoreModel", "nobodySaysNo", "()Z"⟩, 49) := ⟨⟨by decide +kernel, by decide +kernel⟩, List.mem_of_getElem? (i := 1056) (by decide +kernel), List.mem_of_getElem? (i := 1454) (by decide +kernel), List.mem_of_getElem? (i := 1455) (by decide +kernel)⟩
theorem lw_p54 : lw_okq (⟨"LittleMoreModel", "areSeen", "(I)Z"⟩, 49) := ⟨⟨by decide +kernel, by decide +kernel⟩, List.mem_of_getElem? (i := 1056) (by decide +kernel), List.mem_of_getElem? (i := 1481) (by decide +kernel), List.mem_of_getElem? (i := 1482) (by decide +kernel)⟩
theorem lw_p55 : lw_okq (⟨"LittleMoreModel", "asksBy", "(I)I"⟩, 49) := ⟨⟨by decide +kernel, by decide +kernel⟩, List.mem_of_getElem? (i := 1056) (by decide +kernel), List.mem_of_getElem? (i := 1517) (by decide +kernel), List.mem_of_getElem? (i := 1518) (by decide +kernel)⟩
theorem lw_p56 : lw_okq (⟨"LittleMoreModel", "asksGentle", "(I)I"⟩, 49) := ⟨⟨by decide +kernel, by decide +kernel⟩, List.mem_of_getElem? (i := 1056) (by decide +kernel), List.mem_of_getElem? (i := 1521) (by decide +kernel), List.mem_of_getElem? (i := 1522) (by decide +kernel)⟩
theorem lw_p57 : lw_okq (⟨"LittleMoreModel", "note", "(I)V"⟩, 49) := ⟨⟨by decide +kernel, by decide +kernel⟩, List.mem_of_getElem? (i := 1056) (by decide +kernel), List.mem_of_getElem? (i := 1525) (by decide +kernel), List.mem_of_getElem? (i := 1526) (by decide +kernel)⟩
theorem lw_p58 : lw_okq (⟨"LittleMoreModel", "asksPlain", "(I)I"⟩, 49) := ⟨⟨by decide +kernel, by decide +kernel⟩, List.mem_of_getElem? (i := 1056) (by decide +kernel), List.mem_of_getElem? (i := 1529) (by decide +kernel), List.mem_of_getElem? (i := 1530) (by decide +kernel)⟩
theorem lw_p59 : lw_okq (⟨"LittleMoreModel", "asksCounting", "(I)I"⟩, 49) := ⟨⟨by decide +kernel, by decide +kernel⟩, List.mem_of_getElem? (i := 1056) (by decide +kernel), List.mem_of_getElem? (i := 1533) (by decide +kernel), List.mem_of_getElem? (i := 1534) (by decide +kernel)⟩
theorem lw_p60 : lw_okq (⟨"LittleMoreModel", "asksTold", "(I)I"⟩, 49) := ⟨⟨by decide +kernel, by decide +kernel⟩, List.mem_of_getElem? (i := 1056) (by decide +kernel), List.mem_of_getElem? (i := 1537) (by decide +kernel), List.mem_of_getElem? (i := 1538) (by decide +kernel)⟩
theorem lw_p61 : lw_okq (⟨"LittleMoreModel", "buysBy", "(I)I"⟩, 49) := ⟨⟨by decide +kernel, by decide +kernel⟩, List.mem_of_getElem? (i := 1056) (by decide +kernel), List.mem_of_getElem? (i := 1541) (by decide +kernel), List.mem_of_getElem? (i := 1542) (by decide +kernel)⟩
theorem lw_p62 : lw_okq (⟨"LittleMoreModel", "buysStrict", "(I)I"⟩, 49) := ⟨⟨by decide +kernel, by decide +kernel⟩, List.mem_of_getElem? (i := 1056) (by decide +kernel), List.mem_of_getElem? (i := 1545) (by decide +kernel), List.mem_of_getElem? (i := 1546) (by decide +kernel)⟩
theorem lw_p63 : lw_okq (⟨"LittleMoreModel", "buysPlain", "(I)I"⟩, 49) := ⟨⟨by decide +kernel, by decide +kernel⟩, List.mem_of_getElem? (i := 1056) (by decide +kernel), List.mem_of_getElem? (i := 1549) (by decide +kernel), List.mem_of_getElem? (i := 1550) (by decide +kernel)⟩
def lw_privs_4 : List (MethodName × Nat) := [(⟨"LittleMoreModel", "saturdayOn", "()V"⟩, 49), (⟨"LittleMoreModel", "open", "()V"⟩, 49), (⟨"LittleMoreModel", "buysIn", "(II)I"⟩, 49), (⟨"LittleMoreModel", "close", "()V"⟩, 49), (⟨"LittleMoreModel", "again", "()V"⟩, 49), (⟨"LittleMoreModel", "nobodySaysNo", "()Z"⟩, 49), (⟨"LittleMoreModel", "areSeen", "(I)Z"⟩, 49), (⟨"LittleMoreModel", "asksBy", "(I)I"⟩, 49), (⟨"LittleMoreModel", "asksGentle", "(I)I"⟩, 49), (⟨"LittleMoreModel", "note", "(I)V"⟩, 49), (⟨"LittleMoreModel", "asksPlain", "(I)I"⟩, 49), (⟨"LittleMoreModel", "asksCounting", "(I)I"⟩, 49), (⟨"LittleMoreModel", "asksTold", "(I)I"⟩, 49), (⟨"LittleMoreModel", "buysBy", "(I)I"⟩, 49), (⟨"LittleMoreModel", "buysStrict", "(I)I"⟩, 49), (⟨"LittleMoreModel", "buysPlain", "(I)I"⟩, 49)]
theorem lw_r4 : ∀ q ∈ lw_privs_4, lw_okq q := List.forall_mem_cons.mpr ⟨lw_p48, List.forall_mem_cons.mpr ⟨lw_p49, List.forall_mem_cons.mpr ⟨lw_p50, List.forall_mem_cons.mpr ⟨lw_p51, List.forall_mem_cons.mpr ⟨lw_p52, List.forall_mem_cons.mpr ⟨lw_p53, List.forall_mem_cons.mpr ⟨lw_p54, List.forall_mem_cons.mpr ⟨lw_p55, List.forall_mem_cons.mpr ⟨lw_p56, List.forall_mem_cons.mpr ⟨lw_p57, List.forall_mem_cons.mpr ⟨lw_p58, List.forall_mem_cons.mpr ⟨lw_p59, List.forall_mem_cons.mpr ⟨lw_p60, List.forall_mem_cons.mpr ⟨lw_p61, List.forall_mem_cons.mpr ⟨lw_p62, List.forall_mem_cons.mpr ⟨lw_p63, fun _ h => absurd h List.not_mem_nil⟩⟩⟩⟩⟩⟩⟩⟩⟩⟩⟩⟩⟩⟩⟩⟩
theorem lw_p64 : lw_okq (⟨"LittleMoreModel", "buysCounting", "(I)I"⟩, 49) := ⟨⟨by decide +kernel, by decide +kernel⟩, List.mem_of_getElem? (i := 1056) (by decide +kernel), List.mem_of_getElem? (i := 1553) (by decide +kernel), List.mem_of_getElem? (i := 1554) (by decide +kernel)⟩
theorem lw_p65 : lw_okq (⟨"LittleMoreModel", "buysTold", "(I)I"⟩, 49) := ⟨⟨by decide +kernel, by decide +kernel⟩, List.mem_of_getElem? (i := 1056) (by decide +kernel), List.mem_of_getElem? (i := 1557) (by decide +kernel), List.mem_of_getElem? (i := 1558) (by decide +kernel)⟩
theorem lw_p66 : lw_okq (⟨"LittleMoreModel", "tellsBy", "(I)I"⟩, 49) := ⟨⟨by decide +kernel, by decide +kernel⟩, List.mem_of_getElem? (i := 1056) (by decide +kernel), List.mem_of_getElem? (i := 1561) (by decide +kernel), List.mem_of_getElem? (i := 1562) (by decide +kernel)⟩
theorem lw_p67 : lw_okq (⟨"LittleMoreModel", "tellsChild", "(I)I"⟩, 49) := ⟨⟨by decide +kernel, by decide +kernel⟩, List.mem_of_getElem? (i := 1056) (by decide +kernel), List.mem_of_getElem? (i := 1565) (by decide +kernel), List.mem_of_getElem? (i := 1566) (by decide +kernel)⟩
theorem lw_p68 : lw_okq (⟨"LittleMoreModel", "tellsPlain", "(I)I"⟩, 49) := ⟨⟨by decide +kernel, by decide +kernel⟩, List.mem_of_getElem? (i := 1056) (by decide +kernel), List.mem_of_getElem? (i := 1569) (by decide +kernel), List.mem_of_getElem? (i := 1570) (by decide +kernel)⟩
theorem lw_p69 : lw_okq (⟨"LittleMoreModel", "tellsLeaving", "(I)I"⟩, 49) := ⟨⟨by decide +kernel, by decide +kernel⟩, List.mem_of_getElem? (i := 1056) (by decide +kernel), List.mem_of_getElem? (i := 1573) (by decide +kernel), List.mem_of_getElem? (i := 1574) (by decide +kernel)⟩
theorem lw_p70 : lw_okq (⟨"LittleMoreModel", "isTape", "(I)Z"⟩, 49) := ⟨⟨by decide +kernel, by decide +kernel⟩, List.mem_of_getElem? (i := 1056) (by decide +kernel), List.mem_of_getElem? (i := 1596) (by decide +kernel), List.mem_of_getElem? (i := 1597) (by decide +kernel)⟩
def lw_privs_5 : List (MethodName × Nat) := [(⟨"LittleMoreModel", "buysCounting", "(I)I"⟩, 49), (⟨"LittleMoreModel", "buysTold", "(I)I"⟩, 49), (⟨"LittleMoreModel", "tellsBy", "(I)I"⟩, 49), (⟨"LittleMoreModel", "tellsChild", "(I)I"⟩, 49), (⟨"LittleMoreModel", "tellsPlain", "(I)I"⟩, 49), (⟨"LittleMoreModel", "tellsLeaving", "(I)I"⟩, 49), (⟨"LittleMoreModel", "isTape", "(I)Z"⟩, 49)]
theorem lw_r5 : ∀ q ∈ lw_privs_5, lw_okq q := List.forall_mem_cons.mpr ⟨lw_p64, List.forall_mem_cons.mpr ⟨lw_p65, List.forall_mem_cons.mpr ⟨lw_p66, List.forall_mem_cons.mpr ⟨lw_p67, List.forall_mem_cons.mpr ⟨lw_p68, List.forall_mem_cons.mpr ⟨lw_p69, List.forall_mem_cons.mpr ⟨lw_p70, fun _ h => absurd h List.not_mem_nil⟩⟩⟩⟩⟩⟩⟩
def lw_privs : List (MethodName × Nat) := lw_privs_1 ++ (lw_privs_2 ++ (lw_privs_3 ++ (lw_privs_4 ++ (lw_privs_5))))
def lw_tbl : List Cond := k2_sels lw_privs ++ tables_1
theorem lw_privs_ok : ∀ q ∈ lw_privs, lw_okq q := by
  show ∀ q ∈ lw_privs_1 ++ (lw_privs_2 ++ (lw_privs_3 ++ (lw_privs_4 ++ (lw_privs_5)))), lw_okq q
  exact List.forall_mem_append.mpr ⟨lw_r1, List.forall_mem_append.mpr ⟨lw_r2, List.forall_mem_append.mpr ⟨lw_r3, List.forall_mem_append.mpr ⟨lw_r4, lw_r5⟩⟩⟩⟩
def RX0 : String := "LittleMore$Child"
def TX0 : u_T := fun k => match k with
  | _ => ("LittleMore$Kind", "number", "I", true)
def tyX0 : Nat → FieldType := fun k => match k with
  | _ => .int
theorem nmX0 : ∀ a, a < 1 → ∀ b, b < 1 → a ≠ b → (TX0 a).2.1 ≠ (TX0 b).2.1 := by decide +kernel
theorem tyX0_ok : ∀ k, k < 1 → parseFieldDescriptor (TX0 k).2.2.1 = some (tyX0 k) := by decide +kernel
abbrev cX0_init : ByteArray := prog_2_method_1_code
def yX0_init : MethodName := ⟨RX0, "<init>", "(I)V"⟩
abbrev cX0_portion : ByteArray := prog_2_method_2_code
def yX0_portion : MethodName := ⟨RX0, "portion", "(LLittleMore$Customer;)I"⟩
abbrev cX0_patience : ByteArray := prog_2_method_3_code
def yX0_patience : MethodName := ⟨RX0, "patience", "(LLittleMore$Customer;)I"⟩
abbrev cX0_tells : ByteArray := prog_2_method_4_code
def yX0_tells : MethodName := ⟨RX0, "tells", "(LLittleMore$Customer;ILjava/util/ArrayList;)I"⟩
def RX1 : String := "LittleMore$Counter"
def TX1 : u_T := fun k => match k with
  | 0 => ("LittleMore$Counter", "price", "I", true)
  | 1 => ("LittleMore$Counter", "learn", "I", true)
  | 2 => ("LittleMore$Counter", "codes", "[I", true)
  | _ => ("LittleMore$Counter", "numbers", "[I", true)
def tyX1 : Nat → FieldType := fun k => match k with
  | 0 => .int
  | 1 => .int
  | 2 => .array .int
  | _ => .array .int
theorem nmX1 : ∀ a, a < 4 → ∀ b, b < 4 → a ≠ b → (TX1 a).2.1 ≠ (TX1 b).2.1 := by decide +kernel
theorem tyX1_ok : ∀ k, k < 4 → parseFieldDescriptor (TX1 k).2.2.1 = some (tyX1 k) := by decide +kernel
abbrev cX1_init : ByteArray := prog_3_method_1_code
def yX1_init : MethodName := ⟨RX1, "<init>", "()V"⟩
abbrev cX1_init_ : ByteArray := prog_3_method_2_code
def yX1_init_ : MethodName := ⟨RX1, "<init>", "(LLittleMore$Text;)V"⟩
abbrev cX1_addedByClauses : ByteArray := prog_3_method_3_code
def yX1_addedByClauses : MethodName := ⟨RX1, "addedByClauses", "(LLittleMore$Customer;)I"⟩
abbrev cX1_valueOf : ByteArray := prog_3_method_4_code
def yX1_valueOf : MethodName := ⟨RX1, "valueOf", "(LLittleMore$Customer;I)I"⟩
abbrev cX1_compares : ByteArray := prog_3_method_5_code
def yX1_compares : MethodName := ⟨RX1, "compares", "(III)Z"⟩
def RX2 : String := "LittleMore$Counting"
def TX2 : u_T := fun k => match k with
  | _ => ("LittleMore$Kind", "number", "I", true)
def tyX2 : Nat → FieldType := fun k => match k with
  | _ => .int
theorem nmX2 : ∀ a, a < 1 → ∀ b, b < 1 → a ≠ b → (TX2 a).2.1 ≠ (TX2 b).2.1 := by decide +kernel
theorem tyX2_ok : ∀ k, k < 1 → parseFieldDescriptor (TX2 k).2.2.1 = some (tyX2 k) := by decide +kernel
abbrev cX2_init : ByteArray := prog_4_method_1_code
def yX2_init : MethodName := ⟨RX2, "<init>", "(I)V"⟩
abbrev cX2_portion : ByteArray := prog_4_method_2_code
def yX2_portion : MethodName := ⟨RX2, "portion", "(LLittleMore$Customer;)I"⟩
abbrev cX2_patience : ByteArray := prog_4_method_3_code
def yX2_patience : MethodName := ⟨RX2, "patience", "(LLittleMore$Customer;)I"⟩
abbrev cX2_asks : ByteArray := prog_4_method_4_code
def yX2_asks : MethodName := ⟨RX2, "asks", "(LLittleMore$Customer;ILjava/util/ArrayList;)I"⟩
abbrev cX2_buys : ByteArray := prog_4_method_5_code
def yX2_buys : MethodName := ⟨RX2, "buys", "(LLittleMore$Customer;ILjava/util/ArrayList;)I"⟩
def RX3 : String := "LittleMore$Customer"
def TX3 : u_T := fun k => match k with
  | 0 => ("LittleMore$Customer", "number", "I", true)
  | 1 => ("LittleMore$Customer", "extras", "[I", true)
  | 2 => ("LittleMore$Customer", "kind", "LLittleMore$Kind;", false)
  | 3 => ("LittleMore$Customer", "v", "I", false)
  | 4 => ("LittleMore$Customer", "wants", "I", false)
  | 5 => ("LittleMore$Customer", "trust", "I", false)
  | 6 => ("LittleMore$Customer", "over", "I", false)
  | 7 => ("LittleMore$Customer", "noes", "I", false)
  | 8 => ("LittleMore$Customer", "visits", "I", false)
  | _ => ("LittleMore$Customer", "gone", "Z", false)
def tyX3 : Nat → FieldType := fun k => match k with
  | 0 => .int
  | 1 => .array .int
  | 2 => .object "LittleMore$Kind"
  | 3 => .int
  | 4 => .int
  | 5 => .int
  | 6 => .int
  | 7 => .int
  | 8 => .int
  | _ => .boolean
theorem nmX3 : ∀ a, a < 10 → ∀ b, b < 10 → a ≠ b → (TX3 a).2.1 ≠ (TX3 b).2.1 := by decide +kernel
theorem tyX3_ok : ∀ k, k < 10 → parseFieldDescriptor (TX3 k).2.2.1 = some (tyX3 k) := by decide +kernel
abbrev cX3_init : ByteArray := prog_5_method_1_code
def yX3_init : MethodName := ⟨RX3, "<init>", "(ILLittleMore$Kind;)V"⟩
abbrev cX3_begin : ByteArray := prog_5_method_2_code
def yX3_begin : MethodName := ⟨RX3, "begin", "(LLittleMore$Kind;II)V"⟩
abbrev cX3_become : ByteArray := prog_5_method_3_code
def yX3_become : MethodName := ⟨RX3, "become", "(LLittleMore$Customer;)V"⟩
abbrev cX3_saysNo : ByteArray := prog_5_method_4_code
def yX3_saysNo : MethodName := ⟨RX3, "saysNo", "()V"⟩
def RX4 : String := "LittleMore$Gentle"
def TX4 : u_T := fun k => match k with
  | _ => ("LittleMore$Kind", "number", "I", true)
def tyX4 : Nat → FieldType := fun k => match k with
  | _ => .int
theorem nmX4 : ∀ a, a < 1 → ∀ b, b < 1 → a ≠ b → (TX4 a).2.1 ≠ (TX4 b).2.1 := by decide +kernel
theorem tyX4_ok : ∀ k, k < 1 → parseFieldDescriptor (TX4 k).2.2.1 = some (tyX4 k) := by decide +kernel
abbrev cX4_init : ByteArray := prog_6_method_1_code
def yX4_init : MethodName := ⟨RX4, "<init>", "(I)V"⟩
abbrev cX4_patience : ByteArray := prog_6_method_2_code
def yX4_patience : MethodName := ⟨RX4, "patience", "(LLittleMore$Customer;)I"⟩
abbrev cX4_asks : ByteArray := prog_6_method_3_code
def yX4_asks : MethodName := ⟨RX4, "asks", "(LLittleMore$Customer;ILjava/util/ArrayList;)I"⟩
def RX5 : String := "LittleMore$Kind"
def TX5 : u_T := fun k => match k with
  | _ => ("LittleMore$Kind", "number", "I", true)
def tyX5 : Nat → FieldType := fun k => match k with
  | _ => .int
theorem nmX5 : ∀ a, a < 1 → ∀ b, b < 1 → a ≠ b → (TX5 a).2.1 ≠ (TX5 b).2.1 := by decide +kernel
theorem tyX5_ok : ∀ k, k < 1 → parseFieldDescriptor (TX5 k).2.2.1 = some (tyX5 k) := by decide +kernel
abbrev cX5_init : ByteArray := prog_7_method_1_code
def yX5_init : MethodName := ⟨RX5, "<init>", "(I)V"⟩
abbrev cX5_portion : ByteArray := prog_7_method_2_code
def yX5_portion : MethodName := ⟨RX5, "portion", "(LLittleMore$Customer;)I"⟩
abbrev cX5_patience : ByteArray := prog_7_method_3_code
def yX5_patience : MethodName := ⟨RX5, "patience", "(LLittleMore$Customer;)I"⟩
abbrev cX5_leaves : ByteArray := prog_7_method_4_code
def yX5_leaves : MethodName := ⟨RX5, "leaves", "(LLittleMore$Customer;)Z"⟩
abbrev cX5_asks : ByteArray := prog_7_method_5_code
def yX5_asks : MethodName := ⟨RX5, "asks", "(LLittleMore$Customer;ILjava/util/ArrayList;)I"⟩
abbrev cX5_buys : ByteArray := prog_7_method_6_code
def yX5_buys : MethodName := ⟨RX5, "buys", "(LLittleMore$Customer;ILjava/util/ArrayList;)I"⟩
abbrev cX5_tells : ByteArray := prog_7_method_7_code
def yX5_tells : MethodName := ⟨RX5, "tells", "(LLittleMore$Customer;ILjava/util/ArrayList;)I"⟩
def RX6 : String := "LittleMore$Leaving"
def TX6 : u_T := fun k => match k with
  | _ => ("LittleMore$Kind", "number", "I", true)
def tyX6 : Nat → FieldType := fun k => match k with
  | _ => .int
theorem nmX6 : ∀ a, a < 1 → ∀ b, b < 1 → a ≠ b → (TX6 a).2.1 ≠ (TX6 b).2.1 := by decide +kernel
theorem tyX6_ok : ∀ k, k < 1 → parseFieldDescriptor (TX6 k).2.2.1 = some (tyX6 k) := by decide +kernel
abbrev cX6_init : ByteArray := prog_8_method_1_code
def yX6_init : MethodName := ⟨RX6, "<init>", "(I)V"⟩
abbrev cX6_leaves : ByteArray := prog_8_method_2_code
def yX6_leaves : MethodName := ⟨RX6, "leaves", "(LLittleMore$Customer;)Z"⟩
abbrev cX6_tells : ByteArray := prog_8_method_3_code
def yX6_tells : MethodName := ⟨RX6, "tells", "(LLittleMore$Customer;ILjava/util/ArrayList;)I"⟩
def RX7 : String := "LittleMore$Shop"
def TX7 : u_T := fun k => match k with
  | 0 => ("LittleMore$Shop", "people", "[LLittleMore$Customer;", true)
  | 1 => ("LittleMore$Shop", "seen", "[I", true)
  | 2 => ("LittleMore$Shop", "booked", "[I", true)
  | 3 => ("LittleMore$Shop", "size", "I", false)
  | 4 => ("LittleMore$Shop", "seenCount", "I", false)
  | 5 => ("LittleMore$Shop", "bookCount", "I", false)
  | 6 => ("LittleMore$Shop", "off", "I", false)
  | _ => ("LittleMore$Shop", "counter", "LLittleMore$Counter;", false)
def tyX7 : Nat → FieldType := fun k => match k with
  | 0 => .array (.object "LittleMore$Customer")
  | 1 => .array .int
  | 2 => .array .int
  | 3 => .int
  | 4 => .int
  | 5 => .int
  | 6 => .int
  | _ => .object "LittleMore$Counter"
theorem nmX7 : ∀ a, a < 8 → ∀ b, b < 8 → a ≠ b → (TX7 a).2.1 ≠ (TX7 b).2.1 := by decide +kernel
theorem tyX7_ok : ∀ k, k < 8 → parseFieldDescriptor (TX7 k).2.2.1 = some (tyX7 k) := by decide +kernel
abbrev cX7_init : ByteArray := prog_9_method_1_code
def yX7_init : MethodName := ⟨RX7, "<init>", "(LLittleMore$Kind;)V"⟩
abbrev cX7_become : ByteArray := prog_9_method_2_code
def yX7_become : MethodName := ⟨RX7, "become", "(LLittleMore$Shop;)V"⟩
abbrev cX7_at : ByteArray := prog_9_method_3_code
def yX7_at : MethodName := ⟨RX7, "at", "(I)LLittleMore$Customer;"⟩
abbrev cX7_moreFor : ByteArray := prog_9_method_4_code
def yX7_moreFor : MethodName := ⟨RX7, "moreFor", "(LLittleMore$Customer;)I"⟩
abbrev cX7_refuses : ByteArray := prog_9_method_5_code
def yX7_refuses : MethodName := ⟨RX7, "refuses", "(LLittleMore$Customer;)Z"⟩
abbrev cX7_boughtBeyondAsked : ByteArray := prog_9_method_6_code
def yX7_boughtBeyondAsked : MethodName := ⟨RX7, "boughtBeyondAsked", "(LLittleMore$Customer;)I"⟩
abbrev cX7_makeVisit : ByteArray := prog_9_method_7_code
def yX7_makeVisit : MethodName := ⟨RX7, "makeVisit", "(LLittleMore$Customer;)I"⟩
abbrev cX7_makeVisitsAlone : ByteArray := prog_9_method_8_code
def yX7_makeVisitsAlone : MethodName := ⟨RX7, "makeVisitsAlone", "(LLittleMore$Customer;I)I"⟩
abbrev cX7_makeSaturday : ByteArray := prog_9_method_9_code
def yX7_makeSaturday : MethodName := ⟨RX7, "makeSaturday", "()I"⟩
abbrev cX7_boundVisits : ByteArray := prog_9_method_10_code
def yX7_boundVisits : MethodName := ⟨RX7, "boundVisits", "()V"⟩
abbrev cX7_goneBits : ByteArray := prog_9_method_11_code
def yX7_goneBits : MethodName := ⟨RX7, "goneBits", "()I"⟩
abbrev cX7_howManyStay : ByteArray := prog_9_method_12_code
def yX7_howManyStay : MethodName := ⟨RX7, "howManyStay", "()I"⟩
abbrev cX7_howManyRefuse : ByteArray := prog_9_method_13_code
def yX7_howManyRefuse : MethodName := ⟨RX7, "howManyRefuse", "()I"⟩
abbrev cX7_askedTogether : ByteArray := prog_9_method_14_code
def yX7_askedTogether : MethodName := ⟨RX7, "askedTogether", "()I"⟩
abbrev cX7_cutsAreSeen : ByteArray := prog_9_method_15_code
def yX7_cutsAreSeen : MethodName := ⟨RX7, "cutsAreSeen", "(LLittleMore$Customer;)Z"⟩
def RX8 : String := "LittleMore$Strict"
def TX8 : u_T := fun k => match k with
  | _ => ("LittleMore$Kind", "number", "I", true)
def tyX8 : Nat → FieldType := fun k => match k with
  | _ => .int
theorem nmX8 : ∀ a, a < 1 → ∀ b, b < 1 → a ≠ b → (TX8 a).2.1 ≠ (TX8 b).2.1 := by decide +kernel
theorem tyX8_ok : ∀ k, k < 1 → parseFieldDescriptor (TX8 k).2.2.1 = some (tyX8 k) := by decide +kernel
abbrev cX8_init : ByteArray := prog_10_method_1_code
def yX8_init : MethodName := ⟨RX8, "<init>", "(I)V"⟩
abbrev cX8_portion : ByteArray := prog_10_method_2_code
def yX8_portion : MethodName := ⟨RX8, "portion", "(LLittleMore$Customer;)I"⟩
abbrev cX8_patience : ByteArray := prog_10_method_3_code
def yX8_patience : MethodName := ⟨RX8, "patience", "(LLittleMore$Customer;)I"⟩
abbrev cX8_buys : ByteArray := prog_10_method_4_code
def yX8_buys : MethodName := ⟨RX8, "buys", "(LLittleMore$Customer;ILjava/util/ArrayList;)I"⟩
def RX9 : String := "LittleMore$Text"
def TX9 : u_T := fun k => match k with
  | 0 => ("LittleMore$Text", "signs", "[B", true)
  | 1 => ("LittleMore$Text", "length", "I", false)
  | 2 => ("LittleMore$Text", "place", "I", false)
  | 3 => ("LittleMore$Text", "price", "I", false)
  | 4 => ("LittleMore$Text", "learn", "I", false)
  | 5 => ("LittleMore$Text", "codes", "[I", true)
  | 6 => ("LittleMore$Text", "numbers", "[I", true)
  | 7 => ("LittleMore$Text", "codeCount", "I", false)
  | _ => ("LittleMore$Text", "latestNumber", "I", false)
def tyX9 : Nat → FieldType := fun k => match k with
  | 0 => .array .byte
  | 1 => .int
  | 2 => .int
  | 3 => .int
  | 4 => .int
  | 5 => .array .int
  | 6 => .array .int
  | 7 => .int
  | _ => .int
theorem nmX9 : ∀ a, a < 9 → ∀ b, b < 9 → a ≠ b → (TX9 a).2.1 ≠ (TX9 b).2.1 := by decide +kernel
theorem tyX9_ok : ∀ k, k < 9 → parseFieldDescriptor (TX9 k).2.2.1 = some (tyX9 k) := by decide +kernel
abbrev cX9_init : ByteArray := prog_11_method_1_code
def yX9_init : MethodName := ⟨RX9, "<init>", "()V"⟩
abbrev cX9_toCounter : ByteArray := prog_11_method_2_code
def yX9_toCounter : MethodName := ⟨RX9, "toCounter", "()LLittleMore$Counter;"⟩
abbrev cX9_readClause : ByteArray := prog_11_method_3_code
def yX9_readClause : MethodName := ⟨RX9, "readClause", "()Z"⟩
abbrev cX9_readWord : ByteArray := prog_11_method_4_code
def yX9_readWord : MethodName := ⟨RX9, "readWord", "()I"⟩
abbrev cX9_nameOf : ByteArray := prog_11_method_5_code
def yX9_nameOf : MethodName := ⟨RX9, "nameOf", "(I)Ljava/lang/String;"⟩
abbrev cX9_howManyAlike : ByteArray := prog_11_method_6_code
def yX9_howManyAlike : MethodName := ⟨RX9, "howManyAlike", "(Ljava/lang/String;)I"⟩
abbrev cX9_readAny : ByteArray := prog_11_method_7_code
def yX9_readAny : MethodName := ⟨RX9, "readAny", "(I)Z"⟩
abbrev cX9_readAll : ByteArray := prog_11_method_8_code
def yX9_readAll : MethodName := ⟨RX9, "readAll", "(I)Z"⟩
abbrev cX9_readOne : ByteArray := prog_11_method_9_code
def yX9_readOne : MethodName := ⟨RX9, "readOne", "(I)Z"⟩
abbrev cX9_readNumber : ByteArray := prog_11_method_10_code
def yX9_readNumber : MethodName := ⟨RX9, "readNumber", "()Z"⟩
abbrev cX9_isDigit : ByteArray := prog_11_method_11_code
def yX9_isDigit : MethodName := ⟨RX9, "isDigit", "(I)Z"⟩
abbrev cX9_signAt : ByteArray := prog_11_method_12_code
def yX9_signAt : MethodName := ⟨RX9, "signAt", "(I)I"⟩
abbrev cX9_takes : ByteArray := prog_11_method_13_code
def yX9_takes : MethodName := ⟨RX9, "takes", "(C)Z"⟩
abbrev cX9_takesOneOf : ByteArray := prog_11_method_14_code
def yX9_takesOneOf : MethodName := ⟨RX9, "takesOneOf", "(Ljava/lang/String;)I"⟩
abbrev cX9_putCode : ByteArray := prog_11_method_15_code
def yX9_putCode : MethodName := ⟨RX9, "putCode", "(II)Z"⟩
def RX10 : String := "LittleMore$Told"
def TX10 : u_T := fun k => match k with
  | _ => ("LittleMore$Kind", "number", "I", true)
def tyX10 : Nat → FieldType := fun k => match k with
  | _ => .int
theorem nmX10 : ∀ a, a < 1 → ∀ b, b < 1 → a ≠ b → (TX10 a).2.1 ≠ (TX10 b).2.1 := by decide +kernel
theorem tyX10_ok : ∀ k, k < 1 → parseFieldDescriptor (TX10 k).2.2.1 = some (tyX10 k) := by decide +kernel
abbrev cX10_init : ByteArray := prog_12_method_1_code
def yX10_init : MethodName := ⟨RX10, "<init>", "(I)V"⟩
abbrev cX10_portion : ByteArray := prog_12_method_2_code
def yX10_portion : MethodName := ⟨RX10, "portion", "(LLittleMore$Customer;)I"⟩
abbrev cX10_buys : ByteArray := prog_12_method_3_code
def yX10_buys : MethodName := ⟨RX10, "buys", "(LLittleMore$Customer;ILjava/util/ArrayList;)I"⟩
abbrev cX10_asks : ByteArray := prog_12_method_4_code
def yX10_asks : MethodName := ⟨RX10, "asks", "(LLittleMore$Customer;ILjava/util/ArrayList;)I"⟩
def RX11 : String := "LittleMore"
def TX11 : u_T := fun k => match k with
  | 0 => ("LittleMore", "kinds", "[LLittleMore$Kind;", true)
  | 1 => ("LittleMore", "now", "LLittleMore$Shop;", true)
  | 2 => ("LittleMore", "image", "LLittleMore$Shop;", true)
  | 3 => ("LittleMore", "trial", "LLittleMore$Shop;", true)
  | 4 => ("LittleMore", "text", "LLittleMore$Text;", true)
  | 5 => ("LittleMore", "bodies", "Ljava/util/ArrayList;", true)
  | 6 => ("LittleMore", "sorts", "[I", true)
  | 7 => ("LittleMore", "lengths", "[I", true)
  | 8 => ("LittleMore", "items", "[[J", true)
  | 9 => ("LittleMore", "counters", "I", false)
  | _ => ("LittleMore", "imageTaken", "Z", false)
def tyX11 : Nat → FieldType := fun k => match k with
  | 0 => .array (.object "LittleMore$Kind")
  | 1 => .object "LittleMore$Shop"
  | 2 => .object "LittleMore$Shop"
  | 3 => .object "LittleMore$Shop"
  | 4 => .object "LittleMore$Text"
  | 5 => .object "java/util/ArrayList"
  | 6 => .array .int
  | 7 => .array .int
  | 8 => .array (.array .long)
  | 9 => .int
  | _ => .boolean
theorem nmX11 : ∀ a, a < 11 → ∀ b, b < 11 → a ≠ b → (TX11 a).2.1 ≠ (TX11 b).2.1 := by decide +kernel
theorem tyX11_ok : ∀ k, k < 11 → parseFieldDescriptor (TX11 k).2.2.1 = some (tyX11 k) := by decide +kernel
abbrev cX11_init : ByteArray := prog_1_method_1_code
def yX11_init : MethodName := ⟨RX11, "<init>", "()V"⟩
abbrev cX11_customer : ByteArray := prog_1_method_2_code
def yX11_customer : MethodName := ⟨RX11, "customer", "(III)I"⟩
abbrev cX11_of : ByteArray := prog_1_method_3_code
def yX11_of : MethodName := ⟨RX11, "of", "(II)I"⟩
abbrev cX11_set : ByteArray := prog_1_method_4_code
def yX11_set : MethodName := ⟨RX11, "set", "(III)I"⟩
abbrev cX11_row : ByteArray := prog_1_method_5_code
def yX11_row : MethodName := ⟨RX11, "row", "(III)I"⟩
abbrev cX11_feed : ByteArray := prog_1_method_6_code
def yX11_feed : MethodName := ⟨RX11, "feed", "(I)I"⟩
abbrev cX11_counter : ByteArray := prog_1_method_7_code
def yX11_counter : MethodName := ⟨RX11, "counter", "()I"⟩
abbrev cX11_knife : ByteArray := prog_1_method_8_code
def yX11_knife : MethodName := ⟨RX11, "knife", "(I)I"⟩
abbrev cX11_told : ByteArray := prog_1_method_9_code
def yX11_told : MethodName := ⟨RX11, "told", "(I)I"⟩
abbrev cX11_visit : ByteArray := prog_1_method_10_code
def yX11_visit : MethodName := ⟨RX11, "visit", "(I)I"⟩
abbrev cX11_saturday : ByteArray := prog_1_method_11_code
def yX11_saturday : MethodName := ⟨RX11, "saturday", "()I"⟩
abbrev cX11_on : ByteArray := prog_1_method_12_code
def yX11_on : MethodName := ⟨RX11, "on", "(III)I"⟩
abbrev cX11_asked : ByteArray := prog_1_method_13_code
def yX11_asked : MethodName := ⟨RX11, "asked", "(II)I"⟩
abbrev cX11_dare : ByteArray := prog_1_method_14_code
def yX11_dare : MethodName := ⟨RX11, "dare", "(II)I"⟩
abbrev cX11_learnt : ByteArray := prog_1_method_15_code
def yX11_learnt : MethodName := ⟨RX11, "learnt", "(II)I"⟩
abbrev cX11_nobody : ByteArray := prog_1_method_16_code
def yX11_nobody : MethodName := ⟨RX11, "nobody", "()I"⟩
abbrev cX11_lost : ByteArray := prog_1_method_17_code
def yX11_lost : MethodName := ⟨RX11, "lost", "(I)I"⟩
abbrev cX11_over : ByteArray := prog_1_method_18_code
def yX11_over : MethodName := ⟨RX11, "over", "(III)I"⟩
abbrev cX11_nearest : ByteArray := prog_1_method_19_code
def yX11_nearest : MethodName := ⟨RX11, "nearest", "(I)I"⟩
abbrev cX11_see : ByteArray := prog_1_method_20_code
def yX11_see : MethodName := ⟨RX11, "see", "(I)I"⟩
abbrev cX11_who : ByteArray := prog_1_method_21_code
def yX11_who : MethodName := ⟨RX11, "who", "()I"⟩
abbrev cX11_offs : ByteArray := prog_1_method_22_code
def yX11_offs : MethodName := ⟨RX11, "offs", "(II)I"⟩
abbrev cX11_odds : ByteArray := prog_1_method_23_code
def yX11_odds : MethodName := ⟨RX11, "odds", "(II)J"⟩
abbrev cX11_mean : ByteArray := prog_1_method_24_code
def yX11_mean : MethodName := ⟨RX11, "mean", "(II)J"⟩
abbrev cX11_book : ByteArray := prog_1_method_25_code
def yX11_book : MethodName := ⟨RX11, "book", "(I)I"⟩
abbrev cX11_looked : ByteArray := prog_1_method_26_code
def yX11_looked : MethodName := ⟨RX11, "looked", "()I"⟩
abbrev cX11_judge : ByteArray := prog_1_method_27_code
def yX11_judge : MethodName := ⟨RX11, "judge", "(II)I"⟩
abbrev cX11_image : ByteArray := prog_1_method_28_code
def yX11_image : MethodName := ⟨RX11, "image", "()I"⟩
abbrev cX11_undo : ByteArray := prog_1_method_29_code
def yX11_undo : MethodName := ⟨RX11, "undo", "()I"⟩
abbrev cX11_act : ByteArray := prog_1_method_30_code
def yX11_act : MethodName := ⟨RX11, "act", "(III)I"⟩
abbrev cX11_trace : ByteArray := prog_1_method_31_code
def yX11_trace : MethodName := ⟨RX11, "trace", "(I)I"⟩
abbrev cX11_taken : ByteArray := prog_1_method_32_code
def yX11_taken : MethodName := ⟨RX11, "taken", "(II)I"⟩
abbrev cX11_count : ByteArray := prog_1_method_33_code
def yX11_count : MethodName := ⟨RX11, "count", "(I)I"⟩
abbrev cX11_tape : ByteArray := prog_1_method_34_code
def yX11_tape : MethodName := ⟨RX11, "tape", "(III)I"⟩
abbrev cX11_item : ByteArray := prog_1_method_35_code
def yX11_item : MethodName := ⟨RX11, "item", "(IIJ)I"⟩
abbrev cX11_read : ByteArray := prog_1_method_36_code
def yX11_read : MethodName := ⟨RX11, "read", "(II)J"⟩
abbrev cX11_shift : ByteArray := prog_1_method_37_code
def yX11_shift : MethodName := ⟨RX11, "shift", "(IIIII)I"⟩
abbrev cX11_isOutside : ByteArray := prog_1_method_38_code
def yX11_isOutside : MethodName := ⟨RX11, "isOutside", "(III)Z"⟩
abbrev cX11_isNoTape : ByteArray := prog_1_method_39_code
def yX11_isNoTape : MethodName := ⟨RX11, "isNoTape", "(I)Z"⟩
abbrev cX11_asItem : ByteArray := prog_1_method_40_code
def yX11_asItem : MethodName := ⟨RX11, "asItem", "(IJ)J"⟩
abbrev cX11_isOfKind : ByteArray := prog_1_method_41_code
def yX11_isOfKind : MethodName := ⟨RX11, "isOfKind", "(LLittleMore$Kind;I)Z"⟩
abbrev cX11_shopToTry : ByteArray := prog_1_method_42_code
def yX11_shopToTry : MethodName := ⟨RX11, "shopToTry", "()LLittleMore$Shop;"⟩
abbrev cX11_shopBehind : ByteArray := prog_1_method_43_code
def yX11_shopBehind : MethodName := ⟨RX11, "shopBehind", "(I)LLittleMore$Shop;"⟩
abbrev cX11_paidWith : ByteArray := prog_1_method_44_code
def yX11_paidWith : MethodName := ⟨RX11, "paidWith", "(II)I"⟩
abbrev cX11_isSeenWith : ByteArray := prog_1_method_45_code
def yX11_isSeenWith : MethodName := ⟨RX11, "isSeenWith", "(II)Z"⟩
abbrev cX11_partInLowestTerms : ByteArray := prog_1_method_46_code
def yX11_partInLowestTerms : MethodName := ⟨RX11, "partInLowestTerms", "(JJI)J"⟩
abbrev cX11_commonDivisor : ByteArray := prog_1_method_47_code
def yX11_commonDivisor : MethodName := ⟨RX11, "commonDivisor", "(JJ)J"⟩
def RX12 : String := "LittleMoreModel"
def TX12 : u_T := fun k => match k with
  | 0 => ("LittleMoreModel", "s", "[I", true)
  | 1 => ("LittleMoreModel", "customers", "I", false)
  | 2 => ("LittleMoreModel", "off", "I", false)
  | 3 => ("LittleMoreModel", "holding", "I", false)
  | 4 => ("LittleMoreModel", "seen", "[I", true)
  | 5 => ("LittleMoreModel", "seenMany", "I", false)
  | 6 => ("LittleMoreModel", "come", "[I", true)
  | 7 => ("LittleMoreModel", "comeMany", "I", false)
  | 8 => ("LittleMoreModel", "thrown", "I", false)
  | 9 => ("LittleMoreModel", "kept", "[I", true)
  | 10 => ("LittleMoreModel", "imaged", "[I", true)
  | 11 => ("LittleMoreModel", "hasImage", "Z", false)
  | 12 => ("LittleMoreModel", "place0", "I", false)
  | 13 => ("LittleMoreModel", "isTaking", "Z", false)
  | 14 => ("LittleMoreModel", "keptIn", "[I", false)
  | 15 => ("LittleMoreModel", "isMind", "Z", false)
  | 16 => ("LittleMoreModel", "text", "[I", true)
  | 17 => ("LittleMoreModel", "size", "I", false)
  | 18 => ("LittleMoreModel", "texts", "[I", true)
  | 19 => ("LittleMoreModel", "sizes", "[I", true)
  | 20 => ("LittleMoreModel", "counters", "I", false)
  | 21 => ("LittleMoreModel", "clauseWhat", "[I", true)
  | 22 => ("LittleMoreModel", "clauseN", "[I", true)
  | 23 => ("LittleMoreModel", "clauseAt", "[I", true)
  | 24 => ("LittleMoreModel", "clauses", "[I", true)
  | 25 => ("LittleMoreModel", "at", "I", false)
  | 26 => ("LittleMoreModel", "isBad", "Z", false)
  | 27 => ("LittleMoreModel", "nots", "[I", true)
  | 28 => ("LittleMoreModel", "depth", "I", false)
  | 29 => ("LittleMoreModel", "opened", "I", false)
  | 30 => ("LittleMoreModel", "ors", "[Z", true)
  | 31 => ("LittleMoreModel", "ands", "[Z", true)
  | 32 => ("LittleMoreModel", "turns", "[Z", true)
  | 33 => ("LittleMoreModel", "bought", "I", false)
  | 34 => ("LittleMoreModel", "askedFor", "I", false)
  | 35 => ("LittleMoreModel", "cut", "I", false)
  | 36 => ("LittleMoreModel", "boughtSum", "I", false)
  | 37 => ("LittleMoreModel", "askedSum", "I", false)
  | 38 => ("LittleMoreModel", "visitSum", "I", false)
  | 39 => ("LittleMoreModel", "trail", "[I", true)
  | 40 => ("LittleMoreModel", "trailed", "I", false)
  | 41 => ("LittleMoreModel", "kind0", "I", false)
  | 42 => ("LittleMoreModel", "v0", "I", false)
  | 43 => ("LittleMoreModel", "i0", "I", false)
  | 44 => ("LittleMoreModel", "sortOf", "[I", true)
  | 45 => ("LittleMoreModel", "manyOf", "[I", true)
  | 46 => ("LittleMoreModel", "items", "[J", true)
  | 47 => ("LittleMoreModel", "copies", "[J", true)
  | _ => ("LittleMoreModel", "holdsRow", "[Z", true)
def tyX12 : Nat → FieldType := fun k => match k with
  | 0 => .array .int
  | 1 => .int
  | 2 => .int
  | 3 => .int
  | 4 => .array .int
  | 5 => .int
  | 6 => .array .int
  | 7 => .int
  | 8 => .int
  | 9 => .array .int
  | 10 => .array .int
  | 11 => .boolean
  | 12 => .int
  | 13 => .boolean
  | 14 => .array .int
  | 15 => .boolean
  | 16 => .array .int
  | 17 => .int
  | 18 => .array .int
  | 19 => .array .int
  | 20 => .int
  | 21 => .array .int
  | 22 => .array .int
  | 23 => .array .int
  | 24 => .array .int
  | 25 => .int
  | 26 => .boolean
  | 27 => .array .int
  | 28 => .int
  | 29 => .int
  | 30 => .array .boolean
  | 31 => .array .boolean
  | 32 => .array .boolean
  | 33 => .int
  | 34 => .int
  | 35 => .int
  | 36 => .int
  | 37 => .int
  | 38 => .int
  | 39 => .array .int
  | 40 => .int
  | 41 => .int
  | 42 => .int
  | 43 => .int
  | 44 => .array .int
  | 45 => .array .int
  | 46 => .array .long
  | 47 => .array .long
  | _ => .array .boolean
theorem nmX12 : ∀ a, a < 49 → ∀ b, b < 49 → a ≠ b → (TX12 a).2.1 ≠ (TX12 b).2.1 := by decide +kernel
theorem tyX12_ok : ∀ k, k < 49 → parseFieldDescriptor (TX12 k).2.2.1 = some (tyX12 k) := by decide +kernel
abbrev cX12_init : ByteArray := prog_14_method_1_code
def yX12_init : MethodName := ⟨RX12, "<init>", "()V"⟩
abbrev cX12_in : ByteArray := prog_14_method_3_code
def yX12_in : MethodName := ⟨RX12, "in", "(JJJ)Z"⟩
abbrev cX12_isCustomer : ByteArray := prog_14_method_4_code
def yX12_isCustomer : MethodName := ⟨RX12, "isCustomer", "(I)Z"⟩
abbrev cX12_of0 : ByteArray := prog_14_method_5_code
def yX12_of0 : MethodName := ⟨RX12, "of0", "(II)I"⟩
abbrev cX12_put : ByteArray := prog_14_method_6_code
def yX12_put : MethodName := ⟨RX12, "put", "(III)V"⟩
abbrev cX12_carry : ByteArray := prog_14_method_7_code
def yX12_carry : MethodName := ⟨RX12, "carry", "(I)I"⟩
abbrev cX12_carryAll : ByteArray := prog_14_method_8_code
def yX12_carryAll : MethodName := ⟨RX12, "carryAll", "([IZ)V"⟩
abbrev cX12_open : ByteArray := prog_14_method_9_code
def yX12_open : MethodName := ⟨RX12, "open", "()V"⟩
abbrev cX12_again : ByteArray := prog_14_method_10_code
def yX12_again : MethodName := ⟨RX12, "again", "()V"⟩
abbrev cX12_close : ByteArray := prog_14_method_11_code
def yX12_close : MethodName := ⟨RX12, "close", "()V"⟩
abbrev cX12_image : ByteArray := prog_14_method_12_code
def yX12_image : MethodName := ⟨RX12, "image", "()I"⟩
abbrev cX12_undo : ByteArray := prog_14_method_13_code
def yX12_undo : MethodName := ⟨RX12, "undo", "()I"⟩
abbrev cX12_feed : ByteArray := prog_14_method_14_code
def yX12_feed : MethodName := ⟨RX12, "feed", "(I)I"⟩
abbrev cX12_here : ByteArray := prog_14_method_15_code
def yX12_here : MethodName := ⟨RX12, "here", "()I"⟩
abbrev cX12_take : ByteArray := prog_14_method_16_code
def yX12_take : MethodName := ⟨RX12, "take", "(I)V"⟩
abbrev cX12_takeAll : ByteArray := prog_14_method_17_code
def yX12_takeAll : MethodName := ⟨RX12, "takeAll", "(J)V"⟩
abbrev cX12_readDigit : ByteArray := prog_14_method_18_code
def yX12_readDigit : MethodName := ⟨RX12, "readDigit", "()I"⟩
abbrev cX12_readNumber : ByteArray := prog_14_method_19_code
def yX12_readNumber : MethodName := ⟨RX12, "readNumber", "()I"⟩
abbrev cX12_readWord : ByteArray := prog_14_method_20_code
def yX12_readWord : MethodName := ⟨RX12, "readWord", "()I"⟩
abbrev cX12_isLetter : ByteArray := prog_14_method_21_code
def yX12_isLetter : MethodName := ⟨RX12, "isLetter", "(I)Z"⟩
abbrev cX12_factorEnds : ByteArray := prog_14_method_22_code
def yX12_factorEnds : MethodName := ⟨RX12, "factorEnds", "()V"⟩
abbrev cX12_readTest : ByteArray := prog_14_method_23_code
def yX12_readTest : MethodName := ⟨RX12, "readTest", "()V"⟩
abbrev cX12_readOpening : ByteArray := prog_14_method_24_code
def yX12_readOpening : MethodName := ⟨RX12, "readOpening", "(I)V"⟩
abbrev cX12_readExpression : ByteArray := prog_14_method_25_code
def yX12_readExpression : MethodName := ⟨RX12, "readExpression", "()V"⟩
abbrev cX12_readClause : ByteArray := prog_14_method_26_code
def yX12_readClause : MethodName := ⟨RX12, "readClause", "(I)V"⟩
abbrev cX12_counter : ByteArray := prog_14_method_27_code
def yX12_counter : MethodName := ⟨RX12, "counter", "()I"⟩
abbrev cX12_sign : ByteArray := prog_14_method_28_code
def yX12_sign : MethodName := ⟨RX12, "sign", "(I)I"⟩
abbrev cX12_tested : ByteArray := prog_14_method_29_code
def yX12_tested : MethodName := ⟨RX12, "tested", "(II)I"⟩
abbrev cX12_openLevel : ByteArray := prog_14_method_30_code
def yX12_openLevel : MethodName := ⟨RX12, "openLevel", "(I)V"⟩
abbrev cX12_factorIs : ByteArray := prog_14_method_31_code
def yX12_factorIs : MethodName := ⟨RX12, "factorIs", "(IZ)V"⟩
abbrev cX12_holds : ByteArray := prog_14_method_32_code
def yX12_holds : MethodName := ⟨RX12, "holds", "(II)Z"⟩
abbrev cX12_lastOf : ByteArray := prog_14_method_33_code
def yX12_lastOf : MethodName := ⟨RX12, "lastOf", "(II)I"⟩
abbrev cX12_moreOf : ByteArray := prog_14_method_34_code
def yX12_moreOf : MethodName := ⟨RX12, "moreOf", "(I)I"⟩
abbrev cX12_atLeast : ByteArray := prog_14_method_35_code
def yX12_atLeast : MethodName := ⟨RX12, "atLeast", "(II)I"⟩
abbrev cX12_asksOf : ByteArray := prog_14_method_36_code
def yX12_asksOf : MethodName := ⟨RX12, "asksOf", "(I)I"⟩
abbrev cX12_letsOf : ByteArray := prog_14_method_37_code
def yX12_letsOf : MethodName := ⟨RX12, "letsOf", "(I)I"⟩
abbrev cX12_saysNo : ByteArray := prog_14_method_38_code
def yX12_saysNo : MethodName := ⟨RX12, "saysNo", "(I)Z"⟩
abbrev cX12_visitOne : ByteArray := prog_14_method_39_code
def yX12_visitOne : MethodName := ⟨RX12, "visitOne", "(I)V"⟩
abbrev cX12_isGone : ByteArray := prog_14_method_40_code
def yX12_isGone : MethodName := ⟨RX12, "isGone", "(I)Z"⟩
abbrev cX12_saturdayOn : ByteArray := prog_14_method_41_code
def yX12_saturdayOn : MethodName := ⟨RX12, "saturdayOn", "()V"⟩
abbrev cX12_saturdaysOn : ByteArray := prog_14_method_42_code
def yX12_saturdaysOn : MethodName := ⟨RX12, "saturdaysOn", "(I)V"⟩
abbrev cX12_goneBits : ByteArray := prog_14_method_43_code
def yX12_goneBits : MethodName := ⟨RX12, "goneBits", "()I"⟩
abbrev cX12_customer : ByteArray := prog_14_method_44_code
def yX12_customer : MethodName := ⟨RX12, "customer", "(III)I"⟩
abbrev cX12_of : ByteArray := prog_14_method_45_code
def yX12_of : MethodName := ⟨RX12, "of", "(II)I"⟩
abbrev cX12_may : ByteArray := prog_14_method_46_code
def yX12_may : MethodName := ⟨RX12, "may", "(II)Z"⟩
abbrev cX12_set : ByteArray := prog_14_method_47_code
def yX12_set : MethodName := ⟨RX12, "set", "(III)I"⟩
abbrev cX12_row : ByteArray := prog_14_method_48_code
def yX12_row : MethodName := ⟨RX12, "row", "(III)I"⟩
abbrev cX12_knife : ByteArray := prog_14_method_49_code
def yX12_knife : MethodName := ⟨RX12, "knife", "(I)I"⟩
abbrev cX12_told : ByteArray := prog_14_method_50_code
def yX12_told : MethodName := ⟨RX12, "told", "(I)I"⟩
abbrev cX12_visit : ByteArray := prog_14_method_51_code
def yX12_visit : MethodName := ⟨RX12, "visit", "(I)I"⟩
abbrev cX12_saturday : ByteArray := prog_14_method_52_code
def yX12_saturday : MethodName := ⟨RX12, "saturday", "()I"⟩
abbrev cX12_buysIn : ByteArray := prog_14_method_53_code
def yX12_buysIn : MethodName := ⟨RX12, "buysIn", "(II)I"⟩
abbrev cX12_on : ByteArray := prog_14_method_54_code
def yX12_on : MethodName := ⟨RX12, "on", "(III)I"⟩
abbrev cX12_plainly : ByteArray := prog_14_method_55_code
def yX12_plainly : MethodName := ⟨RX12, "plainly", "(I)I"⟩
abbrev cX12_asked : ByteArray := prog_14_method_56_code
def yX12_asked : MethodName := ⟨RX12, "asked", "(II)I"⟩
abbrev cX12_dare : ByteArray := prog_14_method_57_code
def yX12_dare : MethodName := ⟨RX12, "dare", "(II)I"⟩
abbrev cX12_learnt : ByteArray := prog_14_method_58_code
def yX12_learnt : MethodName := ⟨RX12, "learnt", "(II)I"⟩
abbrev cX12_nobodySaysNo : ByteArray := prog_14_method_59_code
def yX12_nobodySaysNo : MethodName := ⟨RX12, "nobodySaysNo", "()Z"⟩
abbrev cX12_nobody : ByteArray := prog_14_method_60_code
def yX12_nobody : MethodName := ⟨RX12, "nobody", "()I"⟩
abbrev cX12_lost : ByteArray := prog_14_method_61_code
def yX12_lost : MethodName := ⟨RX12, "lost", "(I)I"⟩
abbrev cX12_over : ByteArray := prog_14_method_62_code
def yX12_over : MethodName := ⟨RX12, "over", "(III)I"⟩
abbrev cX12_nearest : ByteArray := prog_14_method_63_code
def yX12_nearest : MethodName := ⟨RX12, "nearest", "(I)I"⟩
abbrev cX12_see : ByteArray := prog_14_method_64_code
def yX12_see : MethodName := ⟨RX12, "see", "(I)I"⟩
abbrev cX12_areSeen : ByteArray := prog_14_method_65_code
def yX12_areSeen : MethodName := ⟨RX12, "areSeen", "(I)Z"⟩
abbrev cX12_who : ByteArray := prog_14_method_66_code
def yX12_who : MethodName := ⟨RX12, "who", "()I"⟩
abbrev cX12_offs : ByteArray := prog_14_method_67_code
def yX12_offs : MethodName := ⟨RX12, "offs", "(II)I"⟩
abbrev cX12_divisor : ByteArray := prog_14_method_68_code
def yX12_divisor : MethodName := ⟨RX12, "divisor", "(II)I"⟩
abbrev cX12_partOf : ByteArray := prog_14_method_69_code
def yX12_partOf : MethodName := ⟨RX12, "partOf", "(III)J"⟩
abbrev cX12_odds : ByteArray := prog_14_method_70_code
def yX12_odds : MethodName := ⟨RX12, "odds", "(II)J"⟩
abbrev cX12_mean : ByteArray := prog_14_method_71_code
def yX12_mean : MethodName := ⟨RX12, "mean", "(II)J"⟩
abbrev cX12_book : ByteArray := prog_14_method_72_code
def yX12_book : MethodName := ⟨RX12, "book", "(I)I"⟩
abbrev cX12_looked : ByteArray := prog_14_method_73_code
def yX12_looked : MethodName := ⟨RX12, "looked", "()I"⟩
abbrev cX12_note : ByteArray := prog_14_method_74_code
def yX12_note : MethodName := ⟨RX12, "note", "(I)V"⟩
abbrev cX12_asksPlain : ByteArray := prog_14_method_75_code
def yX12_asksPlain : MethodName := ⟨RX12, "asksPlain", "(I)I"⟩
abbrev cX12_asksGentle : ByteArray := prog_14_method_76_code
def yX12_asksGentle : MethodName := ⟨RX12, "asksGentle", "(I)I"⟩
abbrev cX12_asksCounting : ByteArray := prog_14_method_77_code
def yX12_asksCounting : MethodName := ⟨RX12, "asksCounting", "(I)I"⟩
abbrev cX12_asksTold : ByteArray := prog_14_method_78_code
def yX12_asksTold : MethodName := ⟨RX12, "asksTold", "(I)I"⟩
abbrev cX12_asksBy : ByteArray := prog_14_method_79_code
def yX12_asksBy : MethodName := ⟨RX12, "asksBy", "(I)I"⟩
abbrev cX12_buysPlain : ByteArray := prog_14_method_80_code
def yX12_buysPlain : MethodName := ⟨RX12, "buysPlain", "(I)I"⟩
abbrev cX12_buysStrict : ByteArray := prog_14_method_81_code
def yX12_buysStrict : MethodName := ⟨RX12, "buysStrict", "(I)I"⟩
abbrev cX12_buysCounting : ByteArray := prog_14_method_82_code
def yX12_buysCounting : MethodName := ⟨RX12, "buysCounting", "(I)I"⟩
abbrev cX12_buysTold : ByteArray := prog_14_method_83_code
def yX12_buysTold : MethodName := ⟨RX12, "buysTold", "(I)I"⟩
abbrev cX12_buysBy : ByteArray := prog_14_method_84_code
def yX12_buysBy : MethodName := ⟨RX12, "buysBy", "(I)I"⟩
abbrev cX12_tellsPlain : ByteArray := prog_14_method_85_code
def yX12_tellsPlain : MethodName := ⟨RX12, "tellsPlain", "(I)I"⟩
abbrev cX12_tellsChild : ByteArray := prog_14_method_86_code
def yX12_tellsChild : MethodName := ⟨RX12, "tellsChild", "(I)I"⟩
abbrev cX12_tellsLeaving : ByteArray := prog_14_method_87_code
def yX12_tellsLeaving : MethodName := ⟨RX12, "tellsLeaving", "(I)I"⟩
abbrev cX12_tellsBy : ByteArray := prog_14_method_88_code
def yX12_tellsBy : MethodName := ⟨RX12, "tellsBy", "(I)I"⟩
abbrev cX12_act : ByteArray := prog_14_method_89_code
def yX12_act : MethodName := ⟨RX12, "act", "(III)I"⟩
abbrev cX12_trace : ByteArray := prog_14_method_90_code
def yX12_trace : MethodName := ⟨RX12, "trace", "(I)I"⟩
abbrev cX12_above : ByteArray := prog_14_method_91_code
def yX12_above : MethodName := ⟨RX12, "above", "(I)I"⟩
abbrev cX12_taken : ByteArray := prog_14_method_92_code
def yX12_taken : MethodName := ⟨RX12, "taken", "(II)I"⟩
abbrev cX12_count : ByteArray := prog_14_method_93_code
def yX12_count : MethodName := ⟨RX12, "count", "(I)I"⟩
abbrev cX12_isTape : ByteArray := prog_14_method_94_code
def yX12_isTape : MethodName := ⟨RX12, "isTape", "(I)Z"⟩
abbrev cX12_tape : ByteArray := prog_14_method_95_code
def yX12_tape : MethodName := ⟨RX12, "tape", "(III)I"⟩
abbrev cX12_narrowed : ByteArray := prog_14_method_96_code
def yX12_narrowed : MethodName := ⟨RX12, "narrowed", "(JI)J"⟩
abbrev cX12_item : ByteArray := prog_14_method_97_code
def yX12_item : MethodName := ⟨RX12, "item", "(IIJ)I"⟩
abbrev cX12_read : ByteArray := prog_14_method_98_code
def yX12_read : MethodName := ⟨RX12, "read", "(II)J"⟩
abbrev cX12_shift : ByteArray := prog_14_method_99_code
def yX12_shift : MethodName := ⟨RX12, "shift", "(IIIII)I"⟩
abbrev cX12_judge : ByteArray := prog_14_method_100_code
def yX12_judge : MethodName := ⟨RX12, "judge", "(II)I"⟩
def RJ6 : String := "java/lang/Integer"
def TJ6 : u_T := fun k => match k with
  | _ => ("java/lang/Integer", "value", "I", true)
abbrev cJ6_valueOf_2dffe : ByteArray := prog_20_method_22_code
def yJ6_valueOf_2dffe : MethodName := ⟨RJ6, "valueOf", "(I)Ljava/lang/Integer;"⟩
abbrev cJ6_intValue_8abf5 : ByteArray := prog_20_method_27_code
def yJ6_intValue_8abf5 : MethodName := ⟨RJ6, "intValue", "()I"⟩
abbrev cJ6_bitCount_0f7a4 : ByteArray := prog_20_method_49_code
def yJ6_bitCount_0f7a4 : MethodName := ⟨RJ6, "bitCount", "(I)I"⟩
def RJ9 : String := "java/lang/Math"
abbrev cJ9_floorMod_7cf53 : ByteArray := prog_23_method_50_code
def yJ9_floorMod_7cf53 : MethodName := ⟨RJ9, "floorMod", "(II)I"⟩
abbrev cJ9_abs_0f7a4 : ByteArray := prog_23_method_59_code
def yJ9_abs_0f7a4 : MethodName := ⟨RJ9, "abs", "(I)I"⟩
abbrev cJ9_max_7cf53 : ByteArray := prog_23_method_65_code
def yJ9_max_7cf53 : MethodName := ⟨RJ9, "max", "(II)I"⟩
abbrev cJ9_min_7cf53 : ByteArray := prog_23_method_69_code
def yJ9_min_7cf53 : MethodName := ⟨RJ9, "min", "(II)I"⟩
def RJ0 : String := "java/lang/String"
abbrev cJ0_length_8abf5 : ByteArray := prog_25_method_54_code
def yJ0_length_8abf5 : MethodName := ⟨RJ0, "length", "()I"⟩
abbrev cJ0_charAt_5068e : ByteArray := prog_25_method_56_code
def yJ0_charAt_5068e : MethodName := ⟨RJ0, "charAt", "(I)C"⟩
abbrev cJ0_indexOf_0f7a4 : ByteArray := prog_25_method_79_code
def yJ0_indexOf_0f7a4 : MethodName := ⟨RJ0, "indexOf", "(I)I"⟩
abbrev cJ0_indexOf_7cf53 : ByteArray := prog_25_method_80_code
def yJ0_indexOf_7cf53 : MethodName := ⟨RJ0, "indexOf", "(II)I"⟩
abbrev cJ0_coder_7d493 : ByteArray := prog_25_method_152_code
def yJ0_coder_7d493 : MethodName := ⟨RJ0, "coder", "()B"⟩
abbrev cJ0_isLatin1_aae02 : ByteArray := prog_25_method_154_code
def yJ0_isLatin1_aae02 : MethodName := ⟨RJ0, "isLatin1", "()Z"⟩
abbrev cJ0_checkIndex_df160 : ByteArray := prog_25_method_155_code
def yJ0_checkIndex_df160 : MethodName := ⟨RJ0, "checkIndex", "(II)V"⟩
def RJ1 : String := "java/lang/StringLatin1"
abbrev cJ1_charAt_3b067 : ByteArray := prog_26_method_2_code
def yJ1_charAt_3b067 : MethodName := ⟨RJ1, "charAt", "([BI)C"⟩
abbrev cJ1_canEncode_9a6ad : ByteArray := prog_26_method_4_code
def yJ1_canEncode_9a6ad : MethodName := ⟨RJ1, "canEncode", "(I)Z"⟩
abbrev cJ1_indexOf_4cfef : ByteArray := prog_26_method_22_code
def yJ1_indexOf_4cfef : MethodName := ⟨RJ1, "indexOf", "([BIII)I"⟩
abbrev cJ1_indexOfChar_4cfef : ByteArray := prog_26_method_23_code
def yJ1_indexOfChar_4cfef : MethodName := ⟨RJ1, "indexOfChar", "([BIII)I"⟩
def RJxa1e45 : String := "java/util/AbstractCollection"
abbrev cJxa1e45_init_da8c8 : ByteArray := prog_31_method_1_code
def yJxa1e45_init_da8c8 : MethodName := ⟨RJxa1e45, "<init>", "()V"⟩
def RJxc12de : String := "java/util/AbstractList"
abbrev cJxc12de_init_da8c8 : ByteArray := prog_32_method_1_code
def yJxc12de_init_da8c8 : MethodName := ⟨RJxc12de, "<init>", "()V"⟩
def RJx4a65c : String := "java/util/ArrayList"
def TJx4a65c : u_T := fun k => match k with
  | 0 => ("java/util/AbstractList", "modCount", "I", false)
  | 1 => ("java/util/ArrayList", "elementData", "[Ljava/lang/Object;", false)
  | _ => ("java/util/ArrayList", "size", "I", false)
def tyJx4a65c : Nat → FieldType := fun k => match k with
  | 0 => .int
  | 1 => .array (.object "java/lang/Object")
  | _ => .int
theorem nmJx4a65c : ∀ a, a < 3 → ∀ b, b < 3 → a ≠ b → (TJx4a65c a).2.1 ≠ (TJx4a65c b).2.1 := by decide +kernel
theorem tyJx4a65c_ok : ∀ k, k < 3 → parseFieldDescriptor (TJx4a65c k).2.2.1 = some (tyJx4a65c k) := by decide +kernel
abbrev cJx4a65c_init_da8c8 : ByteArray := prog_33_method_2_code
def yJx4a65c_init_da8c8 : MethodName := ⟨RJx4a65c, "<init>", "()V"⟩
abbrev cJx4a65c_grow_92f84 : ByteArray := prog_33_method_6_code
def yJx4a65c_grow_92f84 : MethodName := ⟨RJx4a65c, "grow", "(I)[Ljava/lang/Object;"⟩
abbrev cJx4a65c_grow_d5877 : ByteArray := prog_33_method_7_code
def yJx4a65c_grow_d5877 : MethodName := ⟨RJx4a65c, "grow", "()[Ljava/lang/Object;"⟩
abbrev cJx4a65c_size_8abf5 : ByteArray := prog_33_method_8_code
def yJx4a65c_size_8abf5 : MethodName := ⟨RJx4a65c, "size", "()I"⟩
abbrev cJx4a65c_elementData_915e3 : ByteArray := prog_33_method_18_code
def yJx4a65c_elementData_915e3 : MethodName := ⟨RJx4a65c, "elementData", "(I)Ljava/lang/Object;"⟩
abbrev cJx4a65c_get_915e3 : ByteArray := prog_33_method_20_code
def yJx4a65c_get_915e3 : MethodName := ⟨RJx4a65c, "get", "(I)Ljava/lang/Object;"⟩
abbrev cJx4a65c_add_72be8 : ByteArray := prog_33_method_24_code
def yJx4a65c_add_72be8 : MethodName := ⟨RJx4a65c, "add", "(Ljava/lang/Object;[Ljava/lang/Object;I)V"⟩
abbrev cJx4a65c_add_9ea2d : ByteArray := prog_33_method_25_code
def yJx4a65c_add_9ea2d : MethodName := ⟨RJx4a65c, "add", "(Ljava/lang/Object;)Z"⟩
abbrev cJx4a65c_clear_da8c8 : ByteArray := prog_33_method_40_code
def yJx4a65c_clear_da8c8 : MethodName := ⟨RJx4a65c, "clear", "()V"⟩
def RJ7 : String := "java/util/Arrays"
abbrev cJ7_fill_d0a16 : ByteArray := prog_34_method_101_code
def yJ7_fill_d0a16 : MethodName := ⟨RJ7, "fill", "([JJ)V"⟩
abbrev cJ7_fill_53178 : ByteArray := prog_34_method_103_code
def yJ7_fill_53178 : MethodName := ⟨RJ7, "fill", "([II)V"⟩
abbrev cJ7_copyOf_1904c : ByteArray := prog_34_method_119_code
def yJ7_copyOf_1904c : MethodName := ⟨RJ7, "copyOf", "([Ljava/lang/Object;I)[Ljava/lang/Object;"⟩
abbrev cJ7_copyOf_6403c : ByteArray := prog_34_method_120_code
def yJ7_copyOf_6403c : MethodName := ⟨RJ7, "copyOf", "([Ljava/lang/Object;ILjava/lang/Class;)[Ljava/lang/Object;"⟩
abbrev cJ7_copyOf_59c91 : ByteArray := prog_34_method_123_code
def yJ7_copyOf_59c91 : MethodName := ⟨RJ7, "copyOf", "([II)[I"⟩
def RJ15 : String := "java/util/Objects"
abbrev cJ15_checkIndex_7cf53 : ByteArray := prog_37_method_17_code
def yJ15_checkIndex_7cf53 : MethodName := ⟨RJ15, "checkIndex", "(II)I"⟩
def RJ8 : String := "jdk/internal/util/ArraysSupport"
abbrev cJ8_newLength_cabcc : ByteArray := prog_40_method_27_code
def yJ8_newLength_cabcc : MethodName := ⟨RJ8, "newLength", "(III)I"⟩
def RJ3 : String := "jdk/internal/util/Preconditions"
abbrev cJ3_checkIndex_8e157 : ByteArray := prog_41_method_11_code
def yJ3_checkIndex_8e157 : MethodName := ⟨RJ3, "checkIndex", "(IILjava/util/function/BiFunction;)I"⟩
abbrev cL_law : ByteArray := code
abbrev vwCl : List vw_C := [(RJ6, TJ6, 1), (RJx4a65c, TJx4a65c, 3), (RX0, TX0, 1), (RX1, TX1, 4), (RX2, TX2, 1), (RX3, TX3, 10), (RX4, TX4, 1), (RX5, TX5, 1), (RX6, TX6, 1), (RX7, TX7, 8), (RX8, TX8, 1), (RX9, TX9, 9), (RX10, TX10, 1), (RX11, TX11, 11), (RX12, TX12, 49)]
