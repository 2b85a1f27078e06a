/-- the words that pass from a caller to a callee -/
def TBL : List Cond := lw_tbl.filter goodWord
theorem tbl_good : ∀ w ∈ TBL, goodWord w = true := fun _ h => (List.mem_filter.mp h).2
theorem tbl_in : ∀ w ∈ TBL, w ∈ lw_tbl := fun _ h => (List.mem_filter.mp h).1
theorem tbl_goodIn {big ws : List Cond} (h : ∀ w ∈ ws, w ∈ TBL) (hb : ∀ w ∈ TBL, w ∈ big) : GoodIn big ws := fun w hw => ⟨hb w (h w hw), good_of_word (tbl_good w (h w hw))⟩
theorem tb0 (i : Nat) {w : Cond} (h : (k2_sels lw_privs)[i]? = some w) (g : goodWord w = true) : w ∈ TBL := List.mem_filter.mpr ⟨List.mem_append_left _ (List.mem_of_getElem? h), g⟩
theorem tl1 (i : Nat) {w : Cond} (h : tables_1_1[i]? = some w) : w ∈ lw_tbl := List.mem_append_right _ (List.mem_append_left _ (List.mem_of_getElem? h))
theorem tb1 (i : Nat) {w : Cond} (h : tables_1_1[i]? = some w) (g : goodWord w = true) : w ∈ TBL := List.mem_filter.mpr ⟨List.mem_append_right _ (List.mem_append_left _ (List.mem_of_getElem? h)), g⟩
theorem tl2 (i : Nat) {w : Cond} (h : tables_1_2[i]? = some w) : w ∈ lw_tbl := List.mem_append_right _ (List.mem_append_right _ (List.mem_append_left _ (List.mem_of_getElem? h)))
theorem tb2 (i : Nat) {w : Cond} (h : tables_1_2[i]? = some w) (g : goodWord w = true) : w ∈ TBL := List.mem_filter.mpr ⟨List.mem_append_right _ (List.mem_append_right _ (List.mem_append_left _ (List.mem_of_getElem? h))), g⟩
theorem tl3 (i : Nat) {w : Cond} (h : tables_1_3[i]? = some w) : w ∈ lw_tbl := List.mem_append_right _ (List.mem_append_right _ (List.mem_append_right _ (List.mem_append_left _ (List.mem_of_getElem? h))))
theorem tb3 (i : Nat) {w : Cond} (h : tables_1_3[i]? = some w) (g : goodWord w = true) : w ∈ TBL := List.mem_filter.mpr ⟨List.mem_append_right _ (List.mem_append_right _ (List.mem_append_right _ (List.mem_append_left _ (List.mem_of_getElem? h)))), g⟩
theorem tl4 (i : Nat) {w : Cond} (h : tables_1_4[i]? = some w) : w ∈ lw_tbl := List.mem_append_right _ (List.mem_append_right _ (List.mem_append_right _ (List.mem_append_right _ (List.mem_append_left _ (List.mem_of_getElem? h)))))
theorem tb4 (i : Nat) {w : Cond} (h : tables_1_4[i]? = some w) (g : goodWord w = true) : w ∈ TBL := List.mem_filter.mpr ⟨List.mem_append_right _ (List.mem_append_right _ (List.mem_append_right _ (List.mem_append_right _ (List.mem_append_left _ (List.mem_of_getElem? h))))), g⟩
theorem tb5 (i : Nat) {w : Cond} (h : tables_1_5[i]? = some w) (g : goodWord w = true) : w ∈ TBL := List.mem_filter.mpr ⟨List.mem_append_right _ (List.mem_append_right _ (List.mem_append_right _ (List.mem_append_right _ (List.mem_append_right _ (List.mem_append_left _ (List.mem_of_getElem? h)))))), g⟩
theorem tb6 (i : Nat) {w : Cond} (h : tables_1_6[i]? = some w) (g : goodWord w = true) : w ∈ TBL := List.mem_filter.mpr ⟨List.mem_append_right _ (List.mem_append_right _ (List.mem_append_right _ (List.mem_append_right _ (List.mem_append_right _ (List.mem_append_right _ (List.mem_append_left _ (List.mem_of_getElem? h))))))), g⟩
theorem tl7 (i : Nat) {w : Cond} (h : tables_1_7[i]? = some w) : w ∈ lw_tbl := List.mem_append_right _ (List.mem_append_right _ (List.mem_append_right _ (List.mem_append_right _ (List.mem_append_right _ (List.mem_append_right _ (List.mem_append_right _ (List.mem_of_getElem? h)))))))
theorem tb7 (i : Nat) {w : Cond} (h : tables_1_7[i]? = some w) (g : goodWord w = true) : w ∈ TBL := List.mem_filter.mpr ⟨List.mem_append_right _ (List.mem_append_right _ (List.mem_append_right _ (List.mem_append_right _ (List.mem_append_right _ (List.mem_append_right _ (List.mem_append_right _ (List.mem_of_getElem? h))))))), g⟩
theorem mp_0 : Cond.selects "LittleMore$Text" ⟨"LittleMore$Text", "takes", "(C)Z"⟩ ⟨"LittleMore$Text", "takes", "(C)Z"⟩ ∈ TBL := tb0 0 rfl rfl
theorem mp_1 : Cond.selects "LittleMore$Text" ⟨"LittleMore$Text", "signAt", "(I)I"⟩ ⟨"LittleMore$Text", "signAt", "(I)I"⟩ ∈ TBL := tb0 1 rfl rfl
theorem mp_2 : Cond.selects "LittleMore$Text" ⟨"LittleMore$Text", "readClause", "()Z"⟩ ⟨"LittleMore$Text", "readClause", "()Z"⟩ ∈ TBL := tb0 2 rfl rfl
theorem mp_3 : Cond.selects "LittleMore$Text" ⟨"LittleMore$Text", "readWord", "()I"⟩ ⟨"LittleMore$Text", "readWord", "()I"⟩ ∈ TBL := tb0 3 rfl rfl
theorem mp_4 : Cond.selects "LittleMore$Text" ⟨"LittleMore$Text", "howManyAlike", "(Ljava/lang/String;)I"⟩ ⟨"LittleMore$Text", "howManyAlike", "(Ljava/lang/String;)I"⟩ ∈ TBL := tb0 4 rfl rfl
theorem mp_5 : Cond.selects "LittleMore$Text" ⟨"LittleMore$Text", "readNumber", "()Z"⟩ ⟨"LittleMore$Text", "readNumber", "()Z"⟩ ∈ TBL := tb0 5 rfl rfl
theorem mp_6 : Cond.selects "LittleMore$Text" ⟨"LittleMore$Text", "readAny", "(I)Z"⟩ ⟨"LittleMore$Text", "readAny", "(I)Z"⟩ ∈ TBL := tb0 6 rfl rfl
theorem mp_7 : Cond.selects "LittleMore$Text" ⟨"LittleMore$Text", "readAll", "(I)Z"⟩ ⟨"LittleMore$Text", "readAll", "(I)Z"⟩ ∈ TBL := tb0 7 rfl rfl
theorem mp_8 : Cond.selects "LittleMore$Text" ⟨"LittleMore$Text", "readOne", "(I)Z"⟩ ⟨"LittleMore$Text", "readOne", "(I)Z"⟩ ∈ TBL := tb0 8 rfl rfl
theorem mp_9 : Cond.selects "LittleMore$Text" ⟨"LittleMore$Text", "putCode", "(II)Z"⟩ ⟨"LittleMore$Text", "putCode", "(II)Z"⟩ ∈ TBL := tb0 9 rfl rfl
theorem mp_10 : Cond.selects "LittleMore$Text" ⟨"LittleMore$Text", "takesOneOf", "(Ljava/lang/String;)I"⟩ ⟨"LittleMore$Text", "takesOneOf", "(Ljava/lang/String;)I"⟩ ∈ TBL := tb0 10 rfl rfl
theorem mp_11 : Cond.selects "LittleMore" ⟨"LittleMore", "shopToTry", "()LLittleMore$Shop;"⟩ ⟨"LittleMore", "shopToTry", "()LLittleMore$Shop;"⟩ ∈ TBL := tb0 11 rfl rfl
theorem mp_12 : Cond.selects "LittleMore" ⟨"LittleMore", "paidWith", "(II)I"⟩ ⟨"LittleMore", "paidWith", "(II)I"⟩ ∈ TBL := tb0 12 rfl rfl
theorem mp_13 : Cond.selects "LittleMore" ⟨"LittleMore", "shopBehind", "(I)LLittleMore$Shop;"⟩ ⟨"LittleMore", "shopBehind", "(I)LLittleMore$Shop;"⟩ ∈ TBL := tb0 13 rfl rfl
theorem mp_14 : Cond.selects "LittleMore" ⟨"LittleMore", "isSeenWith", "(II)Z"⟩ ⟨"LittleMore", "isSeenWith", "(II)Z"⟩ ∈ TBL := tb0 14 rfl rfl
theorem mp_15 : Cond.selects "java/util/ArrayList" ⟨"java/util/ArrayList", "add", "(Ljava/lang/Object;[Ljava/lang/Object;I)V"⟩ ⟨"java/util/ArrayList", "add", "(Ljava/lang/Object;[Ljava/lang/Object;I)V"⟩ ∈ TBL := tb0 15 rfl rfl
theorem mp_16 : Cond.selects "java/util/ArrayList" ⟨"java/util/ArrayList", "grow", "()[Ljava/lang/Object;"⟩ ⟨"java/util/ArrayList", "grow", "()[Ljava/lang/Object;"⟩ ∈ TBL := tb0 16 rfl rfl
theorem mp_17 : Cond.selects "java/util/ArrayList" ⟨"java/util/ArrayList", "grow", "(I)[Ljava/lang/Object;"⟩ ⟨"java/util/ArrayList", "grow", "(I)[Ljava/lang/Object;"⟩ ∈ TBL := tb0 17 rfl rfl
theorem mp_18 : Cond.selects "LittleMoreModel" ⟨"LittleMoreModel", "carryAll", "([IZ)V"⟩ ⟨"LittleMoreModel", "carryAll", "([IZ)V"⟩ ∈ TBL := tb0 18 rfl rfl
theorem mp_19 : Cond.selects "LittleMoreModel" ⟨"LittleMoreModel", "carry", "(I)I"⟩ ⟨"LittleMoreModel", "carry", "(I)I"⟩ ∈ TBL := tb0 19 rfl rfl
theorem mp_20 : Cond.selects "LittleMoreModel" ⟨"LittleMoreModel", "readClause", "(I)V"⟩ ⟨"LittleMoreModel", "readClause", "(I)V"⟩ ∈ TBL := tb0 20 rfl rfl
theorem mp_21 : Cond.selects "LittleMoreModel" ⟨"LittleMoreModel", "readWord", "()I"⟩ ⟨"LittleMoreModel", "readWord", "()I"⟩ ∈ TBL := tb0 21 rfl rfl
theorem mp_22 : Cond.selects "LittleMoreModel" ⟨"LittleMoreModel", "here", "()I"⟩ ⟨"LittleMoreModel", "here", "()I"⟩ ∈ TBL := tb0 22 rfl rfl
theorem mp_23 : Cond.selects "LittleMoreModel" ⟨"LittleMoreModel", "takeAll", "(J)V"⟩ ⟨"LittleMoreModel", "takeAll", "(J)V"⟩ ∈ TBL := tb0 23 rfl rfl
theorem mp_24 : Cond.selects "LittleMoreModel" ⟨"LittleMoreModel", "take", "(I)V"⟩ ⟨"LittleMoreModel", "take", "(I)V"⟩ ∈ TBL := tb0 24 rfl rfl
theorem mp_25 : Cond.selects "LittleMoreModel" ⟨"LittleMoreModel", "readNumber", "()I"⟩ ⟨"LittleMoreModel", "readNumber", "()I"⟩ ∈ TBL := tb0 25 rfl rfl
theorem mp_26 : Cond.selects "LittleMoreModel" ⟨"LittleMoreModel", "readDigit", "()I"⟩ ⟨"LittleMoreModel", "readDigit", "()I"⟩ ∈ TBL := tb0 26 rfl rfl
theorem mp_27 : Cond.selects "LittleMoreModel" ⟨"LittleMoreModel", "readExpression", "()V"⟩ ⟨"LittleMoreModel", "readExpression", "()V"⟩ ∈ TBL := tb0 27 rfl rfl
theorem mp_28 : Cond.selects "LittleMoreModel" ⟨"LittleMoreModel", "readOpening", "(I)V"⟩ ⟨"LittleMoreModel", "readOpening", "(I)V"⟩ ∈ TBL := tb0 28 rfl rfl
theorem mp_29 : Cond.selects "LittleMoreModel" ⟨"LittleMoreModel", "readTest", "()V"⟩ ⟨"LittleMoreModel", "readTest", "()V"⟩ ∈ TBL := tb0 29 rfl rfl
theorem mp_30 : Cond.selects "LittleMoreModel" ⟨"LittleMoreModel", "factorEnds", "()V"⟩ ⟨"LittleMoreModel", "factorEnds", "()V"⟩ ∈ TBL := tb0 30 rfl rfl
theorem mp_31 : Cond.selects "LittleMoreModel" ⟨"LittleMoreModel", "put", "(III)V"⟩ ⟨"LittleMoreModel", "put", "(III)V"⟩ ∈ TBL := tb0 31 rfl rfl
theorem mp_32 : Cond.selects "LittleMoreModel" ⟨"LittleMoreModel", "isCustomer", "(I)Z"⟩ ⟨"LittleMoreModel", "isCustomer", "(I)Z"⟩ ∈ TBL := tb0 32 rfl rfl
theorem mp_33 : Cond.selects "LittleMoreModel" ⟨"LittleMoreModel", "moreOf", "(I)I"⟩ ⟨"LittleMoreModel", "moreOf", "(I)I"⟩ ∈ TBL := tb0 33 rfl rfl
theorem mp_34 : Cond.selects "LittleMoreModel" ⟨"LittleMoreModel", "of0", "(II)I"⟩ ⟨"LittleMoreModel", "of0", "(II)I"⟩ ∈ TBL := tb0 34 rfl rfl
theorem mp_35 : Cond.selects "LittleMoreModel" ⟨"LittleMoreModel", "holds", "(II)Z"⟩ ⟨"LittleMoreModel", "holds", "(II)Z"⟩ ∈ TBL := tb0 35 rfl rfl
theorem mp_36 : Cond.selects "LittleMoreModel" ⟨"LittleMoreModel", "openLevel", "(I)V"⟩ ⟨"LittleMoreModel", "openLevel", "(I)V"⟩ ∈ TBL := tb0 36 rfl rfl
theorem mp_37 : Cond.selects "LittleMoreModel" ⟨"LittleMoreModel", "sign", "(I)I"⟩ ⟨"LittleMoreModel", "sign", "(I)I"⟩ ∈ TBL := tb0 37 rfl rfl
theorem mp_38 : Cond.selects "LittleMoreModel" ⟨"LittleMoreModel", "factorIs", "(IZ)V"⟩ ⟨"LittleMoreModel", "factorIs", "(IZ)V"⟩ ∈ TBL := tb0 38 rfl rfl
theorem mp_39 : Cond.selects "LittleMoreModel" ⟨"LittleMoreModel", "tested", "(II)I"⟩ ⟨"LittleMoreModel", "tested", "(II)I"⟩ ∈ TBL := tb0 39 rfl rfl
theorem mp_40 : Cond.selects "LittleMoreModel" ⟨"LittleMoreModel", "asksOf", "(I)I"⟩ ⟨"LittleMoreModel", "asksOf", "(I)I"⟩ ∈ TBL := tb0 40 rfl rfl
theorem mp_41 : Cond.selects "LittleMoreModel" ⟨"LittleMoreModel", "letsOf", "(I)I"⟩ ⟨"LittleMoreModel", "letsOf", "(I)I"⟩ ∈ TBL := tb0 41 rfl rfl
theorem mp_42 : Cond.selects "LittleMoreModel" ⟨"LittleMoreModel", "saysNo", "(I)Z"⟩ ⟨"LittleMoreModel", "saysNo", "(I)Z"⟩ ∈ TBL := tb0 42 rfl rfl
theorem mp_43 : Cond.selects "LittleMoreModel" ⟨"LittleMoreModel", "lastOf", "(II)I"⟩ ⟨"LittleMoreModel", "lastOf", "(II)I"⟩ ∈ TBL := tb0 43 rfl rfl
theorem mp_44 : Cond.selects "LittleMoreModel" ⟨"LittleMoreModel", "goneBits", "()I"⟩ ⟨"LittleMoreModel", "goneBits", "()I"⟩ ∈ TBL := tb0 44 rfl rfl
theorem mp_45 : Cond.selects "LittleMoreModel" ⟨"LittleMoreModel", "isGone", "(I)Z"⟩ ⟨"LittleMoreModel", "isGone", "(I)Z"⟩ ∈ TBL := tb0 45 rfl rfl
theorem mp_46 : Cond.selects "LittleMoreModel" ⟨"LittleMoreModel", "visitOne", "(I)V"⟩ ⟨"LittleMoreModel", "visitOne", "(I)V"⟩ ∈ TBL := tb0 46 rfl rfl
theorem mp_47 : Cond.selects "LittleMoreModel" ⟨"LittleMoreModel", "saturdaysOn", "(I)V"⟩ ⟨"LittleMoreModel", "saturdaysOn", "(I)V"⟩ ∈ TBL := tb0 47 rfl rfl
theorem mp_48 : Cond.selects "LittleMoreModel" ⟨"LittleMoreModel", "saturdayOn", "()V"⟩ ⟨"LittleMoreModel", "saturdayOn", "()V"⟩ ∈ TBL := tb0 48 rfl rfl
theorem mp_49 : Cond.selects "LittleMoreModel" ⟨"LittleMoreModel", "open", "()V"⟩ ⟨"LittleMoreModel", "open", "()V"⟩ ∈ TBL := tb0 49 rfl rfl
theorem mp_50 : Cond.selects "LittleMoreModel" ⟨"LittleMoreModel", "buysIn", "(II)I"⟩ ⟨"LittleMoreModel", "buysIn", "(II)I"⟩ ∈ TBL := tb0 50 rfl rfl
theorem mp_51 : Cond.selects "LittleMoreModel" ⟨"LittleMoreModel", "close", "()V"⟩ ⟨"LittleMoreModel", "close", "()V"⟩ ∈ TBL := tb0 51 rfl rfl
theorem mp_52 : Cond.selects "LittleMoreModel" ⟨"LittleMoreModel", "again", "()V"⟩ ⟨"LittleMoreModel", "again", "()V"⟩ ∈ TBL := tb0 52 rfl rfl
theorem mp_53 : Cond.selects "LittleMoreModel" ⟨"LittleMoreModel", "nobodySaysNo", "()Z"⟩ ⟨"LittleMoreModel", "nobodySaysNo", "()Z"⟩ ∈ TBL := tb0 53 rfl rfl
theorem mp_54 : Cond.selects "LittleMoreModel" ⟨"LittleMoreModel", "areSeen", "(I)Z"⟩ ⟨"LittleMoreModel", "areSeen", "(I)Z"⟩ ∈ TBL := tb0 54 rfl rfl
theorem mp_55 : Cond.selects "LittleMoreModel" ⟨"LittleMoreModel", "asksBy", "(I)I"⟩ ⟨"LittleMoreModel", "asksBy", "(I)I"⟩ ∈ TBL := tb0 55 rfl rfl
theorem mp_56 : Cond.selects "LittleMoreModel" ⟨"LittleMoreModel", "asksGentle", "(I)I"⟩ ⟨"LittleMoreModel", "asksGentle", "(I)I"⟩ ∈ TBL := tb0 56 rfl rfl
theorem mp_57 : Cond.selects "LittleMoreModel" ⟨"LittleMoreModel", "note", "(I)V"⟩ ⟨"LittleMoreModel", "note", "(I)V"⟩ ∈ TBL := tb0 57 rfl rfl
theorem mp_58 : Cond.selects "LittleMoreModel" ⟨"LittleMoreModel", "asksPlain", "(I)I"⟩ ⟨"LittleMoreModel", "asksPlain", "(I)I"⟩ ∈ TBL := tb0 58 rfl rfl
theorem mp_59 : Cond.selects "LittleMoreModel" ⟨"LittleMoreModel", "asksCounting", "(I)I"⟩ ⟨"LittleMoreModel", "asksCounting", "(I)I"⟩ ∈ TBL := tb0 59 rfl rfl
theorem mp_60 : Cond.selects "LittleMoreModel" ⟨"LittleMoreModel", "asksTold", "(I)I"⟩ ⟨"LittleMoreModel", "asksTold", "(I)I"⟩ ∈ TBL := tb0 60 rfl rfl
theorem mp_61 : Cond.selects "LittleMoreModel" ⟨"LittleMoreModel", "buysBy", "(I)I"⟩ ⟨"LittleMoreModel", "buysBy", "(I)I"⟩ ∈ TBL := tb0 61 rfl rfl
theorem mp_62 : Cond.selects "LittleMoreModel" ⟨"LittleMoreModel", "buysStrict", "(I)I"⟩ ⟨"LittleMoreModel", "buysStrict", "(I)I"⟩ ∈ TBL := tb0 62 rfl rfl
theorem mp_63 : Cond.selects "LittleMoreModel" ⟨"LittleMoreModel", "buysPlain", "(I)I"⟩ ⟨"LittleMoreModel", "buysPlain", "(I)I"⟩ ∈ TBL := tb0 63 rfl rfl
theorem mp_64 : Cond.selects "LittleMoreModel" ⟨"LittleMoreModel", "buysCounting", "(I)I"⟩ ⟨"LittleMoreModel", "buysCounting", "(I)I"⟩ ∈ TBL := tb0 64 rfl rfl
theorem mp_65 : Cond.selects "LittleMoreModel" ⟨"LittleMoreModel", "buysTold", "(I)I"⟩ ⟨"LittleMoreModel", "buysTold", "(I)I"⟩ ∈ TBL := tb0 65 rfl rfl
theorem mp_66 : Cond.selects "LittleMoreModel" ⟨"LittleMoreModel", "tellsBy", "(I)I"⟩ ⟨"LittleMoreModel", "tellsBy", "(I)I"⟩ ∈ TBL := tb0 66 rfl rfl
theorem mp_67 : Cond.selects "LittleMoreModel" ⟨"LittleMoreModel", "tellsChild", "(I)I"⟩ ⟨"LittleMoreModel", "tellsChild", "(I)I"⟩ ∈ TBL := tb0 67 rfl rfl
theorem mp_68 : Cond.selects "LittleMoreModel" ⟨"LittleMoreModel", "tellsPlain", "(I)I"⟩ ⟨"LittleMoreModel", "tellsPlain", "(I)I"⟩ ∈ TBL := tb0 68 rfl rfl
theorem mp_69 : Cond.selects "LittleMoreModel" ⟨"LittleMoreModel", "tellsLeaving", "(I)I"⟩ ⟨"LittleMoreModel", "tellsLeaving", "(I)I"⟩ ∈ TBL := tb0 69 rfl rfl
theorem mp_70 : Cond.selects "LittleMoreModel" ⟨"LittleMoreModel", "isTape", "(I)Z"⟩ ⟨"LittleMoreModel", "isTape", "(I)Z"⟩ ∈ TBL := tb0 70 rfl rfl
theorem m1_1 : (Jvm.Cond.initialized "LittleMore") ∈ TBL := tb1 1 rfl rfl
theorem m1_2 : (Jvm.Cond.initialized "LittleMore$Kind") ∈ TBL := tb1 2 rfl rfl
theorem m1_3 : (Jvm.Cond.initialized "LittleMore$Strict") ∈ TBL := tb1 3 rfl rfl
theorem m1_4 : (Jvm.Cond.initialized "LittleMore$Gentle") ∈ TBL := tb1 4 rfl rfl
theorem m1_5 : (Jvm.Cond.initialized "LittleMore$Child") ∈ TBL := tb1 5 rfl rfl
theorem m1_6 : (Jvm.Cond.initialized "LittleMore$Counting") ∈ TBL := tb1 6 rfl rfl
theorem m1_7 : (Jvm.Cond.initialized "LittleMore$Leaving") ∈ TBL := tb1 7 rfl rfl
theorem m1_8 : (Jvm.Cond.initialized "LittleMore$Told") ∈ TBL := tb1 8 rfl rfl
theorem m1_9 : (Jvm.Cond.initialized "LittleMore$Shop") ∈ TBL := tb1 9 rfl rfl
theorem m1_10 : (Jvm.Cond.initialized "LittleMore$Counter") ∈ TBL := tb1 10 rfl rfl
theorem m1_11 : (Jvm.Cond.initialized "LittleMore$Customer") ∈ TBL := tb1 11 rfl rfl
theorem m1_12 : (Jvm.Cond.initialized "LittleMore$Text") ∈ TBL := tb1 12 rfl rfl
theorem m1_13 : (Jvm.Cond.initialized "java/util/AbstractCollection") ∈ TBL := tb1 13 rfl rfl
theorem m1_14 : (Jvm.Cond.initialized "java/util/AbstractList") ∈ TBL := tb1 14 rfl rfl
theorem m1_15 : (Jvm.Cond.initialized "java/util/ArrayList") ∈ TBL := tb1 15 rfl rfl
theorem m1_16 : (Jvm.Cond.initialized "java/util/Arrays") ∈ TBL := tb1 16 rfl rfl
theorem m1_17 : (Jvm.Cond.initialized "LittleMoreModel") ∈ TBL := tb1 17 rfl rfl
theorem m1_18 : (Jvm.Cond.initialized "java/lang/Math") ∈ TBL := tb1 18 rfl rfl
theorem m1_19 : (Jvm.Cond.initialized "java/lang/String") ∈ TBL := tb1 19 rfl rfl
theorem m1_20 : (Jvm.Cond.initialized "java/lang/StringLatin1") ∈ TBL := tb1 20 rfl rfl
theorem m1_21 : (Jvm.Cond.initialized "jdk/internal/util/Preconditions") ∈ TBL := tb1 21 rfl rfl
theorem m1_24 : (Jvm.Cond.initialized "java/lang/System") ∈ TBL := tb1 24 rfl rfl
theorem m1_26 : (Jvm.Cond.initialized "java/lang/Integer") ∈ TBL := tb1 26 rfl rfl
theorem m1_27 : (Jvm.Cond.initialized "java/lang/Integer$IntegerCache") ∈ TBL := tb1 27 rfl rfl
theorem m1_28 : (Jvm.Cond.initialized "jdk/internal/util/ArraysSupport") ∈ TBL := tb1 28 rfl rfl
theorem m1_29 : (Jvm.Cond.initialized "java/util/Objects") ∈ TBL := tb1 29 rfl rfl
theorem m1_30 : (Jvm.Cond.classLink "LittleMoreLaw" (7 : Nat) "LittleMore") ∈ TBL := tb1 30 rfl rfl
theorem m1_31 : (Jvm.Cond.instantiable "LittleMore" (11 : Nat)) ∈ TBL := tb1 31 rfl rfl
theorem m1_32 : (Jvm.Cond.methodLink "LittleMoreLaw" (9 : Nat) ({ cls := "LittleMore", name := "<init>", desc := "()V" } : Jvm.MethodName)) ∈ TBL := tb1 32 rfl rfl
theorem m1_33 : (Jvm.Cond.instanceMethod ({ cls := "LittleMore", name := "<init>", desc := "()V" } : Jvm.MethodName)) ∈ TBL := tb1 33 rfl rfl
theorem m1_34 : (Jvm.Cond.code ({ cls := "LittleMore", name := "<init>", desc := "()V" } : Jvm.MethodName) prog_1_method_1_code (1 : Nat) (Option.none : Option Jvm.ClassFile.FieldType)) ∈ TBL := tb1 34 rfl rfl
theorem m1_35 : (Jvm.Cond.methodLink "LittleMore" (3 : Nat) ({ cls := "java/lang/Object", name := "<init>", desc := "()V" } : Jvm.MethodName)) ∈ TBL := tb1 35 rfl rfl
theorem m1_36 : (Jvm.Cond.instanceMethod ({ cls := "java/lang/Object", name := "<init>", desc := "()V" } : Jvm.MethodName)) ∈ TBL := tb1 36 rfl rfl
theorem m1_37 : (Jvm.Cond.code ({ cls := "java/lang/Object", name := "<init>", desc := "()V" } : Jvm.MethodName) object_method_1_code (1 : Nat) (Option.none : Option Jvm.ClassFile.FieldType)) ∈ TBL := tb1 37 rfl rfl
theorem m1_38 : (Jvm.Cond.classLink "LittleMore" (9 : Nat) "LittleMore$Kind") ∈ TBL := tb1 38 rfl rfl
theorem l1_39 : (Jvm.Cond.arrayOver (Jvm.ClassFile.FieldType.object "LittleMore$Kind")) ∈ lw_tbl := tl1 39 rfl
theorem m1_40 : (Jvm.Cond.instantiable "LittleMore$Kind" (1 : Nat)) ∈ TBL := tb1 40 rfl rfl
theorem m1_41 : (Jvm.Cond.methodLink "LittleMore" (11 : Nat) ({ cls := "LittleMore$Kind", name := "<init>", desc := "(I)V" } : Jvm.MethodName)) ∈ TBL := tb1 41 rfl rfl
theorem m1_42 : (Jvm.Cond.instanceMethod ({ cls := "LittleMore$Kind", name := "<init>", desc := "(I)V" } : Jvm.MethodName)) ∈ TBL := tb1 42 rfl rfl
theorem m1_43 : (Jvm.Cond.code ({ cls := "LittleMore$Kind", name := "<init>", desc := "(I)V" } : Jvm.MethodName) prog_7_method_1_code (2 : Nat) (Option.none : Option Jvm.ClassFile.FieldType)) ∈ TBL := tb1 43 rfl rfl
theorem m1_44 : (Jvm.Cond.methodLink "LittleMore$Kind" (1 : Nat) ({ cls := "java/lang/Object", name := "<init>", desc := "()V" } : Jvm.MethodName)) ∈ TBL := tb1 44 rfl rfl
theorem m1_45 : (Jvm.Cond.fieldLink "LittleMore$Kind" (7 : Nat) "LittleMore$Kind" "number" "I") ∈ TBL := tb1 45 rfl rfl
theorem m1_46 : (Jvm.Cond.fieldLink "LittleMore" (118 : Nat) "LittleMore$Kind" "number" "I") ∈ TBL := tb1 46 rfl rfl
theorem m1_47 : (Jvm.Cond.fieldLink "LittleMore$Counter" (57 : Nat) "LittleMore$Kind" "number" "I") ∈ TBL := tb1 47 rfl rfl
theorem m1_48 : (Jvm.Cond.laysFinal "LittleMore$Kind" "LittleMore$Kind" "number" "I") ∈ TBL := tb1 48 rfl rfl
theorem m1_51 : (Jvm.Cond.classLink "LittleMore" (14 : Nat) "LittleMore$Strict") ∈ TBL := tb1 51 rfl rfl
theorem m1_52 : (Jvm.Cond.instantiable "LittleMore$Strict" (1 : Nat)) ∈ TBL := tb1 52 rfl rfl
theorem m1_53 : (Jvm.Cond.methodLink "LittleMore" (16 : Nat) ({ cls := "LittleMore$Strict", name := "<init>", desc := "(I)V" } : Jvm.MethodName)) ∈ TBL := tb1 53 rfl rfl
theorem m1_54 : (Jvm.Cond.instanceMethod ({ cls := "LittleMore$Strict", name := "<init>", desc := "(I)V" } : Jvm.MethodName)) ∈ TBL := tb1 54 rfl rfl
theorem m1_55 : (Jvm.Cond.code ({ cls := "LittleMore$Strict", name := "<init>", desc := "(I)V" } : Jvm.MethodName) prog_10_method_1_code (2 : Nat) (Option.none : Option Jvm.ClassFile.FieldType)) ∈ TBL := tb1 55 rfl rfl
theorem m1_56 : (Jvm.Cond.methodLink "LittleMore$Strict" (1 : Nat) ({ cls := "LittleMore$Kind", name := "<init>", desc := "(I)V" } : Jvm.MethodName)) ∈ TBL := tb1 56 rfl rfl
theorem m1_57 : (Jvm.Cond.laysFinal "LittleMore$Strict" "LittleMore$Kind" "number" "I") ∈ TBL := tb1 57 rfl rfl
theorem m1_58 : (Jvm.Cond.superclass "LittleMore$Strict" "LittleMore$Kind") ∈ TBL := tb1 58 rfl rfl
theorem m1_59 : (Jvm.Cond.classLink "LittleMore" (17 : Nat) "LittleMore$Gentle") ∈ TBL := tb1 59 rfl rfl
theorem m1_60 : (Jvm.Cond.instantiable "LittleMore$Gentle" (1 : Nat)) ∈ TBL := tb1 60 rfl rfl
theorem m1_61 : (Jvm.Cond.methodLink "LittleMore" (19 : Nat) ({ cls := "LittleMore$Gentle", name := "<init>", desc := "(I)V" } : Jvm.MethodName)) ∈ TBL := tb1 61 rfl rfl
theorem m1_62 : (Jvm.Cond.instanceMethod ({ cls := "LittleMore$Gentle", name := "<init>", desc := "(I)V" } : Jvm.MethodName)) ∈ TBL := tb1 62 rfl rfl
theorem m1_63 : (Jvm.Cond.code ({ cls := "LittleMore$Gentle", name := "<init>", desc := "(I)V" } : Jvm.MethodName) prog_6_method_1_code (2 : Nat) (Option.none : Option Jvm.ClassFile.FieldType)) ∈ TBL := tb1 63 rfl rfl
theorem m1_64 : (Jvm.Cond.methodLink "LittleMore$Gentle" (1 : Nat) ({ cls := "LittleMore$Kind", name := "<init>", desc := "(I)V" } : Jvm.MethodName)) ∈ TBL := tb1 64 rfl rfl
theorem m1_65 : (Jvm.Cond.laysFinal "LittleMore$Gentle" "LittleMore$Kind" "number" "I") ∈ TBL := tb1 65 rfl rfl
theorem m1_66 : (Jvm.Cond.superclass "LittleMore$Gentle" "LittleMore$Kind") ∈ TBL := tb1 66 rfl rfl
theorem m1_67 : (Jvm.Cond.classLink "LittleMore" (20 : Nat) "LittleMore$Child") ∈ TBL := tb1 67 rfl rfl
theorem m1_68 : (Jvm.Cond.instantiable "LittleMore$Child" (1 : Nat)) ∈ TBL := tb1 68 rfl rfl
theorem m1_69 : (Jvm.Cond.methodLink "LittleMore" (22 : Nat) ({ cls := "LittleMore$Child", name := "<init>", desc := "(I)V" } : Jvm.MethodName)) ∈ TBL := tb1 69 rfl rfl
theorem m1_70 : (Jvm.Cond.instanceMethod ({ cls := "LittleMore$Child", name := "<init>", desc := "(I)V" } : Jvm.MethodName)) ∈ TBL := tb1 70 rfl rfl
theorem m1_71 : (Jvm.Cond.code ({ cls := "LittleMore$Child", name := "<init>", desc := "(I)V" } : Jvm.MethodName) prog_2_method_1_code (2 : Nat) (Option.none : Option Jvm.ClassFile.FieldType)) ∈ TBL := tb1 71 rfl rfl
theorem m1_72 : (Jvm.Cond.methodLink "LittleMore$Child" (3 : Nat) ({ cls := "LittleMore$Kind", name := "<init>", desc := "(I)V" } : Jvm.MethodName)) ∈ TBL := tb1 72 rfl rfl
theorem m1_73 : (Jvm.Cond.laysFinal "LittleMore$Child" "LittleMore$Kind" "number" "I") ∈ TBL := tb1 73 rfl rfl
theorem m1_74 : (Jvm.Cond.superclass "LittleMore$Child" "LittleMore$Kind") ∈ TBL := tb1 74 rfl rfl
theorem m1_75 : (Jvm.Cond.classLink "LittleMore" (23 : Nat) "LittleMore$Counting") ∈ TBL := tb1 75 rfl rfl
theorem m1_76 : (Jvm.Cond.instantiable "LittleMore$Counting" (1 : Nat)) ∈ TBL := tb1 76 rfl rfl
theorem m1_77 : (Jvm.Cond.methodLink "LittleMore" (25 : Nat) ({ cls := "LittleMore$Counting", name := "<init>", desc := "(I)V" } : Jvm.MethodName)) ∈ TBL := tb1 77 rfl rfl
theorem m1_78 : (Jvm.Cond.instanceMethod ({ cls := "LittleMore$Counting", name := "<init>", desc := "(I)V" } : Jvm.MethodName)) ∈ TBL := tb1 78 rfl rfl
theorem m1_79 : (Jvm.Cond.code ({ cls := "LittleMore$Counting", name := "<init>", desc := "(I)V" } : Jvm.MethodName) prog_4_method_1_code (2 : Nat) (Option.none : Option Jvm.ClassFile.FieldType)) ∈ TBL := tb1 79 rfl rfl
theorem m1_80 : (Jvm.Cond.methodLink "LittleMore$Counting" (1 : Nat) ({ cls := "LittleMore$Strict", name := "<init>", desc := "(I)V" } : Jvm.MethodName)) ∈ TBL := tb1 80 rfl rfl
theorem m1_81 : (Jvm.Cond.laysFinal "LittleMore$Counting" "LittleMore$Kind" "number" "I") ∈ TBL := tb1 81 rfl rfl
theorem m1_82 : (Jvm.Cond.superclass "LittleMore$Counting" "LittleMore$Strict") ∈ TBL := tb1 82 rfl rfl
theorem m1_83 : (Jvm.Cond.classLink "LittleMore" (26 : Nat) "LittleMore$Leaving") ∈ TBL := tb1 83 rfl rfl
theorem m1_84 : (Jvm.Cond.instantiable "LittleMore$Leaving" (1 : Nat)) ∈ TBL := tb1 84 rfl rfl
theorem m1_85 : (Jvm.Cond.methodLink "LittleMore" (28 : Nat) ({ cls := "LittleMore$Leaving", name := "<init>", desc := "(I)V" } : Jvm.MethodName)) ∈ TBL := tb1 85 rfl rfl
theorem m1_86 : (Jvm.Cond.instanceMethod ({ cls := "LittleMore$Leaving", name := "<init>", desc := "(I)V" } : Jvm.MethodName)) ∈ TBL := tb1 86 rfl rfl
theorem m1_87 : (Jvm.Cond.code ({ cls := "LittleMore$Leaving", name := "<init>", desc := "(I)V" } : Jvm.MethodName) prog_8_method_1_code (2 : Nat) (Option.none : Option Jvm.ClassFile.FieldType)) ∈ TBL := tb1 87 rfl rfl
theorem m1_88 : (Jvm.Cond.methodLink "LittleMore$Leaving" (3 : Nat) ({ cls := "LittleMore$Gentle", name := "<init>", desc := "(I)V" } : Jvm.MethodName)) ∈ TBL := tb1 88 rfl rfl
theorem m1_89 : (Jvm.Cond.laysFinal "LittleMore$Leaving" "LittleMore$Kind" "number" "I") ∈ TBL := tb1 89 rfl rfl
theorem m1_90 : (Jvm.Cond.superclass "LittleMore$Leaving" "LittleMore$Gentle") ∈ TBL := tb1 90 rfl rfl
theorem m1_91 : (Jvm.Cond.classLink "LittleMore" (29 : Nat) "LittleMore$Told") ∈ TBL := tb1 91 rfl rfl
theorem m1_92 : (Jvm.Cond.instantiable "LittleMore$Told" (1 : Nat)) ∈ TBL := tb1 92 rfl rfl
theorem m1_93 : (Jvm.Cond.methodLink "LittleMore" (31 : Nat) ({ cls := "LittleMore$Told", name := "<init>", desc := "(I)V" } : Jvm.MethodName)) ∈ TBL := tb1 93 rfl rfl
theorem m1_94 : (Jvm.Cond.instanceMethod ({ cls := "LittleMore$Told", name := "<init>", desc := "(I)V" } : Jvm.MethodName)) ∈ TBL := tb1 94 rfl rfl
theorem m1_95 : (Jvm.Cond.code ({ cls := "LittleMore$Told", name := "<init>", desc := "(I)V" } : Jvm.MethodName) prog_12_method_1_code (2 : Nat) (Option.none : Option Jvm.ClassFile.FieldType)) ∈ TBL := tb1 95 rfl rfl
theorem m1_96 : (Jvm.Cond.methodLink "LittleMore$Told" (3 : Nat) ({ cls := "LittleMore$Child", name := "<init>", desc := "(I)V" } : Jvm.MethodName)) ∈ TBL := tb1 96 rfl rfl
theorem m1_97 : (Jvm.Cond.laysFinal "LittleMore$Told" "LittleMore$Kind" "number" "I") ∈ TBL := tb1 97 rfl rfl
theorem m1_98 : (Jvm.Cond.superclass "LittleMore$Told" "LittleMore$Child") ∈ TBL := tb1 98 rfl rfl
theorem m1_99 : (Jvm.Cond.classLink "LittleMore" (38 : Nat) "LittleMore$Shop") ∈ TBL := tb1 99 rfl rfl
theorem m1_100 : (Jvm.Cond.instantiable "LittleMore$Shop" (8 : Nat)) ∈ TBL := tb1 100 rfl rfl
theorem m1_101 : (Jvm.Cond.methodLink "LittleMore" (40 : Nat) ({ cls := "LittleMore$Shop", name := "<init>", desc := "(LLittleMore$Kind;)V" } : Jvm.MethodName)) ∈ TBL := tb1 101 rfl rfl
theorem m1_102 : (Jvm.Cond.instanceMethod ({ cls := "LittleMore$Shop", name := "<init>", desc := "(LLittleMore$Kind;)V" } : Jvm.MethodName)) ∈ TBL := tb1 102 rfl rfl
theorem m1_103 : (Jvm.Cond.code ({ cls := "LittleMore$Shop", name := "<init>", desc := "(LLittleMore$Kind;)V" } : Jvm.MethodName) prog_9_method_1_code (3 : Nat) (Option.none : Option Jvm.ClassFile.FieldType)) ∈ TBL := tb1 103 rfl rfl
theorem m1_104 : (Jvm.Cond.methodLink "LittleMore$Shop" (3 : Nat) ({ cls := "java/lang/Object", name := "<init>", desc := "()V" } : Jvm.MethodName)) ∈ TBL := tb1 104 rfl rfl
theorem m1_105 : (Jvm.Cond.classLink "LittleMore$Shop" (9 : Nat) "LittleMore$Customer") ∈ TBL := tb1 105 rfl rfl
theorem l1_106 : (Jvm.Cond.arrayOver (Jvm.ClassFile.FieldType.object "LittleMore$Customer")) ∈ lw_tbl := tl1 106 rfl
theorem m1_107 : (Jvm.Cond.classLink "LittleMore$Shop" (37 : Nat) "LittleMore$Counter") ∈ TBL := tb1 107 rfl rfl
theorem m1_108 : (Jvm.Cond.instantiable "LittleMore$Counter" (4 : Nat)) ∈ TBL := tb1 108 rfl rfl
theorem m1_109 : (Jvm.Cond.methodLink "LittleMore$Shop" (39 : Nat) ({ cls := "LittleMore$Counter", name := "<init>", desc := "()V" } : Jvm.MethodName)) ∈ TBL := tb1 109 rfl rfl
theorem m1_110 : (Jvm.Cond.instanceMethod ({ cls := "LittleMore$Counter", name := "<init>", desc := "()V" } : Jvm.MethodName)) ∈ TBL := tb1 110 rfl rfl
theorem m1_111 : (Jvm.Cond.code ({ cls := "LittleMore$Counter", name := "<init>", desc := "()V" } : Jvm.MethodName) prog_3_method_1_code (1 : Nat) (Option.none : Option Jvm.ClassFile.FieldType)) ∈ TBL := tb1 111 rfl rfl
theorem m1_112 : (Jvm.Cond.methodLink "LittleMore$Counter" (3 : Nat) ({ cls := "java/lang/Object", name := "<init>", desc := "()V" } : Jvm.MethodName)) ∈ TBL := tb1 112 rfl rfl
theorem m1_113 : (Jvm.Cond.fieldLink "LittleMore$Counter" (9 : Nat) "LittleMore$Counter" "price" "I") ∈ TBL := tb1 113 rfl rfl
theorem m1_114 : (Jvm.Cond.fieldLink "LittleMore" (180 : Nat) "LittleMore$Counter" "price" "I") ∈ TBL := tb1 114 rfl rfl
theorem m1_115 : (Jvm.Cond.fieldLink "LittleMore$Counter" (15 : Nat) "LittleMore$Counter" "learn" "I") ∈ TBL := tb1 115 rfl rfl
theorem m1_116 : (Jvm.Cond.fieldLink "LittleMore$Shop" (88 : Nat) "LittleMore$Counter" "learn" "I") ∈ TBL := tb1 116 rfl rfl
theorem m1_117 : (Jvm.Cond.fieldLink "LittleMore" (185 : Nat) "LittleMore$Counter" "learn" "I") ∈ TBL := tb1 117 rfl rfl
theorem m1_118 : (Jvm.Cond.fieldLink "LittleMore$Counter" (18 : Nat) "LittleMore$Counter" "codes" "[I") ∈ TBL := tb1 118 rfl rfl
theorem m1_119 : (Jvm.Cond.fieldLink "LittleMore$Counter" (22 : Nat) "LittleMore$Counter" "numbers" "[I") ∈ TBL := tb1 119 rfl rfl
theorem m1_120 : (Jvm.Cond.laysFinal "LittleMore$Counter" "LittleMore$Counter" "price" "I") ∈ TBL := tb1 120 rfl rfl
theorem m1_122 : (Jvm.Cond.laysFinal "LittleMore$Counter" "LittleMore$Counter" "learn" "I") ∈ TBL := tb1 122 rfl rfl
theorem m1_124 : (Jvm.Cond.laysFinal "LittleMore$Counter" "LittleMore$Counter" "codes" "[I") ∈ TBL := tb1 124 rfl rfl
theorem m1_126 : (Jvm.Cond.laysFinal "LittleMore$Counter" "LittleMore$Counter" "numbers" "[I") ∈ TBL := tb1 126 rfl rfl
theorem m1_129 : (Jvm.Cond.arrayClass Jvm.ClassFile.FieldType.int) ∈ TBL := tb1 129 rfl rfl
theorem m1_130 : (Jvm.Cond.instantiable "LittleMore$Customer" (10 : Nat)) ∈ TBL := tb1 130 rfl rfl
theorem m1_131 : (Jvm.Cond.methodLink "LittleMore$Shop" (44 : Nat) ({ cls := "LittleMore$Customer", name := "<init>", desc := "(ILLittleMore$Kind;)V" } : Jvm.MethodName)) ∈ TBL := tb1 131 rfl rfl
theorem m1_132 : (Jvm.Cond.instanceMethod ({ cls := "LittleMore$Customer", name := "<init>", desc := "(ILLittleMore$Kind;)V" } : Jvm.MethodName)) ∈ TBL := tb1 132 rfl rfl
theorem m1_133 : (Jvm.Cond.code ({ cls := "LittleMore$Customer", name := "<init>", desc := "(ILLittleMore$Kind;)V" } : Jvm.MethodName) prog_5_method_1_code (3 : Nat) (Option.none : Option Jvm.ClassFile.FieldType)) ∈ TBL := tb1 133 rfl rfl
theorem m1_134 : (Jvm.Cond.methodLink "LittleMore$Customer" (3 : Nat) ({ cls := "java/lang/Object", name := "<init>", desc := "()V" } : Jvm.MethodName)) ∈ TBL := tb1 134 rfl rfl
theorem m1_135 : (Jvm.Cond.fieldLink "LittleMore$Customer" (38 : Nat) "LittleMore$Customer" "number" "I") ∈ TBL := tb1 135 rfl rfl
theorem m1_136 : (Jvm.Cond.fieldLink "LittleMore$Leaving" (27 : Nat) "LittleMore$Customer" "number" "I") ∈ TBL := tb1 136 rfl rfl
theorem m1_137 : (Jvm.Cond.fieldLink "LittleMore$Counter" (48 : Nat) "LittleMore$Customer" "number" "I") ∈ TBL := tb1 137 rfl rfl
theorem m1_138 : (Jvm.Cond.fieldLink "LittleMore$Kind" (33 : Nat) "LittleMore$Customer" "number" "I") ∈ TBL := tb1 138 rfl rfl
theorem m1_139 : (Jvm.Cond.fieldLink "LittleMore" (265 : Nat) "LittleMore$Customer" "number" "I") ∈ TBL := tb1 139 rfl rfl
theorem m1_140 : (Jvm.Cond.fieldLink "LittleMore$Customer" (9 : Nat) "LittleMore$Customer" "extras" "[I") ∈ TBL := tb1 140 rfl rfl
theorem m1_141 : (Jvm.Cond.fieldLink "LittleMore$Told" (13 : Nat) "LittleMore$Customer" "extras" "[I") ∈ TBL := tb1 141 rfl rfl
theorem m1_142 : (Jvm.Cond.fieldLink "LittleMore" (156 : Nat) "LittleMore$Customer" "extras" "[I") ∈ TBL := tb1 142 rfl rfl
theorem m1_143 : (Jvm.Cond.fieldLink "LittleMore$Customer" (41 : Nat) "LittleMore$Customer" "kind" "LLittleMore$Kind;") ∈ TBL := tb1 143 rfl rfl
theorem m1_144 : (Jvm.Cond.fieldLink "LittleMore" (114 : Nat) "LittleMore$Customer" "kind" "LLittleMore$Kind;") ∈ TBL := tb1 144 rfl rfl
theorem m1_145 : (Jvm.Cond.fieldLink "LittleMore$Counter" (53 : Nat) "LittleMore$Customer" "kind" "LLittleMore$Kind;") ∈ TBL := tb1 145 rfl rfl
theorem m1_146 : (Jvm.Cond.fieldLink "LittleMore$Shop" (73 : Nat) "LittleMore$Customer" "kind" "LLittleMore$Kind;") ∈ TBL := tb1 146 rfl rfl
theorem m1_147 : (Jvm.Cond.fieldLink "LittleMore$Customer" (15 : Nat) "LittleMore$Customer" "v" "I") ∈ TBL := tb1 147 rfl rfl
theorem m1_148 : (Jvm.Cond.fieldLink "LittleMore$Gentle" (7 : Nat) "LittleMore$Customer" "v" "I") ∈ TBL := tb1 148 rfl rfl
theorem m1_149 : (Jvm.Cond.fieldLink "LittleMore$Kind" (18 : Nat) "LittleMore$Customer" "v" "I") ∈ TBL := tb1 149 rfl rfl
theorem m1_150 : (Jvm.Cond.fieldLink "LittleMore$Strict" (22 : Nat) "LittleMore$Customer" "v" "I") ∈ TBL := tb1 150 rfl rfl
theorem m1_151 : (Jvm.Cond.fieldLink "LittleMore" (121 : Nat) "LittleMore$Customer" "v" "I") ∈ TBL := tb1 151 rfl rfl
theorem m1_152 : (Jvm.Cond.fieldLink "LittleMore$Told" (48 : Nat) "LittleMore$Customer" "v" "I") ∈ TBL := tb1 152 rfl rfl
theorem m1_153 : (Jvm.Cond.fieldLink "LittleMore$Customer" (19 : Nat) "LittleMore$Customer" "wants" "I") ∈ TBL := tb1 153 rfl rfl
theorem m1_154 : (Jvm.Cond.fieldLink "LittleMore$Kind" (13 : Nat) "LittleMore$Customer" "wants" "I") ∈ TBL := tb1 154 rfl rfl
theorem m1_155 : (Jvm.Cond.fieldLink "LittleMore$Child" (9 : Nat) "LittleMore$Customer" "wants" "I") ∈ TBL := tb1 155 rfl rfl
theorem m1_156 : (Jvm.Cond.fieldLink "LittleMore$Strict" (7 : Nat) "LittleMore$Customer" "wants" "I") ∈ TBL := tb1 156 rfl rfl
theorem m1_157 : (Jvm.Cond.fieldLink "LittleMore" (124 : Nat) "LittleMore$Customer" "wants" "I") ∈ TBL := tb1 157 rfl rfl
theorem m1_158 : (Jvm.Cond.fieldLink "LittleMore$Shop" (94 : Nat) "LittleMore$Customer" "wants" "I") ∈ TBL := tb1 158 rfl rfl
theorem m1_159 : (Jvm.Cond.fieldLink "LittleMore$Customer" (22 : Nat) "LittleMore$Customer" "trust" "I") ∈ TBL := tb1 159 rfl rfl
theorem m1_160 : (Jvm.Cond.fieldLink "LittleMore" (127 : Nat) "LittleMore$Customer" "trust" "I") ∈ TBL := tb1 160 rfl rfl
theorem m1_161 : (Jvm.Cond.fieldLink "LittleMore$Shop" (57 : Nat) "LittleMore$Customer" "trust" "I") ∈ TBL := tb1 161 rfl rfl
theorem m1_162 : (Jvm.Cond.fieldLink "LittleMore$Counter" (60 : Nat) "LittleMore$Customer" "trust" "I") ∈ TBL := tb1 162 rfl rfl
theorem m1_163 : (Jvm.Cond.fieldLink "LittleMore$Customer" (25 : Nat) "LittleMore$Customer" "over" "I") ∈ TBL := tb1 163 rfl rfl
theorem m1_164 : (Jvm.Cond.fieldLink "LittleMore$Strict" (13 : Nat) "LittleMore$Customer" "over" "I") ∈ TBL := tb1 164 rfl rfl
theorem m1_165 : (Jvm.Cond.fieldLink "LittleMore$Counting" (20 : Nat) "LittleMore$Customer" "over" "I") ∈ TBL := tb1 165 rfl rfl
theorem m1_166 : (Jvm.Cond.fieldLink "LittleMore" (130 : Nat) "LittleMore$Customer" "over" "I") ∈ TBL := tb1 166 rfl rfl
theorem m1_167 : (Jvm.Cond.fieldLink "LittleMore$Counter" (63 : Nat) "LittleMore$Customer" "over" "I") ∈ TBL := tb1 167 rfl rfl
theorem m1_168 : (Jvm.Cond.fieldLink "LittleMore$Shop" (97 : Nat) "LittleMore$Customer" "over" "I") ∈ TBL := tb1 168 rfl rfl
theorem m1_169 : (Jvm.Cond.fieldLink "LittleMore$Customer" (28 : Nat) "LittleMore$Customer" "noes" "I") ∈ TBL := tb1 169 rfl rfl
theorem m1_170 : (Jvm.Cond.fieldLink "LittleMore$Leaving" (9 : Nat) "LittleMore$Customer" "noes" "I") ∈ TBL := tb1 170 rfl rfl
theorem m1_171 : (Jvm.Cond.fieldLink "LittleMore" (133 : Nat) "LittleMore$Customer" "noes" "I") ∈ TBL := tb1 171 rfl rfl
theorem m1_172 : (Jvm.Cond.fieldLink "LittleMore$Counter" (66 : Nat) "LittleMore$Customer" "noes" "I") ∈ TBL := tb1 172 rfl rfl
theorem m1_173 : (Jvm.Cond.fieldLink "LittleMore$Customer" (31 : Nat) "LittleMore$Customer" "visits" "I") ∈ TBL := tb1 173 rfl rfl
theorem m1_174 : (Jvm.Cond.fieldLink "LittleMore$Told" (19 : Nat) "LittleMore$Customer" "visits" "I") ∈ TBL := tb1 174 rfl rfl
theorem m1_175 : (Jvm.Cond.fieldLink "LittleMore" (136 : Nat) "LittleMore$Customer" "visits" "I") ∈ TBL := tb1 175 rfl rfl
theorem m1_176 : (Jvm.Cond.fieldLink "LittleMore$Counter" (69 : Nat) "LittleMore$Customer" "visits" "I") ∈ TBL := tb1 176 rfl rfl
theorem m1_177 : (Jvm.Cond.fieldLink "LittleMore$Shop" (100 : Nat) "LittleMore$Customer" "visits" "I") ∈ TBL := tb1 177 rfl rfl
theorem m1_178 : (Jvm.Cond.fieldLink "LittleMore$Customer" (34 : Nat) "LittleMore$Customer" "gone" "Z") ∈ TBL := tb1 178 rfl rfl
theorem m1_179 : (Jvm.Cond.fieldLink "LittleMore" (139 : Nat) "LittleMore$Customer" "gone" "Z") ∈ TBL := tb1 179 rfl rfl
theorem m1_180 : (Jvm.Cond.fieldLink "LittleMore$Shop" (103 : Nat) "LittleMore$Customer" "gone" "Z") ∈ TBL := tb1 180 rfl rfl
theorem m1_181 : (Jvm.Cond.laysFinal "LittleMore$Customer" "LittleMore$Customer" "number" "I") ∈ TBL := tb1 181 rfl rfl
theorem m1_183 : (Jvm.Cond.laysFinal "LittleMore$Customer" "LittleMore$Customer" "extras" "[I") ∈ TBL := tb1 183 rfl rfl
theorem m1_185 : (Jvm.Cond.lays "LittleMore$Customer" "LittleMore$Customer" "kind" "LLittleMore$Kind;") ∈ TBL := tb1 185 rfl rfl
theorem m1_187 : (Jvm.Cond.lays "LittleMore$Customer" "LittleMore$Customer" "v" "I") ∈ TBL := tb1 187 rfl rfl
theorem m1_189 : (Jvm.Cond.lays "LittleMore$Customer" "LittleMore$Customer" "wants" "I") ∈ TBL := tb1 189 rfl rfl
theorem m1_191 : (Jvm.Cond.lays "LittleMore$Customer" "LittleMore$Customer" "trust" "I") ∈ TBL := tb1 191 rfl rfl
theorem m1_193 : (Jvm.Cond.lays "LittleMore$Customer" "LittleMore$Customer" "over" "I") ∈ TBL := tb1 193 rfl rfl
theorem m1_195 : (Jvm.Cond.lays "LittleMore$Customer" "LittleMore$Customer" "noes" "I") ∈ TBL := tb1 195 rfl rfl
theorem m1_197 : (Jvm.Cond.lays "LittleMore$Customer" "LittleMore$Customer" "visits" "I") ∈ TBL := tb1 197 rfl rfl
theorem m1_199 : (Jvm.Cond.lays "LittleMore$Customer" "LittleMore$Customer" "gone" "Z") ∈ TBL := tb1 199 rfl rfl
theorem m1_202 : (Jvm.Cond.fieldLink "LittleMore$Shop" (11 : Nat) "LittleMore$Shop" "people" "[LLittleMore$Customer;") ∈ TBL := tb1 202 rfl rfl
theorem m1_203 : (Jvm.Cond.fieldLink "LittleMore" (100 : Nat) "LittleMore$Shop" "people" "[LLittleMore$Customer;") ∈ TBL := tb1 203 rfl rfl
theorem m1_204 : (Jvm.Cond.fieldLink "LittleMore$Shop" (17 : Nat) "LittleMore$Shop" "seen" "[I") ∈ TBL := tb1 204 rfl rfl
theorem m1_205 : (Jvm.Cond.fieldLink "LittleMore" (237 : Nat) "LittleMore$Shop" "seen" "[I") ∈ TBL := tb1 205 rfl rfl
theorem m1_206 : (Jvm.Cond.fieldLink "LittleMore$Shop" (21 : Nat) "LittleMore$Shop" "booked" "[I") ∈ TBL := tb1 206 rfl rfl
theorem m1_207 : (Jvm.Cond.fieldLink "LittleMore" (262 : Nat) "LittleMore$Shop" "booked" "[I") ∈ TBL := tb1 207 rfl rfl
theorem m1_208 : (Jvm.Cond.fieldLink "LittleMore$Shop" (24 : Nat) "LittleMore$Shop" "size" "I") ∈ TBL := tb1 208 rfl rfl
theorem m1_209 : (Jvm.Cond.fieldLink "LittleMore" (97 : Nat) "LittleMore$Shop" "size" "I") ∈ TBL := tb1 209 rfl rfl
theorem m1_210 : (Jvm.Cond.fieldLink "LittleMore$Shop" (28 : Nat) "LittleMore$Shop" "seenCount" "I") ∈ TBL := tb1 210 rfl rfl
theorem m1_211 : (Jvm.Cond.fieldLink "LittleMore" (234 : Nat) "LittleMore$Shop" "seenCount" "I") ∈ TBL := tb1 211 rfl rfl
theorem m1_212 : (Jvm.Cond.fieldLink "LittleMore$Shop" (31 : Nat) "LittleMore$Shop" "bookCount" "I") ∈ TBL := tb1 212 rfl rfl
theorem m1_213 : (Jvm.Cond.fieldLink "LittleMore" (259 : Nat) "LittleMore$Shop" "bookCount" "I") ∈ TBL := tb1 213 rfl rfl
theorem m1_214 : (Jvm.Cond.fieldLink "LittleMore$Shop" (34 : Nat) "LittleMore$Shop" "off" "I") ∈ TBL := tb1 214 rfl rfl
theorem m1_215 : (Jvm.Cond.fieldLink "LittleMore" (177 : Nat) "LittleMore$Shop" "off" "I") ∈ TBL := tb1 215 rfl rfl
theorem m1_216 : (Jvm.Cond.fieldLink "LittleMore$Shop" (40 : Nat) "LittleMore$Shop" "counter" "LLittleMore$Counter;") ∈ TBL := tb1 216 rfl rfl
theorem m1_217 : (Jvm.Cond.fieldLink "LittleMore" (173 : Nat) "LittleMore$Shop" "counter" "LLittleMore$Counter;") ∈ TBL := tb1 217 rfl rfl
theorem m1_218 : (Jvm.Cond.laysFinal "LittleMore$Shop" "LittleMore$Shop" "people" "[LLittleMore$Customer;") ∈ TBL := tb1 218 rfl rfl
theorem m1_220 : (Jvm.Cond.laysFinal "LittleMore$Shop" "LittleMore$Shop" "seen" "[I") ∈ TBL := tb1 220 rfl rfl
theorem m1_222 : (Jvm.Cond.laysFinal "LittleMore$Shop" "LittleMore$Shop" "booked" "[I") ∈ TBL := tb1 222 rfl rfl
theorem m1_224 : (Jvm.Cond.lays "LittleMore$Shop" "LittleMore$Shop" "size" "I") ∈ TBL := tb1 224 rfl rfl
theorem m1_226 : (Jvm.Cond.lays "LittleMore$Shop" "LittleMore$Shop" "seenCount" "I") ∈ TBL := tb1 226 rfl rfl
theorem m1_228 : (Jvm.Cond.lays "LittleMore$Shop" "LittleMore$Shop" "bookCount" "I") ∈ TBL := tb1 228 rfl rfl
theorem m1_230 : (Jvm.Cond.lays "LittleMore$Shop" "LittleMore$Shop" "off" "I") ∈ TBL := tb1 230 rfl rfl
theorem m1_232 : (Jvm.Cond.lays "LittleMore$Shop" "LittleMore$Shop" "counter" "LLittleMore$Counter;") ∈ TBL := tb1 232 rfl rfl
theorem m1_235 : (Jvm.Cond.classLink "LittleMore" (53 : Nat) "LittleMore$Text") ∈ TBL := tb1 235 rfl rfl
theorem m1_236 : (Jvm.Cond.instantiable "LittleMore$Text" (9 : Nat)) ∈ TBL := tb1 236 rfl rfl
theorem l1_237 : (Jvm.Cond.methodLinkNest "LittleMore" (55 : Nat) ({ cls := "LittleMore$Text", name := "<init>", desc := "()V" } : Jvm.MethodName) "LittleMore") ∈ lw_tbl := tl1 237 rfl
theorem m1_238 : (Jvm.Cond.instanceMethod ({ cls := "LittleMore$Text", name := "<init>", desc := "()V" } : Jvm.MethodName)) ∈ TBL := tb1 238 rfl rfl
theorem m1_239 : (Jvm.Cond.code ({ cls := "LittleMore$Text", name := "<init>", desc := "()V" } : Jvm.MethodName) prog_11_method_1_code (1 : Nat) (Option.none : Option Jvm.ClassFile.FieldType)) ∈ TBL := tb1 239 rfl rfl
theorem m2_0 : (Jvm.Cond.methodLink "LittleMore$Text" (3 : Nat) ({ cls := "java/lang/Object", name := "<init>", desc := "()V" } : Jvm.MethodName)) ∈ TBL := tb2 0 rfl rfl
theorem m2_1 : (Jvm.Cond.fieldLink "LittleMore$Text" (9 : Nat) "LittleMore$Text" "signs" "[B") ∈ TBL := tb2 1 rfl rfl
theorem m2_2 : (Jvm.Cond.fieldLink "LittleMore" (162 : Nat) "LittleMore$Text" "signs" "[B") ∈ TBL := tb2 2 rfl rfl
theorem m2_3 : (Jvm.Cond.fieldLink "LittleMore$Text" (15 : Nat) "LittleMore$Text" "length" "I") ∈ TBL := tb2 3 rfl rfl
theorem m2_4 : (Jvm.Cond.fieldLink "LittleMore" (159 : Nat) "LittleMore$Text" "length" "I") ∈ TBL := tb2 4 rfl rfl
theorem m2_5 : (Jvm.Cond.fieldLink "LittleMore$Text" (19 : Nat) "LittleMore$Text" "place" "I") ∈ TBL := tb2 5 rfl rfl
theorem m2_6 : (Jvm.Cond.fieldLink "LittleMore" (170 : Nat) "LittleMore$Text" "place" "I") ∈ TBL := tb2 6 rfl rfl
theorem m2_7 : (Jvm.Cond.fieldLink "LittleMore$Text" (22 : Nat) "LittleMore$Text" "price" "I") ∈ TBL := tb2 7 rfl rfl
theorem m2_8 : (Jvm.Cond.fieldLink "LittleMore$Counter" (25 : Nat) "LittleMore$Text" "price" "I") ∈ TBL := tb2 8 rfl rfl
theorem m2_9 : (Jvm.Cond.fieldLink "LittleMore$Text" (25 : Nat) "LittleMore$Text" "learn" "I") ∈ TBL := tb2 9 rfl rfl
theorem m2_10 : (Jvm.Cond.fieldLink "LittleMore$Counter" (28 : Nat) "LittleMore$Text" "learn" "I") ∈ TBL := tb2 10 rfl rfl
theorem m2_11 : (Jvm.Cond.fieldLink "LittleMore$Text" (28 : Nat) "LittleMore$Text" "codes" "[I") ∈ TBL := tb2 11 rfl rfl
theorem m2_12 : (Jvm.Cond.fieldLink "LittleMore$Counter" (29 : Nat) "LittleMore$Text" "codes" "[I") ∈ TBL := tb2 12 rfl rfl
theorem m2_13 : (Jvm.Cond.fieldLink "LittleMore$Text" (32 : Nat) "LittleMore$Text" "numbers" "[I") ∈ TBL := tb2 13 rfl rfl
theorem m2_14 : (Jvm.Cond.fieldLink "LittleMore$Counter" (39 : Nat) "LittleMore$Text" "numbers" "[I") ∈ TBL := tb2 14 rfl rfl
theorem m2_15 : (Jvm.Cond.fieldLink "LittleMore$Text" (35 : Nat) "LittleMore$Text" "codeCount" "I") ∈ TBL := tb2 15 rfl rfl
theorem m2_16 : (Jvm.Cond.fieldLink "LittleMore$Counter" (30 : Nat) "LittleMore$Text" "codeCount" "I") ∈ TBL := tb2 16 rfl rfl
theorem m2_17 : (Jvm.Cond.fieldLink "LittleMore$Text" (38 : Nat) "LittleMore$Text" "latestNumber" "I") ∈ TBL := tb2 17 rfl rfl
theorem m2_18 : (Jvm.Cond.laysFinal "LittleMore$Text" "LittleMore$Text" "signs" "[B") ∈ TBL := tb2 18 rfl rfl
theorem m2_20 : (Jvm.Cond.lays "LittleMore$Text" "LittleMore$Text" "length" "I") ∈ TBL := tb2 20 rfl rfl
theorem m2_22 : (Jvm.Cond.lays "LittleMore$Text" "LittleMore$Text" "place" "I") ∈ TBL := tb2 22 rfl rfl
theorem m2_24 : (Jvm.Cond.lays "LittleMore$Text" "LittleMore$Text" "price" "I") ∈ TBL := tb2 24 rfl rfl
theorem m2_26 : (Jvm.Cond.lays "LittleMore$Text" "LittleMore$Text" "learn" "I") ∈ TBL := tb2 26 rfl rfl
theorem m2_28 : (Jvm.Cond.laysFinal "LittleMore$Text" "LittleMore$Text" "codes" "[I") ∈ TBL := tb2 28 rfl rfl
theorem m2_30 : (Jvm.Cond.laysFinal "LittleMore$Text" "LittleMore$Text" "numbers" "[I") ∈ TBL := tb2 30 rfl rfl
theorem m2_32 : (Jvm.Cond.lays "LittleMore$Text" "LittleMore$Text" "codeCount" "I") ∈ TBL := tb2 32 rfl rfl
theorem m2_34 : (Jvm.Cond.lays "LittleMore$Text" "LittleMore$Text" "latestNumber" "I") ∈ TBL := tb2 34 rfl rfl
theorem m2_37 : (Jvm.Cond.arrayClass Jvm.ClassFile.FieldType.byte) ∈ TBL := tb2 37 rfl rfl
theorem m2_38 : (Jvm.Cond.classLink "LittleMore" (60 : Nat) "java/util/ArrayList") ∈ TBL := tb2 38 rfl rfl
theorem m2_39 : (Jvm.Cond.instantiable "java/util/ArrayList" (3 : Nat)) ∈ TBL := tb2 39 rfl rfl
theorem m2_40 : (Jvm.Cond.methodLink "LittleMore" (62 : Nat) ({ cls := "java/util/ArrayList", name := "<init>", desc := "()V" } : Jvm.MethodName)) ∈ TBL := tb2 40 rfl rfl
theorem m2_41 : (Jvm.Cond.instanceMethod ({ cls := "java/util/ArrayList", name := "<init>", desc := "()V" } : Jvm.MethodName)) ∈ TBL := tb2 41 rfl rfl
theorem m2_42 : (Jvm.Cond.code ({ cls := "java/util/ArrayList", name := "<init>", desc := "()V" } : Jvm.MethodName) prog_33_method_2_code (1 : Nat) (Option.none : Option Jvm.ClassFile.FieldType)) ∈ TBL := tb2 42 rfl rfl
theorem m2_43 : (Jvm.Cond.methodLink "java/util/ArrayList" (1 : Nat) ({ cls := "java/util/AbstractList", name := "<init>", desc := "()V" } : Jvm.MethodName)) ∈ TBL := tb2 43 rfl rfl
theorem m2_44 : (Jvm.Cond.instanceMethod ({ cls := "java/util/AbstractList", name := "<init>", desc := "()V" } : Jvm.MethodName)) ∈ TBL := tb2 44 rfl rfl
theorem m2_45 : (Jvm.Cond.code ({ cls := "java/util/AbstractList", name := "<init>", desc := "()V" } : Jvm.MethodName) prog_32_method_1_code (1 : Nat) (Option.none : Option Jvm.ClassFile.FieldType)) ∈ TBL := tb2 45 rfl rfl
theorem m2_46 : (Jvm.Cond.methodLink "java/util/AbstractList" (1 : Nat) ({ cls := "java/util/AbstractCollection", name := "<init>", desc := "()V" } : Jvm.MethodName)) ∈ TBL := tb2 46 rfl rfl
theorem m2_47 : (Jvm.Cond.instanceMethod ({ cls := "java/util/AbstractCollection", name := "<init>", desc := "()V" } : Jvm.MethodName)) ∈ TBL := tb2 47 rfl rfl
theorem m2_48 : (Jvm.Cond.code ({ cls := "java/util/AbstractCollection", name := "<init>", desc := "()V" } : Jvm.MethodName) prog_31_method_1_code (1 : Nat) (Option.none : Option Jvm.ClassFile.FieldType)) ∈ TBL := tb2 48 rfl rfl
theorem m2_49 : (Jvm.Cond.methodLink "java/util/AbstractCollection" (1 : Nat) ({ cls := "java/lang/Object", name := "<init>", desc := "()V" } : Jvm.MethodName)) ∈ TBL := tb2 49 rfl rfl
theorem m2_50 : (Jvm.Cond.fieldLink "java/util/ArrayList" (39 : Nat) "java/util/ArrayList" "DEFAULTCAPACITY_EMPTY_ELEMENTDATA" "[Ljava/lang/Object;") ∈ TBL := tb2 50 rfl rfl
theorem l2_51 : (Jvm.Cond.laysStatic "java/util/ArrayList" "DEFAULTCAPACITY_EMPTY_ELEMENTDATA" "[Ljava/lang/Object;") ∈ lw_tbl := tl2 51 rfl
theorem m2_52 : (Jvm.Cond.fieldLink "java/util/ArrayList" (9 : Nat) "java/util/ArrayList" "elementData" "[Ljava/lang/Object;") ∈ TBL := tb2 52 rfl rfl
theorem m2_53 : (Jvm.Cond.fieldLink "java/util/ArrayList" (48 : Nat) "java/util/ArrayList" "size" "I") ∈ TBL := tb2 53 rfl rfl
theorem m2_54 : (Jvm.Cond.fieldLink "java/util/AbstractList" (7 : Nat) "java/util/AbstractList" "modCount" "I") ∈ TBL := tb2 54 rfl rfl
theorem m2_55 : (Jvm.Cond.fieldLink "java/util/ArrayList" (63 : Nat) "java/util/ArrayList" "modCount" "I") ∈ TBL := tb2 55 rfl rfl
theorem m2_56 : (Jvm.Cond.sameField "java/util/ArrayList" "java/util/AbstractList" "modCount" "I") ∈ TBL := tb2 56 rfl rfl
theorem m2_57 : (Jvm.Cond.lays "java/util/ArrayList" "java/util/ArrayList" "elementData" "[Ljava/lang/Object;") ∈ TBL := tb2 57 rfl rfl
theorem m2_59 : (Jvm.Cond.lays "java/util/ArrayList" "java/util/ArrayList" "size" "I") ∈ TBL := tb2 59 rfl rfl
theorem m2_61 : (Jvm.Cond.lays "java/util/ArrayList" "java/util/AbstractList" "modCount" "I") ∈ TBL := tb2 61 rfl rfl
theorem m2_64 : (Jvm.Cond.classLink "LittleMore" (74 : Nat) "[[J") ∈ TBL := tb2 64 rfl rfl
theorem l2_65 : (Jvm.Cond.arrayOver (Jvm.ClassFile.FieldType.array Jvm.ClassFile.FieldType.long)) ∈ lw_tbl := tl2 65 rfl
theorem m2_66 : (Jvm.Cond.methodLink "LittleMore" (87 : Nat) ({ cls := "java/util/Arrays", name := "fill", desc := "([II)V" } : Jvm.MethodName)) ∈ TBL := tb2 66 rfl rfl
theorem m2_67 : (Jvm.Cond.static ({ cls := "java/util/Arrays", name := "fill", desc := "([II)V" } : Jvm.MethodName)) ∈ TBL := tb2 67 rfl rfl
theorem m2_68 : (Jvm.Cond.code ({ cls := "java/util/Arrays", name := "fill", desc := "([II)V" } : Jvm.MethodName) prog_34_method_103_code (4 : Nat) (Option.none : Option Jvm.ClassFile.FieldType)) ∈ TBL := tb2 68 rfl rfl
theorem m2_69 : (Jvm.Cond.fieldLink "LittleMore" (32 : Nat) "LittleMore" "kinds" "[LLittleMore$Kind;") ∈ TBL := tb2 69 rfl rfl
theorem m2_70 : (Jvm.Cond.fieldLink "LittleMore" (43 : Nat) "LittleMore" "now" "LLittleMore$Shop;") ∈ TBL := tb2 70 rfl rfl
theorem m2_71 : (Jvm.Cond.fieldLink "LittleMore" (47 : Nat) "LittleMore" "image" "LLittleMore$Shop;") ∈ TBL := tb2 71 rfl rfl
theorem m2_72 : (Jvm.Cond.fieldLink "LittleMore" (50 : Nat) "LittleMore" "trial" "LLittleMore$Shop;") ∈ TBL := tb2 72 rfl rfl
theorem m2_73 : (Jvm.Cond.fieldLink "LittleMore" (56 : Nat) "LittleMore" "text" "LLittleMore$Text;") ∈ TBL := tb2 73 rfl rfl
theorem m2_74 : (Jvm.Cond.fieldLink "LittleMore" (63 : Nat) "LittleMore" "bodies" "Ljava/util/ArrayList;") ∈ TBL := tb2 74 rfl rfl
theorem m2_75 : (Jvm.Cond.fieldLink "LittleMore" (67 : Nat) "LittleMore" "sorts" "[I") ∈ TBL := tb2 75 rfl rfl
theorem m2_76 : (Jvm.Cond.fieldLink "LittleMore" (71 : Nat) "LittleMore" "lengths" "[I") ∈ TBL := tb2 76 rfl rfl
theorem m2_77 : (Jvm.Cond.fieldLink "LittleMore" (76 : Nat) "LittleMore" "items" "[[J") ∈ TBL := tb2 77 rfl rfl
theorem m2_78 : (Jvm.Cond.fieldLink "LittleMore" (79 : Nat) "LittleMore" "counters" "I") ∈ TBL := tb2 78 rfl rfl
theorem m2_79 : (Jvm.Cond.fieldLink "LittleMore" (83 : Nat) "LittleMore" "imageTaken" "Z") ∈ TBL := tb2 79 rfl rfl
theorem m2_80 : (Jvm.Cond.laysFinal "LittleMore" "LittleMore" "kinds" "[LLittleMore$Kind;") ∈ TBL := tb2 80 rfl rfl
theorem m2_82 : (Jvm.Cond.laysFinal "LittleMore" "LittleMore" "now" "LLittleMore$Shop;") ∈ TBL := tb2 82 rfl rfl
theorem m2_84 : (Jvm.Cond.laysFinal "LittleMore" "LittleMore" "image" "LLittleMore$Shop;") ∈ TBL := tb2 84 rfl rfl
theorem m2_86 : (Jvm.Cond.laysFinal "LittleMore" "LittleMore" "trial" "LLittleMore$Shop;") ∈ TBL := tb2 86 rfl rfl
theorem m2_88 : (Jvm.Cond.laysFinal "LittleMore" "LittleMore" "text" "LLittleMore$Text;") ∈ TBL := tb2 88 rfl rfl
theorem m2_90 : (Jvm.Cond.laysFinal "LittleMore" "LittleMore" "bodies" "Ljava/util/ArrayList;") ∈ TBL := tb2 90 rfl rfl
theorem m2_92 : (Jvm.Cond.laysFinal "LittleMore" "LittleMore" "sorts" "[I") ∈ TBL := tb2 92 rfl rfl
theorem m2_94 : (Jvm.Cond.laysFinal "LittleMore" "LittleMore" "lengths" "[I") ∈ TBL := tb2 94 rfl rfl
theorem m2_96 : (Jvm.Cond.laysFinal "LittleMore" "LittleMore" "items" "[[J") ∈ TBL := tb2 96 rfl rfl
theorem m2_98 : (Jvm.Cond.lays "LittleMore" "LittleMore" "counters" "I") ∈ TBL := tb2 98 rfl rfl
theorem m2_100 : (Jvm.Cond.lays "LittleMore" "LittleMore" "imageTaken" "Z") ∈ TBL := tb2 100 rfl rfl
theorem m2_103 : (Jvm.Cond.arrayClass Jvm.ClassFile.FieldType.long) ∈ TBL := tb2 103 rfl rfl
theorem m2_104 : (Jvm.Cond.methodLink "LittleMoreLaw" (13 : Nat) ({ cls := "LittleMore", name := "customer", desc := "(III)I" } : Jvm.MethodName)) ∈ TBL := tb2 104 rfl rfl
theorem m2_105 : (Jvm.Cond.instanceMethod ({ cls := "LittleMore", name := "customer", desc := "(III)I" } : Jvm.MethodName)) ∈ TBL := tb2 105 rfl rfl
theorem m2_106 : (Jvm.Cond.selects "LittleMore" ({ cls := "LittleMore", name := "customer", desc := "(III)I" } : Jvm.MethodName) ({ cls := "LittleMore", name := "customer", desc := "(III)I" } : Jvm.MethodName)) ∈ TBL := tb2 106 rfl rfl
theorem m2_107 : (Jvm.Cond.code ({ cls := "LittleMore", name := "customer", desc := "(III)I" } : Jvm.MethodName) prog_1_method_2_code (4 : Nat) (Option.some Jvm.ClassFile.FieldType.int)) ∈ TBL := tb2 107 rfl rfl
theorem m2_108 : (Jvm.Cond.methodLink "LittleMore" (93 : Nat) ({ cls := "LittleMore", name := "isOutside", desc := "(III)Z" } : Jvm.MethodName)) ∈ TBL := tb2 108 rfl rfl
theorem m2_109 : (Jvm.Cond.static ({ cls := "LittleMore", name := "isOutside", desc := "(III)Z" } : Jvm.MethodName)) ∈ TBL := tb2 109 rfl rfl
theorem m2_110 : (Jvm.Cond.code ({ cls := "LittleMore", name := "isOutside", desc := "(III)Z" } : Jvm.MethodName) prog_1_method_38_code (3 : Nat) (Option.some Jvm.ClassFile.FieldType.boolean)) ∈ TBL := tb2 110 rfl rfl
theorem m2_111 : (Jvm.Cond.methodLink "LittleMore" (104 : Nat) ({ cls := "LittleMore$Customer", name := "begin", desc := "(LLittleMore$Kind;II)V" } : Jvm.MethodName)) ∈ TBL := tb2 111 rfl rfl
theorem m2_112 : (Jvm.Cond.instanceMethod ({ cls := "LittleMore$Customer", name := "begin", desc := "(LLittleMore$Kind;II)V" } : Jvm.MethodName)) ∈ TBL := tb2 112 rfl rfl
theorem m2_113 : (Jvm.Cond.selects "LittleMore$Customer" ({ cls := "LittleMore$Customer", name := "begin", desc := "(LLittleMore$Kind;II)V" } : Jvm.MethodName) ({ cls := "LittleMore$Customer", name := "begin", desc := "(LLittleMore$Kind;II)V" } : Jvm.MethodName)) ∈ TBL := tb2 113 rfl rfl
theorem m2_114 : (Jvm.Cond.code ({ cls := "LittleMore$Customer", name := "begin", desc := "(LLittleMore$Kind;II)V" } : Jvm.MethodName) prog_5_method_2_code (4 : Nat) (Option.none : Option Jvm.ClassFile.FieldType)) ∈ TBL := tb2 114 rfl rfl
theorem m2_115 : (Jvm.Cond.methodLink "LittleMore$Customer" (45 : Nat) ({ cls := "java/util/Arrays", name := "fill", desc := "([II)V" } : Jvm.MethodName)) ∈ TBL := tb2 115 rfl rfl
theorem m2_116 : (Jvm.Cond.methodLink "LittleMoreLaw" (18 : Nat) ({ cls := "LittleMore", name := "of", desc := "(II)I" } : Jvm.MethodName)) ∈ TBL := tb2 116 rfl rfl
theorem m2_117 : (Jvm.Cond.instanceMethod ({ cls := "LittleMore", name := "of", desc := "(II)I" } : Jvm.MethodName)) ∈ TBL := tb2 117 rfl rfl
theorem m2_118 : (Jvm.Cond.selects "LittleMore" ({ cls := "LittleMore", name := "of", desc := "(II)I" } : Jvm.MethodName) ({ cls := "LittleMore", name := "of", desc := "(II)I" } : Jvm.MethodName)) ∈ TBL := tb2 118 rfl rfl
theorem m2_119 : (Jvm.Cond.code ({ cls := "LittleMore", name := "of", desc := "(II)I" } : Jvm.MethodName) prog_1_method_3_code (4 : Nat) (Option.some Jvm.ClassFile.FieldType.int)) ∈ TBL := tb2 119 rfl rfl
theorem m2_120 : (Jvm.Cond.methodLink "LittleMore" (110 : Nat) ({ cls := "LittleMore$Shop", name := "at", desc := "(I)LLittleMore$Customer;" } : Jvm.MethodName)) ∈ TBL := tb2 120 rfl rfl
theorem m2_121 : (Jvm.Cond.instanceMethod ({ cls := "LittleMore$Shop", name := "at", desc := "(I)LLittleMore$Customer;" } : Jvm.MethodName)) ∈ TBL := tb2 121 rfl rfl
theorem m2_122 : (Jvm.Cond.selects "LittleMore$Shop" ({ cls := "LittleMore$Shop", name := "at", desc := "(I)LLittleMore$Customer;" } : Jvm.MethodName) ({ cls := "LittleMore$Shop", name := "at", desc := "(I)LLittleMore$Customer;" } : Jvm.MethodName)) ∈ TBL := tb2 122 rfl rfl
theorem m2_123 : (Jvm.Cond.code ({ cls := "LittleMore$Shop", name := "at", desc := "(I)LLittleMore$Customer;" } : Jvm.MethodName) prog_9_method_3_code (2 : Nat) (Option.some (Jvm.ClassFile.FieldType.object "LittleMore$Customer"))) ∈ TBL := tb2 123 rfl rfl
theorem m2_124 : (Jvm.Cond.methodLink "LittleMore" (142 : Nat) ({ cls := "LittleMore$Shop", name := "moreFor", desc := "(LLittleMore$Customer;)I" } : Jvm.MethodName)) ∈ TBL := tb2 124 rfl rfl
theorem m2_125 : (Jvm.Cond.instanceMethod ({ cls := "LittleMore$Shop", name := "moreFor", desc := "(LLittleMore$Customer;)I" } : Jvm.MethodName)) ∈ TBL := tb2 125 rfl rfl
theorem m2_126 : (Jvm.Cond.selects "LittleMore$Shop" ({ cls := "LittleMore$Shop", name := "moreFor", desc := "(LLittleMore$Customer;)I" } : Jvm.MethodName) ({ cls := "LittleMore$Shop", name := "moreFor", desc := "(LLittleMore$Customer;)I" } : Jvm.MethodName)) ∈ TBL := tb2 126 rfl rfl
theorem m2_127 : (Jvm.Cond.code ({ cls := "LittleMore$Shop", name := "moreFor", desc := "(LLittleMore$Customer;)I" } : Jvm.MethodName) prog_9_method_4_code (2 : Nat) (Option.some Jvm.ClassFile.FieldType.int)) ∈ TBL := tb2 127 rfl rfl
theorem m2_128 : (Jvm.Cond.methodLink "LittleMore$Shop" (60 : Nat) ({ cls := "LittleMore$Counter", name := "addedByClauses", desc := "(LLittleMore$Customer;)I" } : Jvm.MethodName)) ∈ TBL := tb2 128 rfl rfl
theorem m2_129 : (Jvm.Cond.instanceMethod ({ cls := "LittleMore$Counter", name := "addedByClauses", desc := "(LLittleMore$Customer;)I" } : Jvm.MethodName)) ∈ TBL := tb2 129 rfl rfl
theorem m2_130 : (Jvm.Cond.selects "LittleMore$Counter" ({ cls := "LittleMore$Counter", name := "addedByClauses", desc := "(LLittleMore$Customer;)I" } : Jvm.MethodName) ({ cls := "LittleMore$Counter", name := "addedByClauses", desc := "(LLittleMore$Customer;)I" } : Jvm.MethodName)) ∈ TBL := tb2 130 rfl rfl
theorem m2_131 : (Jvm.Cond.code ({ cls := "LittleMore$Counter", name := "addedByClauses", desc := "(LLittleMore$Customer;)I" } : Jvm.MethodName) prog_3_method_3_code (8 : Nat) (Option.some Jvm.ClassFile.FieldType.int)) ∈ TBL := tb2 131 rfl rfl
theorem m2_132 : (Jvm.Cond.methodLink "LittleMore$Counter" (40 : Nat) ({ cls := "LittleMore$Counter", name := "valueOf", desc := "(LLittleMore$Customer;I)I" } : Jvm.MethodName)) ∈ TBL := tb2 132 rfl rfl
theorem m2_133 : (Jvm.Cond.static ({ cls := "LittleMore$Counter", name := "valueOf", desc := "(LLittleMore$Customer;I)I" } : Jvm.MethodName)) ∈ TBL := tb2 133 rfl rfl
theorem m2_134 : (Jvm.Cond.code ({ cls := "LittleMore$Counter", name := "valueOf", desc := "(LLittleMore$Customer;I)I" } : Jvm.MethodName) prog_3_method_4_code (2 : Nat) (Option.some Jvm.ClassFile.FieldType.int)) ∈ TBL := tb2 134 rfl rfl
theorem m2_135 : (Jvm.Cond.methodLink "LittleMore$Counter" (44 : Nat) ({ cls := "LittleMore$Counter", name := "compares", desc := "(III)Z" } : Jvm.MethodName)) ∈ TBL := tb2 135 rfl rfl
theorem m2_136 : (Jvm.Cond.static ({ cls := "LittleMore$Counter", name := "compares", desc := "(III)Z" } : Jvm.MethodName)) ∈ TBL := tb2 136 rfl rfl
theorem m2_137 : (Jvm.Cond.code ({ cls := "LittleMore$Counter", name := "compares", desc := "(III)Z" } : Jvm.MethodName) prog_3_method_5_code (3 : Nat) (Option.some Jvm.ClassFile.FieldType.boolean)) ∈ TBL := tb2 137 rfl rfl
theorem m2_138 : (Jvm.Cond.methodLink "LittleMore$Shop" (64 : Nat) ({ cls := "java/lang/Math", name := "max", desc := "(II)I" } : Jvm.MethodName)) ∈ TBL := tb2 138 rfl rfl
theorem m2_139 : (Jvm.Cond.static ({ cls := "java/lang/Math", name := "max", desc := "(II)I" } : Jvm.MethodName)) ∈ TBL := tb2 139 rfl rfl
theorem m2_140 : (Jvm.Cond.code ({ cls := "java/lang/Math", name := "max", desc := "(II)I" } : Jvm.MethodName) prog_23_method_65_code (2 : Nat) (Option.some Jvm.ClassFile.FieldType.int)) ∈ TBL := tb2 140 rfl rfl
theorem m2_141 : (Jvm.Cond.methodLink "LittleMore" (146 : Nat) ({ cls := "LittleMore$Kind", name := "portion", desc := "(LLittleMore$Customer;)I" } : Jvm.MethodName)) ∈ TBL := tb2 141 rfl rfl
theorem m2_142 : (Jvm.Cond.instanceMethod ({ cls := "LittleMore$Kind", name := "portion", desc := "(LLittleMore$Customer;)I" } : Jvm.MethodName)) ∈ TBL := tb2 142 rfl rfl
theorem m2_143 : (Jvm.Cond.selects "LittleMore$Kind" ({ cls := "LittleMore$Kind", name := "portion", desc := "(LLittleMore$Customer;)I" } : Jvm.MethodName) ({ cls := "LittleMore$Kind", name := "portion", desc := "(LLittleMore$Customer;)I" } : Jvm.MethodName)) ∈ TBL := tb2 143 rfl rfl
theorem m2_144 : (Jvm.Cond.sameMethod "LittleMore$Kind" "LittleMore$Kind" "portion" "(LLittleMore$Customer;)I") ∈ TBL := tb2 144 rfl rfl
theorem m2_145 : (Jvm.Cond.selects "LittleMore$Child" ({ cls := "LittleMore$Kind", name := "portion", desc := "(LLittleMore$Customer;)I" } : Jvm.MethodName) ({ cls := "LittleMore$Child", name := "portion", desc := "(LLittleMore$Customer;)I" } : Jvm.MethodName)) ∈ TBL := tb2 145 rfl rfl
theorem m2_146 : (Jvm.Cond.instanceMethod ({ cls := "LittleMore$Child", name := "portion", desc := "(LLittleMore$Customer;)I" } : Jvm.MethodName)) ∈ TBL := tb2 146 rfl rfl
theorem m2_147 : (Jvm.Cond.code ({ cls := "LittleMore$Child", name := "portion", desc := "(LLittleMore$Customer;)I" } : Jvm.MethodName) prog_2_method_2_code (2 : Nat) (Option.some Jvm.ClassFile.FieldType.int)) ∈ TBL := tb2 147 rfl rfl
theorem m2_148 : (Jvm.Cond.selects "LittleMore$Counting" ({ cls := "LittleMore$Kind", name := "portion", desc := "(LLittleMore$Customer;)I" } : Jvm.MethodName) ({ cls := "LittleMore$Counting", name := "portion", desc := "(LLittleMore$Customer;)I" } : Jvm.MethodName)) ∈ TBL := tb2 148 rfl rfl
theorem m2_149 : (Jvm.Cond.instanceMethod ({ cls := "LittleMore$Counting", name := "portion", desc := "(LLittleMore$Customer;)I" } : Jvm.MethodName)) ∈ TBL := tb2 149 rfl rfl
theorem m2_150 : (Jvm.Cond.code ({ cls := "LittleMore$Counting", name := "portion", desc := "(LLittleMore$Customer;)I" } : Jvm.MethodName) prog_4_method_2_code (2 : Nat) (Option.some Jvm.ClassFile.FieldType.int)) ∈ TBL := tb2 150 rfl rfl
theorem m2_151 : (Jvm.Cond.methodLink "LittleMore$Counting" (7 : Nat) ({ cls := "LittleMore$Strict", name := "portion", desc := "(LLittleMore$Customer;)I" } : Jvm.MethodName)) ∈ TBL := tb2 151 rfl rfl
theorem m2_152 : (Jvm.Cond.instanceMethod ({ cls := "LittleMore$Strict", name := "portion", desc := "(LLittleMore$Customer;)I" } : Jvm.MethodName)) ∈ TBL := tb2 152 rfl rfl
theorem m2_153 : (Jvm.Cond.code ({ cls := "LittleMore$Strict", name := "portion", desc := "(LLittleMore$Customer;)I" } : Jvm.MethodName) prog_10_method_2_code (2 : Nat) (Option.some Jvm.ClassFile.FieldType.int)) ∈ TBL := tb2 153 rfl rfl
theorem m2_154 : (Jvm.Cond.methodLink "LittleMore$Strict" (16 : Nat) ({ cls := "java/lang/Math", name := "max", desc := "(II)I" } : Jvm.MethodName)) ∈ TBL := tb2 154 rfl rfl
theorem m2_155 : (Jvm.Cond.methodLink "LittleMore$Counting" (11 : Nat) ({ cls := "java/lang/Math", name := "max", desc := "(II)I" } : Jvm.MethodName)) ∈ TBL := tb2 155 rfl rfl
theorem m2_156 : (Jvm.Cond.selects "LittleMore$Gentle" ({ cls := "LittleMore$Kind", name := "portion", desc := "(LLittleMore$Customer;)I" } : Jvm.MethodName) ({ cls := "LittleMore$Kind", name := "portion", desc := "(LLittleMore$Customer;)I" } : Jvm.MethodName)) ∈ TBL := tb2 156 rfl rfl
theorem m2_157 : (Jvm.Cond.selects "LittleMore$Leaving" ({ cls := "LittleMore$Kind", name := "portion", desc := "(LLittleMore$Customer;)I" } : Jvm.MethodName) ({ cls := "LittleMore$Kind", name := "portion", desc := "(LLittleMore$Customer;)I" } : Jvm.MethodName)) ∈ TBL := tb2 157 rfl rfl
theorem m2_158 : (Jvm.Cond.selects "LittleMore$Strict" ({ cls := "LittleMore$Kind", name := "portion", desc := "(LLittleMore$Customer;)I" } : Jvm.MethodName) ({ cls := "LittleMore$Strict", name := "portion", desc := "(LLittleMore$Customer;)I" } : Jvm.MethodName)) ∈ TBL := tb2 158 rfl rfl
theorem m2_159 : (Jvm.Cond.selects "LittleMore$Told" ({ cls := "LittleMore$Kind", name := "portion", desc := "(LLittleMore$Customer;)I" } : Jvm.MethodName) ({ cls := "LittleMore$Told", name := "portion", desc := "(LLittleMore$Customer;)I" } : Jvm.MethodName)) ∈ TBL := tb2 159 rfl rfl
theorem m2_160 : (Jvm.Cond.instanceMethod ({ cls := "LittleMore$Told", name := "portion", desc := "(LLittleMore$Customer;)I" } : Jvm.MethodName)) ∈ TBL := tb2 160 rfl rfl
theorem m2_161 : (Jvm.Cond.code ({ cls := "LittleMore$Told", name := "portion", desc := "(LLittleMore$Customer;)I" } : Jvm.MethodName) prog_12_method_2_code (2 : Nat) (Option.some Jvm.ClassFile.FieldType.int)) ∈ TBL := tb2 161 rfl rfl
theorem m2_162 : (Jvm.Cond.methodLink "LittleMore$Told" (9 : Nat) ({ cls := "LittleMore$Child", name := "portion", desc := "(LLittleMore$Customer;)I" } : Jvm.MethodName)) ∈ TBL := tb2 162 rfl rfl
theorem m2_163 : (Jvm.Cond.methodLink "LittleMore$Told" (23 : Nat) ({ cls := "java/lang/Math", name := "floorMod", desc := "(II)I" } : Jvm.MethodName)) ∈ TBL := tb2 163 rfl rfl
theorem m2_164 : (Jvm.Cond.static ({ cls := "java/lang/Math", name := "floorMod", desc := "(II)I" } : Jvm.MethodName)) ∈ TBL := tb2 164 rfl rfl
theorem m2_165 : (Jvm.Cond.code ({ cls := "java/lang/Math", name := "floorMod", desc := "(II)I" } : Jvm.MethodName) prog_23_method_50_code (3 : Nat) (Option.some Jvm.ClassFile.FieldType.int)) ∈ TBL := tb2 165 rfl rfl
theorem m2_166 : (Jvm.Cond.code ({ cls := "LittleMore$Kind", name := "portion", desc := "(LLittleMore$Customer;)I" } : Jvm.MethodName) prog_7_method_2_code (2 : Nat) (Option.some Jvm.ClassFile.FieldType.int)) ∈ TBL := tb2 166 rfl rfl
theorem m2_167 : (Jvm.Cond.methodLink "LittleMore" (149 : Nat) ({ cls := "LittleMore$Kind", name := "patience", desc := "(LLittleMore$Customer;)I" } : Jvm.MethodName)) ∈ TBL := tb2 167 rfl rfl
theorem m2_168 : (Jvm.Cond.instanceMethod ({ cls := "LittleMore$Kind", name := "patience", desc := "(LLittleMore$Customer;)I" } : Jvm.MethodName)) ∈ TBL := tb2 168 rfl rfl
theorem m2_169 : (Jvm.Cond.selects "LittleMore$Kind" ({ cls := "LittleMore$Kind", name := "patience", desc := "(LLittleMore$Customer;)I" } : Jvm.MethodName) ({ cls := "LittleMore$Kind", name := "patience", desc := "(LLittleMore$Customer;)I" } : Jvm.MethodName)) ∈ TBL := tb2 169 rfl rfl
theorem m2_170 : (Jvm.Cond.sameMethod "LittleMore$Kind" "LittleMore$Kind" "patience" "(LLittleMore$Customer;)I") ∈ TBL := tb2 170 rfl rfl
theorem m2_171 : (Jvm.Cond.selects "LittleMore$Child" ({ cls := "LittleMore$Kind", name := "patience", desc := "(LLittleMore$Customer;)I" } : Jvm.MethodName) ({ cls := "LittleMore$Child", name := "patience", desc := "(LLittleMore$Customer;)I" } : Jvm.MethodName)) ∈ TBL := tb2 171 rfl rfl
theorem m2_172 : (Jvm.Cond.instanceMethod ({ cls := "LittleMore$Child", name := "patience", desc := "(LLittleMore$Customer;)I" } : Jvm.MethodName)) ∈ TBL := tb2 172 rfl rfl
theorem m2_173 : (Jvm.Cond.code ({ cls := "LittleMore$Child", name := "patience", desc := "(LLittleMore$Customer;)I" } : Jvm.MethodName) prog_2_method_3_code (2 : Nat) (Option.some Jvm.ClassFile.FieldType.int)) ∈ TBL := tb2 173 rfl rfl
theorem m2_174 : (Jvm.Cond.selects "LittleMore$Counting" ({ cls := "LittleMore$Kind", name := "patience", desc := "(LLittleMore$Customer;)I" } : Jvm.MethodName) ({ cls := "LittleMore$Counting", name := "patience", desc := "(LLittleMore$Customer;)I" } : Jvm.MethodName)) ∈ TBL := tb2 174 rfl rfl
theorem m2_175 : (Jvm.Cond.instanceMethod ({ cls := "LittleMore$Counting", name := "patience", desc := "(LLittleMore$Customer;)I" } : Jvm.MethodName)) ∈ TBL := tb2 175 rfl rfl
theorem m2_176 : (Jvm.Cond.code ({ cls := "LittleMore$Counting", name := "patience", desc := "(LLittleMore$Customer;)I" } : Jvm.MethodName) prog_4_method_3_code (2 : Nat) (Option.some Jvm.ClassFile.FieldType.int)) ∈ TBL := tb2 176 rfl rfl
theorem m2_177 : (Jvm.Cond.methodLink "LittleMore$Counting" (17 : Nat) ({ cls := "LittleMore$Strict", name := "patience", desc := "(LLittleMore$Customer;)I" } : Jvm.MethodName)) ∈ TBL := tb2 177 rfl rfl
theorem m2_178 : (Jvm.Cond.instanceMethod ({ cls := "LittleMore$Strict", name := "patience", desc := "(LLittleMore$Customer;)I" } : Jvm.MethodName)) ∈ TBL := tb2 178 rfl rfl
theorem m2_179 : (Jvm.Cond.code ({ cls := "LittleMore$Strict", name := "patience", desc := "(LLittleMore$Customer;)I" } : Jvm.MethodName) prog_10_method_3_code (2 : Nat) (Option.some Jvm.ClassFile.FieldType.int)) ∈ TBL := tb2 179 rfl rfl
theorem m2_180 : (Jvm.Cond.selects "LittleMore$Gentle" ({ cls := "LittleMore$Kind", name := "patience", desc := "(LLittleMore$Customer;)I" } : Jvm.MethodName) ({ cls := "LittleMore$Gentle", name := "patience", desc := "(LLittleMore$Customer;)I" } : Jvm.MethodName)) ∈ TBL := tb2 180 rfl rfl
theorem m2_181 : (Jvm.Cond.instanceMethod ({ cls := "LittleMore$Gentle", name := "patience", desc := "(LLittleMore$Customer;)I" } : Jvm.MethodName)) ∈ TBL := tb2 181 rfl rfl
theorem m2_182 : (Jvm.Cond.code ({ cls := "LittleMore$Gentle", name := "patience", desc := "(LLittleMore$Customer;)I" } : Jvm.MethodName) prog_6_method_2_code (2 : Nat) (Option.some Jvm.ClassFile.FieldType.int)) ∈ TBL := tb2 182 rfl rfl
theorem m2_183 : (Jvm.Cond.selects "LittleMore$Leaving" ({ cls := "LittleMore$Kind", name := "patience", desc := "(LLittleMore$Customer;)I" } : Jvm.MethodName) ({ cls := "LittleMore$Gentle", name := "patience", desc := "(LLittleMore$Customer;)I" } : Jvm.MethodName)) ∈ TBL := tb2 183 rfl rfl
theorem m2_184 : (Jvm.Cond.selects "LittleMore$Strict" ({ cls := "LittleMore$Kind", name := "patience", desc := "(LLittleMore$Customer;)I" } : Jvm.MethodName) ({ cls := "LittleMore$Strict", name := "patience", desc := "(LLittleMore$Customer;)I" } : Jvm.MethodName)) ∈ TBL := tb2 184 rfl rfl
theorem m2_185 : (Jvm.Cond.selects "LittleMore$Told" ({ cls := "LittleMore$Kind", name := "patience", desc := "(LLittleMore$Customer;)I" } : Jvm.MethodName) ({ cls := "LittleMore$Child", name := "patience", desc := "(LLittleMore$Customer;)I" } : Jvm.MethodName)) ∈ TBL := tb2 185 rfl rfl
theorem m2_186 : (Jvm.Cond.code ({ cls := "LittleMore$Kind", name := "patience", desc := "(LLittleMore$Customer;)I" } : Jvm.MethodName) prog_7_method_3_code (2 : Nat) (Option.some Jvm.ClassFile.FieldType.int)) ∈ TBL := tb2 186 rfl rfl
theorem m2_187 : (Jvm.Cond.methodLink "LittleMore" (152 : Nat) ({ cls := "LittleMore$Shop", name := "refuses", desc := "(LLittleMore$Customer;)Z" } : Jvm.MethodName)) ∈ TBL := tb2 187 rfl rfl
theorem m2_188 : (Jvm.Cond.instanceMethod ({ cls := "LittleMore$Shop", name := "refuses", desc := "(LLittleMore$Customer;)Z" } : Jvm.MethodName)) ∈ TBL := tb2 188 rfl rfl
theorem m2_189 : (Jvm.Cond.selects "LittleMore$Shop" ({ cls := "LittleMore$Shop", name := "refuses", desc := "(LLittleMore$Customer;)Z" } : Jvm.MethodName) ({ cls := "LittleMore$Shop", name := "refuses", desc := "(LLittleMore$Customer;)Z" } : Jvm.MethodName)) ∈ TBL := tb2 189 rfl rfl
theorem m2_190 : (Jvm.Cond.code ({ cls := "LittleMore$Shop", name := "refuses", desc := "(LLittleMore$Customer;)Z" } : Jvm.MethodName) prog_9_method_5_code (2 : Nat) (Option.some Jvm.ClassFile.FieldType.boolean)) ∈ TBL := tb2 190 rfl rfl
theorem m2_191 : (Jvm.Cond.methodLink "LittleMore$Shop" (70 : Nat) ({ cls := "LittleMore$Shop", name := "moreFor", desc := "(LLittleMore$Customer;)I" } : Jvm.MethodName)) ∈ TBL := tb2 191 rfl rfl
theorem m2_192 : (Jvm.Cond.methodLink "LittleMore$Shop" (77 : Nat) ({ cls := "LittleMore$Kind", name := "patience", desc := "(LLittleMore$Customer;)I" } : Jvm.MethodName)) ∈ TBL := tb2 192 rfl rfl
theorem m2_193 : (Jvm.Cond.methodLink "LittleMoreLaw" (23 : Nat) ({ cls := "LittleMore", name := "set", desc := "(III)I" } : Jvm.MethodName)) ∈ TBL := tb2 193 rfl rfl
theorem m2_194 : (Jvm.Cond.instanceMethod ({ cls := "LittleMore", name := "set", desc := "(III)I" } : Jvm.MethodName)) ∈ TBL := tb2 194 rfl rfl
theorem m2_195 : (Jvm.Cond.selects "LittleMore" ({ cls := "LittleMore", name := "set", desc := "(III)I" } : Jvm.MethodName) ({ cls := "LittleMore", name := "set", desc := "(III)I" } : Jvm.MethodName)) ∈ TBL := tb2 195 rfl rfl
theorem m2_196 : (Jvm.Cond.code ({ cls := "LittleMore", name := "set", desc := "(III)I" } : Jvm.MethodName) prog_1_method_4_code (6 : Nat) (Option.some Jvm.ClassFile.FieldType.int)) ∈ TBL := tb2 196 rfl rfl
theorem m2_197 : (Jvm.Cond.methodLink "LittleMoreLaw" (27 : Nat) ({ cls := "LittleMore", name := "row", desc := "(III)I" } : Jvm.MethodName)) ∈ TBL := tb2 197 rfl rfl
theorem m2_198 : (Jvm.Cond.instanceMethod ({ cls := "LittleMore", name := "row", desc := "(III)I" } : Jvm.MethodName)) ∈ TBL := tb2 198 rfl rfl
theorem m2_199 : (Jvm.Cond.selects "LittleMore" ({ cls := "LittleMore", name := "row", desc := "(III)I" } : Jvm.MethodName) ({ cls := "LittleMore", name := "row", desc := "(III)I" } : Jvm.MethodName)) ∈ TBL := tb2 199 rfl rfl
theorem m2_200 : (Jvm.Cond.code ({ cls := "LittleMore", name := "row", desc := "(III)I" } : Jvm.MethodName) prog_1_method_5_code (6 : Nat) (Option.some Jvm.ClassFile.FieldType.int)) ∈ TBL := tb2 200 rfl rfl
theorem m2_201 : (Jvm.Cond.methodLink "LittleMoreLaw" (31 : Nat) ({ cls := "LittleMore", name := "feed", desc := "(I)I" } : Jvm.MethodName)) ∈ TBL := tb2 201 rfl rfl
theorem m2_202 : (Jvm.Cond.instanceMethod ({ cls := "LittleMore", name := "feed", desc := "(I)I" } : Jvm.MethodName)) ∈ TBL := tb2 202 rfl rfl
theorem m2_203 : (Jvm.Cond.selects "LittleMore" ({ cls := "LittleMore", name := "feed", desc := "(I)I" } : Jvm.MethodName) ({ cls := "LittleMore", name := "feed", desc := "(I)I" } : Jvm.MethodName)) ∈ TBL := tb2 203 rfl rfl
theorem m2_204 : (Jvm.Cond.code ({ cls := "LittleMore", name := "feed", desc := "(I)I" } : Jvm.MethodName) prog_1_method_6_code (2 : Nat) (Option.some Jvm.ClassFile.FieldType.int)) ∈ TBL := tb2 204 rfl rfl
theorem m2_205 : (Jvm.Cond.methodLink "LittleMoreLaw" (36 : Nat) ({ cls := "LittleMore", name := "counter", desc := "()I" } : Jvm.MethodName)) ∈ TBL := tb2 205 rfl rfl
theorem m2_206 : (Jvm.Cond.instanceMethod ({ cls := "LittleMore", name := "counter", desc := "()I" } : Jvm.MethodName)) ∈ TBL := tb2 206 rfl rfl
theorem m2_207 : (Jvm.Cond.selects "LittleMore" ({ cls := "LittleMore", name := "counter", desc := "()I" } : Jvm.MethodName) ({ cls := "LittleMore", name := "counter", desc := "()I" } : Jvm.MethodName)) ∈ TBL := tb2 207 rfl rfl
theorem m2_208 : (Jvm.Cond.code ({ cls := "LittleMore", name := "counter", desc := "()I" } : Jvm.MethodName) prog_1_method_7_code (2 : Nat) (Option.some Jvm.ClassFile.FieldType.int)) ∈ TBL := tb2 208 rfl rfl
theorem m2_209 : (Jvm.Cond.methodLink "LittleMore" (166 : Nat) ({ cls := "LittleMore$Text", name := "toCounter", desc := "()LLittleMore$Counter;" } : Jvm.MethodName)) ∈ TBL := tb2 209 rfl rfl
theorem m2_210 : (Jvm.Cond.instanceMethod ({ cls := "LittleMore$Text", name := "toCounter", desc := "()LLittleMore$Counter;" } : Jvm.MethodName)) ∈ TBL := tb2 210 rfl rfl
theorem m2_211 : (Jvm.Cond.selects "LittleMore$Text" ({ cls := "LittleMore$Text", name := "toCounter", desc := "()LLittleMore$Counter;" } : Jvm.MethodName) ({ cls := "LittleMore$Text", name := "toCounter", desc := "()LLittleMore$Counter;" } : Jvm.MethodName)) ∈ TBL := tb2 211 rfl rfl
theorem m2_212 : (Jvm.Cond.code ({ cls := "LittleMore$Text", name := "toCounter", desc := "()LLittleMore$Counter;" } : Jvm.MethodName) prog_11_method_2_code (3 : Nat) (Option.some (Jvm.ClassFile.FieldType.object "LittleMore$Counter"))) ∈ TBL := tb2 212 rfl rfl
theorem m2_213 : (Jvm.Cond.methodLink "LittleMore$Text" (41 : Nat) ({ cls := "LittleMore$Text", name := "takes", desc := "(C)Z" } : Jvm.MethodName)) ∈ TBL := tb2 213 rfl rfl
theorem m2_215 : (Jvm.Cond.instanceMethod ({ cls := "LittleMore$Text", name := "takes", desc := "(C)Z" } : Jvm.MethodName)) ∈ TBL := tb2 215 rfl rfl
theorem m2_216 : (Jvm.Cond.code ({ cls := "LittleMore$Text", name := "takes", desc := "(C)Z" } : Jvm.MethodName) prog_11_method_13_code (2 : Nat) (Option.some Jvm.ClassFile.FieldType.boolean)) ∈ TBL := tb2 216 rfl rfl
theorem m2_217 : (Jvm.Cond.methodLink "LittleMore$Text" (93 : Nat) ({ cls := "LittleMore$Text", name := "signAt", desc := "(I)I" } : Jvm.MethodName)) ∈ TBL := tb2 217 rfl rfl
theorem m2_219 : (Jvm.Cond.instanceMethod ({ cls := "LittleMore$Text", name := "signAt", desc := "(I)I" } : Jvm.MethodName)) ∈ TBL := tb2 219 rfl rfl
theorem m2_220 : (Jvm.Cond.code ({ cls := "LittleMore$Text", name := "signAt", desc := "(I)I" } : Jvm.MethodName) prog_11_method_12_code (2 : Nat) (Option.some Jvm.ClassFile.FieldType.int)) ∈ TBL := tb2 220 rfl rfl
theorem m2_221 : (Jvm.Cond.methodLink "LittleMore$Text" (45 : Nat) ({ cls := "LittleMore$Text", name := "readClause", desc := "()Z" } : Jvm.MethodName)) ∈ TBL := tb2 221 rfl rfl
theorem m2_223 : (Jvm.Cond.instanceMethod ({ cls := "LittleMore$Text", name := "readClause", desc := "()Z" } : Jvm.MethodName)) ∈ TBL := tb2 223 rfl rfl
theorem m2_224 : (Jvm.Cond.code ({ cls := "LittleMore$Text", name := "readClause", desc := "()Z" } : Jvm.MethodName) prog_11_method_3_code (3 : Nat) (Option.some Jvm.ClassFile.FieldType.boolean)) ∈ TBL := tb2 224 rfl rfl
theorem m2_225 : (Jvm.Cond.methodLink "LittleMore$Text" (54 : Nat) ({ cls := "LittleMore$Text", name := "readWord", desc := "()I" } : Jvm.MethodName)) ∈ TBL := tb2 225 rfl rfl
theorem m2_227 : (Jvm.Cond.instanceMethod ({ cls := "LittleMore$Text", name := "readWord", desc := "()I" } : Jvm.MethodName)) ∈ TBL := tb2 227 rfl rfl
theorem m2_228 : (Jvm.Cond.code ({ cls := "LittleMore$Text", name := "readWord", desc := "()I" } : Jvm.MethodName) prog_11_method_4_code (5 : Nat) (Option.some Jvm.ClassFile.FieldType.int)) ∈ TBL := tb2 228 rfl rfl
theorem m2_229 : (Jvm.Cond.methodLink "LittleMore$Text" (69 : Nat) ({ cls := "LittleMore$Text", name := "nameOf", desc := "(I)Ljava/lang/String;" } : Jvm.MethodName)) ∈ TBL := tb2 229 rfl rfl
theorem m2_230 : (Jvm.Cond.static ({ cls := "LittleMore$Text", name := "nameOf", desc := "(I)Ljava/lang/String;" } : Jvm.MethodName)) ∈ TBL := tb2 230 rfl rfl
theorem m2_231 : (Jvm.Cond.code ({ cls := "LittleMore$Text", name := "nameOf", desc := "(I)Ljava/lang/String;" } : Jvm.MethodName) prog_11_method_5_code (1 : Nat) (Option.some (Jvm.ClassFile.FieldType.object "java/lang/String"))) ∈ TBL := tb2 231 rfl rfl
theorem l2_232 : (Jvm.Cond.stringRef "LittleMore$Text" (87 : Nat) "more") ∈ lw_tbl := tl2 232 rfl
theorem l2_233 : (Jvm.Cond.stringRef "LittleMore$Text" (89 : Nat) "less") ∈ lw_tbl := tl2 233 rfl
theorem l2_234 : (Jvm.Cond.stringRef "LittleMore$Text" (91 : Nat) "price") ∈ lw_tbl := tl2 234 rfl
theorem l2_235 : (Jvm.Cond.stringRef "LittleMore$Text" (92 : Nat) "learn") ∈ lw_tbl := tl2 235 rfl
theorem m2_236 : (Jvm.Cond.methodLink "LittleMore$Text" (73 : Nat) ({ cls := "LittleMore$Text", name := "howManyAlike", desc := "(Ljava/lang/String;)I" } : Jvm.MethodName)) ∈ TBL := tb2 236 rfl rfl
theorem m2_238 : (Jvm.Cond.instanceMethod ({ cls := "LittleMore$Text", name := "howManyAlike", desc := "(Ljava/lang/String;)I" } : Jvm.MethodName)) ∈ TBL := tb2 238 rfl rfl
theorem m2_239 : (Jvm.Cond.code ({ cls := "LittleMore$Text", name := "howManyAlike", desc := "(Ljava/lang/String;)I" } : Jvm.MethodName) prog_11_method_6_code (3 : Nat) (Option.some Jvm.ClassFile.FieldType.int)) ∈ TBL := tb2 239 rfl rfl
theorem m3_0 : (Jvm.Cond.methodLink "LittleMore$Text" (77 : Nat) ({ cls := "java/lang/String", name := "length", desc := "()I" } : Jvm.MethodName)) ∈ TBL := tb3 0 rfl rfl
theorem m3_1 : (Jvm.Cond.instanceMethod ({ cls := "java/lang/String", name := "length", desc := "()I" } : Jvm.MethodName)) ∈ TBL := tb3 1 rfl rfl
theorem m3_2 : (Jvm.Cond.selects "java/lang/String" ({ cls := "java/lang/String", name := "length", desc := "()I" } : Jvm.MethodName) ({ cls := "java/lang/String", name := "length", desc := "()I" } : Jvm.MethodName)) ∈ TBL := tb3 2 rfl rfl
theorem m3_3 : (Jvm.Cond.code ({ cls := "java/lang/String", name := "length", desc := "()I" } : Jvm.MethodName) prog_25_method_54_code (1 : Nat) (Option.some Jvm.ClassFile.FieldType.int)) ∈ TBL := tb3 3 rfl rfl
theorem m3_4 : (Jvm.Cond.methodLink "java/lang/String" (335 : Nat) ({ cls := "java/lang/String", name := "coder", desc := "()B" } : Jvm.MethodName)) ∈ TBL := tb3 4 rfl rfl
theorem m3_5 : (Jvm.Cond.instanceMethod ({ cls := "java/lang/String", name := "coder", desc := "()B" } : Jvm.MethodName)) ∈ TBL := tb3 5 rfl rfl
theorem m3_6 : (Jvm.Cond.selects "java/lang/String" ({ cls := "java/lang/String", name := "coder", desc := "()B" } : Jvm.MethodName) ({ cls := "java/lang/String", name := "coder", desc := "()B" } : Jvm.MethodName)) ∈ TBL := tb3 6 rfl rfl
theorem m3_7 : (Jvm.Cond.code ({ cls := "java/lang/String", name := "coder", desc := "()B" } : Jvm.MethodName) prog_25_method_152_code (1 : Nat) (Option.some Jvm.ClassFile.FieldType.byte)) ∈ TBL := tb3 7 rfl rfl
theorem m3_8 : (Jvm.Cond.fieldLink "java/lang/String" (38 : Nat) "java/lang/String" "COMPACT_STRINGS" "Z") ∈ TBL := tb3 8 rfl rfl
theorem l3_9 : (Jvm.Cond.laysStatic "java/lang/String" "COMPACT_STRINGS" "Z") ∈ lw_tbl := tl3 9 rfl
theorem m3_10 : (Jvm.Cond.methodLink "LittleMore$Text" (97 : Nat) ({ cls := "java/lang/String", name := "charAt", desc := "(I)C" } : Jvm.MethodName)) ∈ TBL := tb3 10 rfl rfl
theorem m3_11 : (Jvm.Cond.instanceMethod ({ cls := "java/lang/String", name := "charAt", desc := "(I)C" } : Jvm.MethodName)) ∈ TBL := tb3 11 rfl rfl
theorem m3_12 : (Jvm.Cond.selects "java/lang/String" ({ cls := "java/lang/String", name := "charAt", desc := "(I)C" } : Jvm.MethodName) ({ cls := "java/lang/String", name := "charAt", desc := "(I)C" } : Jvm.MethodName)) ∈ TBL := tb3 12 rfl rfl
theorem m3_13 : (Jvm.Cond.code ({ cls := "java/lang/String", name := "charAt", desc := "(I)C" } : Jvm.MethodName) prog_25_method_56_code (2 : Nat) (Option.some Jvm.ClassFile.FieldType.char)) ∈ TBL := tb3 13 rfl rfl
theorem m3_14 : (Jvm.Cond.methodLink "java/lang/String" (492 : Nat) ({ cls := "java/lang/String", name := "isLatin1", desc := "()Z" } : Jvm.MethodName)) ∈ TBL := tb3 14 rfl rfl
theorem m3_15 : (Jvm.Cond.instanceMethod ({ cls := "java/lang/String", name := "isLatin1", desc := "()Z" } : Jvm.MethodName)) ∈ TBL := tb3 15 rfl rfl
theorem m3_16 : (Jvm.Cond.selects "java/lang/String" ({ cls := "java/lang/String", name := "isLatin1", desc := "()Z" } : Jvm.MethodName) ({ cls := "java/lang/String", name := "isLatin1", desc := "()Z" } : Jvm.MethodName)) ∈ TBL := tb3 16 rfl rfl
theorem m3_17 : (Jvm.Cond.code ({ cls := "java/lang/String", name := "isLatin1", desc := "()Z" } : Jvm.MethodName) prog_25_method_154_code (1 : Nat) (Option.some Jvm.ClassFile.FieldType.boolean)) ∈ TBL := tb3 17 rfl rfl
theorem m3_18 : (Jvm.Cond.methodLink "java/lang/String" (495 : Nat) ({ cls := "java/lang/StringLatin1", name := "charAt", desc := "([BI)C" } : Jvm.MethodName)) ∈ TBL := tb3 18 rfl rfl
theorem m3_19 : (Jvm.Cond.static ({ cls := "java/lang/StringLatin1", name := "charAt", desc := "([BI)C" } : Jvm.MethodName)) ∈ TBL := tb3 19 rfl rfl
theorem m3_20 : (Jvm.Cond.code ({ cls := "java/lang/StringLatin1", name := "charAt", desc := "([BI)C" } : Jvm.MethodName) prog_26_method_2_code (2 : Nat) (Option.some Jvm.ClassFile.FieldType.char)) ∈ TBL := tb3 20 rfl rfl
theorem m3_21 : (Jvm.Cond.methodLink "java/lang/StringLatin1" (9 : Nat) ({ cls := "java/lang/String", name := "checkIndex", desc := "(II)V" } : Jvm.MethodName)) ∈ TBL := tb3 21 rfl rfl
theorem m3_22 : (Jvm.Cond.static ({ cls := "java/lang/String", name := "checkIndex", desc := "(II)V" } : Jvm.MethodName)) ∈ TBL := tb3 22 rfl rfl
theorem m3_23 : (Jvm.Cond.code ({ cls := "java/lang/String", name := "checkIndex", desc := "(II)V" } : Jvm.MethodName) prog_25_method_155_code (2 : Nat) (Option.none : Option Jvm.ClassFile.FieldType)) ∈ TBL := tb3 23 rfl rfl
theorem m3_24 : (Jvm.Cond.fieldLink "java/lang/String" (1053 : Nat) "jdk/internal/util/Preconditions" "SIOOBE_FORMATTER" "Ljava/util/function/BiFunction;") ∈ TBL := tb3 24 rfl rfl
theorem l3_25 : (Jvm.Cond.laysStatic "jdk/internal/util/Preconditions" "SIOOBE_FORMATTER" "Ljava/util/function/BiFunction;") ∈ lw_tbl := tl3 25 rfl
theorem m3_26 : (Jvm.Cond.methodLink "java/lang/String" (1059 : Nat) ({ cls := "jdk/internal/util/Preconditions", name := "checkIndex", desc := "(IILjava/util/function/BiFunction;)I" } : Jvm.MethodName)) ∈ TBL := tb3 26 rfl rfl
theorem m3_27 : (Jvm.Cond.static ({ cls := "jdk/internal/util/Preconditions", name := "checkIndex", desc := "(IILjava/util/function/BiFunction;)I" } : Jvm.MethodName)) ∈ TBL := tb3 27 rfl rfl
theorem m3_28 : (Jvm.Cond.code ({ cls := "jdk/internal/util/Preconditions", name := "checkIndex", desc := "(IILjava/util/function/BiFunction;)I" } : Jvm.MethodName) prog_41_method_11_code (3 : Nat) (Option.some Jvm.ClassFile.FieldType.int)) ∈ TBL := tb3 28 rfl rfl
theorem m3_48 : (Jvm.Cond.methodLink "LittleMore$Text" (81 : Nat) ({ cls := "java/lang/Math", name := "max", desc := "(II)I" } : Jvm.MethodName)) ∈ TBL := tb3 48 rfl rfl
theorem m3_49 : (Jvm.Cond.methodLink "LittleMore$Text" (58 : Nat) ({ cls := "LittleMore$Text", name := "readNumber", desc := "()Z" } : Jvm.MethodName)) ∈ TBL := tb3 49 rfl rfl
theorem m3_51 : (Jvm.Cond.instanceMethod ({ cls := "LittleMore$Text", name := "readNumber", desc := "()Z" } : Jvm.MethodName)) ∈ TBL := tb3 51 rfl rfl
theorem m3_52 : (Jvm.Cond.code ({ cls := "LittleMore$Text", name := "readNumber", desc := "()Z" } : Jvm.MethodName) prog_11_method_10_code (1 : Nat) (Option.some Jvm.ClassFile.FieldType.boolean)) ∈ TBL := tb3 52 rfl rfl
theorem m3_53 : (Jvm.Cond.methodLink "LittleMore$Text" (114 : Nat) ({ cls := "LittleMore$Text", name := "isDigit", desc := "(I)Z" } : Jvm.MethodName)) ∈ TBL := tb3 53 rfl rfl
theorem m3_54 : (Jvm.Cond.static ({ cls := "LittleMore$Text", name := "isDigit", desc := "(I)Z" } : Jvm.MethodName)) ∈ TBL := tb3 54 rfl rfl
theorem m3_55 : (Jvm.Cond.code ({ cls := "LittleMore$Text", name := "isDigit", desc := "(I)Z" } : Jvm.MethodName) prog_11_method_11_code (1 : Nat) (Option.some Jvm.ClassFile.FieldType.boolean)) ∈ TBL := tb3 55 rfl rfl
theorem m3_56 : (Jvm.Cond.methodLink "LittleMore$Text" (61 : Nat) ({ cls := "LittleMore$Text", name := "readAny", desc := "(I)Z" } : Jvm.MethodName)) ∈ TBL := tb3 56 rfl rfl
theorem m3_58 : (Jvm.Cond.instanceMethod ({ cls := "LittleMore$Text", name := "readAny", desc := "(I)Z" } : Jvm.MethodName)) ∈ TBL := tb3 58 rfl rfl
theorem m3_59 : (Jvm.Cond.code ({ cls := "LittleMore$Text", name := "readAny", desc := "(I)Z" } : Jvm.MethodName) prog_11_method_7_code (3 : Nat) (Option.some Jvm.ClassFile.FieldType.boolean)) ∈ TBL := tb3 59 rfl rfl
theorem m3_60 : (Jvm.Cond.methodLink "LittleMore$Text" (101 : Nat) ({ cls := "LittleMore$Text", name := "readAll", desc := "(I)Z" } : Jvm.MethodName)) ∈ TBL := tb3 60 rfl rfl
theorem m3_62 : (Jvm.Cond.instanceMethod ({ cls := "LittleMore$Text", name := "readAll", desc := "(I)Z" } : Jvm.MethodName)) ∈ TBL := tb3 62 rfl rfl
theorem m3_63 : (Jvm.Cond.code ({ cls := "LittleMore$Text", name := "readAll", desc := "(I)Z" } : Jvm.MethodName) prog_11_method_8_code (3 : Nat) (Option.some Jvm.ClassFile.FieldType.boolean)) ∈ TBL := tb3 63 rfl rfl
theorem m3_64 : (Jvm.Cond.methodLink "LittleMore$Text" (104 : Nat) ({ cls := "LittleMore$Text", name := "readOne", desc := "(I)Z" } : Jvm.MethodName)) ∈ TBL := tb3 64 rfl rfl
theorem m3_66 : (Jvm.Cond.instanceMethod ({ cls := "LittleMore$Text", name := "readOne", desc := "(I)Z" } : Jvm.MethodName)) ∈ TBL := tb3 66 rfl rfl
theorem m3_67 : (Jvm.Cond.code ({ cls := "LittleMore$Text", name := "readOne", desc := "(I)Z" } : Jvm.MethodName) prog_11_method_9_code (4 : Nat) (Option.some Jvm.ClassFile.FieldType.boolean)) ∈ TBL := tb3 67 rfl rfl
theorem m3_68 : (Jvm.Cond.methodLink "LittleMore$Text" (65 : Nat) ({ cls := "LittleMore$Text", name := "putCode", desc := "(II)Z" } : Jvm.MethodName)) ∈ TBL := tb3 68 rfl rfl
theorem m3_70 : (Jvm.Cond.instanceMethod ({ cls := "LittleMore$Text", name := "putCode", desc := "(II)Z" } : Jvm.MethodName)) ∈ TBL := tb3 70 rfl rfl
theorem m3_71 : (Jvm.Cond.code ({ cls := "LittleMore$Text", name := "putCode", desc := "(II)Z" } : Jvm.MethodName) prog_11_method_15_code (3 : Nat) (Option.some Jvm.ClassFile.FieldType.boolean)) ∈ TBL := tb3 71 rfl rfl
theorem l3_72 : (Jvm.Cond.stringRef "LittleMore$Text" (107 : Nat) "cktond") ∈ lw_tbl := tl3 72 rfl
theorem m3_73 : (Jvm.Cond.methodLink "LittleMore$Text" (109 : Nat) ({ cls := "LittleMore$Text", name := "takesOneOf", desc := "(Ljava/lang/String;)I" } : Jvm.MethodName)) ∈ TBL := tb3 73 rfl rfl
theorem m3_75 : (Jvm.Cond.instanceMethod ({ cls := "LittleMore$Text", name := "takesOneOf", desc := "(Ljava/lang/String;)I" } : Jvm.MethodName)) ∈ TBL := tb3 75 rfl rfl
theorem m3_76 : (Jvm.Cond.code ({ cls := "LittleMore$Text", name := "takesOneOf", desc := "(Ljava/lang/String;)I" } : Jvm.MethodName) prog_11_method_14_code (4 : Nat) (Option.some Jvm.ClassFile.FieldType.int)) ∈ TBL := tb3 76 rfl rfl
theorem m3_77 : (Jvm.Cond.methodLink "LittleMore$Text" (117 : Nat) ({ cls := "java/lang/String", name := "indexOf", desc := "(I)I" } : Jvm.MethodName)) ∈ TBL := tb3 77 rfl rfl
theorem m3_78 : (Jvm.Cond.instanceMethod ({ cls := "java/lang/String", name := "indexOf", desc := "(I)I" } : Jvm.MethodName)) ∈ TBL := tb3 78 rfl rfl
theorem m3_79 : (Jvm.Cond.selects "java/lang/String" ({ cls := "java/lang/String", name := "indexOf", desc := "(I)I" } : Jvm.MethodName) ({ cls := "java/lang/String", name := "indexOf", desc := "(I)I" } : Jvm.MethodName)) ∈ TBL := tb3 79 rfl rfl
theorem m3_80 : (Jvm.Cond.code ({ cls := "java/lang/String", name := "indexOf", desc := "(I)I" } : Jvm.MethodName) prog_25_method_79_code (2 : Nat) (Option.some Jvm.ClassFile.FieldType.int)) ∈ TBL := tb3 80 rfl rfl
theorem m3_81 : (Jvm.Cond.methodLink "java/lang/String" (633 : Nat) ({ cls := "java/lang/String", name := "indexOf", desc := "(II)I" } : Jvm.MethodName)) ∈ TBL := tb3 81 rfl rfl
theorem m3_82 : (Jvm.Cond.instanceMethod ({ cls := "java/lang/String", name := "indexOf", desc := "(II)I" } : Jvm.MethodName)) ∈ TBL := tb3 82 rfl rfl
theorem m3_83 : (Jvm.Cond.selects "java/lang/String" ({ cls := "java/lang/String", name := "indexOf", desc := "(II)I" } : Jvm.MethodName) ({ cls := "java/lang/String", name := "indexOf", desc := "(II)I" } : Jvm.MethodName)) ∈ TBL := tb3 83 rfl rfl
theorem m3_84 : (Jvm.Cond.code ({ cls := "java/lang/String", name := "indexOf", desc := "(II)I" } : Jvm.MethodName) prog_25_method_80_code (3 : Nat) (Option.some Jvm.ClassFile.FieldType.int)) ∈ TBL := tb3 84 rfl rfl
theorem m3_85 : (Jvm.Cond.methodLink "java/lang/String" (505 : Nat) ({ cls := "java/lang/String", name := "length", desc := "()I" } : Jvm.MethodName)) ∈ TBL := tb3 85 rfl rfl
theorem m3_86 : (Jvm.Cond.methodLink "java/lang/String" (637 : Nat) ({ cls := "java/lang/StringLatin1", name := "indexOf", desc := "([BIII)I" } : Jvm.MethodName)) ∈ TBL := tb3 86 rfl rfl
theorem m3_87 : (Jvm.Cond.static ({ cls := "java/lang/StringLatin1", name := "indexOf", desc := "([BIII)I" } : Jvm.MethodName)) ∈ TBL := tb3 87 rfl rfl
theorem m3_88 : (Jvm.Cond.code ({ cls := "java/lang/StringLatin1", name := "indexOf", desc := "([BIII)I" } : Jvm.MethodName) prog_26_method_22_code (4 : Nat) (Option.some Jvm.ClassFile.FieldType.int)) ∈ TBL := tb3 88 rfl rfl
theorem m3_89 : (Jvm.Cond.methodLink "java/lang/StringLatin1" (88 : Nat) ({ cls := "java/lang/StringLatin1", name := "canEncode", desc := "(I)Z" } : Jvm.MethodName)) ∈ TBL := tb3 89 rfl rfl
theorem m3_90 : (Jvm.Cond.static ({ cls := "java/lang/StringLatin1", name := "canEncode", desc := "(I)Z" } : Jvm.MethodName)) ∈ TBL := tb3 90 rfl rfl
theorem m3_91 : (Jvm.Cond.code ({ cls := "java/lang/StringLatin1", name := "canEncode", desc := "(I)Z" } : Jvm.MethodName) prog_26_method_4_code (1 : Nat) (Option.some Jvm.ClassFile.FieldType.boolean)) ∈ TBL := tb3 91 rfl rfl
theorem m3_92 : (Jvm.Cond.methodLink "java/lang/StringLatin1" (92 : Nat) ({ cls := "java/lang/Math", name := "max", desc := "(II)I" } : Jvm.MethodName)) ∈ TBL := tb3 92 rfl rfl
theorem m3_93 : (Jvm.Cond.methodLink "java/lang/StringLatin1" (38 : Nat) ({ cls := "java/lang/Math", name := "min", desc := "(II)I" } : Jvm.MethodName)) ∈ TBL := tb3 93 rfl rfl
theorem m3_94 : (Jvm.Cond.static ({ cls := "java/lang/Math", name := "min", desc := "(II)I" } : Jvm.MethodName)) ∈ TBL := tb3 94 rfl rfl
theorem m3_95 : (Jvm.Cond.code ({ cls := "java/lang/Math", name := "min", desc := "(II)I" } : Jvm.MethodName) prog_23_method_69_code (2 : Nat) (Option.some Jvm.ClassFile.FieldType.int)) ∈ TBL := tb3 95 rfl rfl
theorem m3_96 : (Jvm.Cond.methodLink "java/lang/StringLatin1" (95 : Nat) ({ cls := "java/lang/StringLatin1", name := "indexOfChar", desc := "([BIII)I" } : Jvm.MethodName)) ∈ TBL := tb3 96 rfl rfl
theorem m3_97 : (Jvm.Cond.static ({ cls := "java/lang/StringLatin1", name := "indexOfChar", desc := "([BIII)I" } : Jvm.MethodName)) ∈ TBL := tb3 97 rfl rfl
theorem m3_98 : (Jvm.Cond.code ({ cls := "java/lang/StringLatin1", name := "indexOfChar", desc := "([BIII)I" } : Jvm.MethodName) prog_26_method_23_code (6 : Nat) (Option.some Jvm.ClassFile.FieldType.int)) ∈ TBL := tb3 98 rfl rfl
theorem l3_134 : (Jvm.Cond.stringRef "LittleMore$Text" (112 : Nat) "<=>") ∈ lw_tbl := tl3 134 rfl
theorem m3_135 : (Jvm.Cond.classLink "LittleMore$Text" (49 : Nat) "LittleMore$Counter") ∈ TBL := tb3 135 rfl rfl
theorem m3_136 : (Jvm.Cond.methodLink "LittleMore$Text" (51 : Nat) ({ cls := "LittleMore$Counter", name := "<init>", desc := "(LLittleMore$Text;)V" } : Jvm.MethodName)) ∈ TBL := tb3 136 rfl rfl
theorem m3_137 : (Jvm.Cond.instanceMethod ({ cls := "LittleMore$Counter", name := "<init>", desc := "(LLittleMore$Text;)V" } : Jvm.MethodName)) ∈ TBL := tb3 137 rfl rfl
theorem m3_138 : (Jvm.Cond.code ({ cls := "LittleMore$Counter", name := "<init>", desc := "(LLittleMore$Text;)V" } : Jvm.MethodName) prog_3_method_2_code (2 : Nat) (Option.none : Option Jvm.ClassFile.FieldType)) ∈ TBL := tb3 138 rfl rfl
theorem m3_139 : (Jvm.Cond.methodLink "LittleMore$Counter" (33 : Nat) ({ cls := "java/util/Arrays", name := "copyOf", desc := "([II)[I" } : Jvm.MethodName)) ∈ TBL := tb3 139 rfl rfl
theorem m3_140 : (Jvm.Cond.static ({ cls := "java/util/Arrays", name := "copyOf", desc := "([II)[I" } : Jvm.MethodName)) ∈ TBL := tb3 140 rfl rfl
theorem m3_141 : (Jvm.Cond.code ({ cls := "java/util/Arrays", name := "copyOf", desc := "([II)[I" } : Jvm.MethodName) prog_34_method_123_code (3 : Nat) (Option.some (Jvm.ClassFile.FieldType.array Jvm.ClassFile.FieldType.int))) ∈ TBL := tb3 141 rfl rfl
theorem m3_142 : (Jvm.Cond.methodLink "java/util/Arrays" (316 : Nat) ({ cls := "[I", name := "clone", desc := "()Ljava/lang/Object;" } : Jvm.MethodName)) ∈ TBL := tb3 142 rfl rfl
theorem m3_143 : (Jvm.Cond.sameMethod "[I" "java/lang/Object" "clone" "()Ljava/lang/Object;") ∈ TBL := tb3 143 rfl rfl
theorem m3_144 : (Jvm.Cond.native ({ cls := "java/lang/Object", name := "clone", desc := "()Ljava/lang/Object;" } : Jvm.MethodName)) ∈ TBL := tb3 144 rfl rfl
theorem m3_145 : (Jvm.Cond.instanceMethod ({ cls := "java/lang/Object", name := "clone", desc := "()Ljava/lang/Object;" } : Jvm.MethodName)) ∈ TBL := tb3 145 rfl rfl
theorem m3_146 : (Jvm.Cond.selects "[I" ({ cls := "[I", name := "clone", desc := "()Ljava/lang/Object;" } : Jvm.MethodName) ({ cls := "java/lang/Object", name := "clone", desc := "()Ljava/lang/Object;" } : Jvm.MethodName)) ∈ TBL := tb3 146 rfl rfl
theorem l3_147 : (Jvm.Cond.castable "[I" "java/lang/Cloneable") ∈ lw_tbl := tl3 147 rfl
theorem m3_148 : (Jvm.Cond.classLink "java/util/Arrays" (317 : Nat) "[I") ∈ TBL := tb3 148 rfl rfl
theorem m3_149 : (Jvm.Cond.methodLink "java/util/Arrays" (304 : Nat) ({ cls := "java/lang/Math", name := "min", desc := "(II)I" } : Jvm.MethodName)) ∈ TBL := tb3 149 rfl rfl
theorem m3_150 : (Jvm.Cond.methodLink "java/util/Arrays" (150 : Nat) ({ cls := "java/lang/System", name := "arraycopy", desc := "(Ljava/lang/Object;ILjava/lang/Object;II)V" } : Jvm.MethodName)) ∈ TBL := tb3 150 rfl rfl
theorem m3_151 : (Jvm.Cond.static ({ cls := "java/lang/System", name := "arraycopy", desc := "(Ljava/lang/Object;ILjava/lang/Object;II)V" } : Jvm.MethodName)) ∈ TBL := tb3 151 rfl rfl
theorem m3_152 : (Jvm.Cond.native ({ cls := "java/lang/System", name := "arraycopy", desc := "(Ljava/lang/Object;ILjava/lang/Object;II)V" } : Jvm.MethodName)) ∈ TBL := tb3 152 rfl rfl
theorem m3_153 : (Jvm.Cond.methodLink "LittleMoreLaw" (41 : Nat) ({ cls := "LittleMore", name := "knife", desc := "(I)I" } : Jvm.MethodName)) ∈ TBL := tb3 153 rfl rfl
theorem m3_154 : (Jvm.Cond.instanceMethod ({ cls := "LittleMore", name := "knife", desc := "(I)I" } : Jvm.MethodName)) ∈ TBL := tb3 154 rfl rfl
theorem m3_155 : (Jvm.Cond.selects "LittleMore" ({ cls := "LittleMore", name := "knife", desc := "(I)I" } : Jvm.MethodName) ({ cls := "LittleMore", name := "knife", desc := "(I)I" } : Jvm.MethodName)) ∈ TBL := tb3 155 rfl rfl
theorem m3_156 : (Jvm.Cond.code ({ cls := "LittleMore", name := "knife", desc := "(I)I" } : Jvm.MethodName) prog_1_method_8_code (3 : Nat) (Option.some Jvm.ClassFile.FieldType.int)) ∈ TBL := tb3 156 rfl rfl
theorem m3_157 : (Jvm.Cond.methodLink "LittleMoreLaw" (45 : Nat) ({ cls := "LittleMore", name := "told", desc := "(I)I" } : Jvm.MethodName)) ∈ TBL := tb3 157 rfl rfl
theorem m3_158 : (Jvm.Cond.instanceMethod ({ cls := "LittleMore", name := "told", desc := "(I)I" } : Jvm.MethodName)) ∈ TBL := tb3 158 rfl rfl
theorem m3_159 : (Jvm.Cond.selects "LittleMore" ({ cls := "LittleMore", name := "told", desc := "(I)I" } : Jvm.MethodName) ({ cls := "LittleMore", name := "told", desc := "(I)I" } : Jvm.MethodName)) ∈ TBL := tb3 159 rfl rfl
theorem m3_160 : (Jvm.Cond.code ({ cls := "LittleMore", name := "told", desc := "(I)I" } : Jvm.MethodName) prog_1_method_9_code (2 : Nat) (Option.some Jvm.ClassFile.FieldType.int)) ∈ TBL := tb3 160 rfl rfl
theorem m3_161 : (Jvm.Cond.methodLink "LittleMore" (188 : Nat) ({ cls := "LittleMore$Shop", name := "goneBits", desc := "()I" } : Jvm.MethodName)) ∈ TBL := tb3 161 rfl rfl
theorem m3_162 : (Jvm.Cond.instanceMethod ({ cls := "LittleMore$Shop", name := "goneBits", desc := "()I" } : Jvm.MethodName)) ∈ TBL := tb3 162 rfl rfl
theorem m3_163 : (Jvm.Cond.selects "LittleMore$Shop" ({ cls := "LittleMore$Shop", name := "goneBits", desc := "()I" } : Jvm.MethodName) ({ cls := "LittleMore$Shop", name := "goneBits", desc := "()I" } : Jvm.MethodName)) ∈ TBL := tb3 163 rfl rfl
theorem m3_164 : (Jvm.Cond.code ({ cls := "LittleMore$Shop", name := "goneBits", desc := "()I" } : Jvm.MethodName) prog_9_method_11_code (3 : Nat) (Option.some Jvm.ClassFile.FieldType.int)) ∈ TBL := tb3 164 rfl rfl
theorem m3_165 : (Jvm.Cond.methodLink "LittleMoreLaw" (49 : Nat) ({ cls := "LittleMore", name := "visit", desc := "(I)I" } : Jvm.MethodName)) ∈ TBL := tb3 165 rfl rfl
theorem m3_166 : (Jvm.Cond.instanceMethod ({ cls := "LittleMore", name := "visit", desc := "(I)I" } : Jvm.MethodName)) ∈ TBL := tb3 166 rfl rfl
theorem m3_167 : (Jvm.Cond.selects "LittleMore" ({ cls := "LittleMore", name := "visit", desc := "(I)I" } : Jvm.MethodName) ({ cls := "LittleMore", name := "visit", desc := "(I)I" } : Jvm.MethodName)) ∈ TBL := tb3 167 rfl rfl
theorem m3_168 : (Jvm.Cond.code ({ cls := "LittleMore", name := "visit", desc := "(I)I" } : Jvm.MethodName) prog_1_method_10_code (4 : Nat) (Option.some Jvm.ClassFile.FieldType.int)) ∈ TBL := tb3 168 rfl rfl
theorem m3_169 : (Jvm.Cond.methodLink "LittleMore" (192 : Nat) ({ cls := "LittleMore$Shop", name := "makeVisit", desc := "(LLittleMore$Customer;)I" } : Jvm.MethodName)) ∈ TBL := tb3 169 rfl rfl
theorem m3_170 : (Jvm.Cond.instanceMethod ({ cls := "LittleMore$Shop", name := "makeVisit", desc := "(LLittleMore$Customer;)I" } : Jvm.MethodName)) ∈ TBL := tb3 170 rfl rfl
theorem m3_171 : (Jvm.Cond.selects "LittleMore$Shop" ({ cls := "LittleMore$Shop", name := "makeVisit", desc := "(LLittleMore$Customer;)I" } : Jvm.MethodName) ({ cls := "LittleMore$Shop", name := "makeVisit", desc := "(LLittleMore$Customer;)I" } : Jvm.MethodName)) ∈ TBL := tb3 171 rfl rfl
theorem m3_172 : (Jvm.Cond.code ({ cls := "LittleMore$Shop", name := "makeVisit", desc := "(LLittleMore$Customer;)I" } : Jvm.MethodName) prog_9_method_7_code (5 : Nat) (Option.some Jvm.ClassFile.FieldType.int)) ∈ TBL := tb3 172 rfl rfl
theorem m3_173 : (Jvm.Cond.methodLink "LittleMore$Shop" (82 : Nat) ({ cls := "LittleMore$Kind", name := "portion", desc := "(LLittleMore$Customer;)I" } : Jvm.MethodName)) ∈ TBL := tb3 173 rfl rfl
theorem m3_174 : (Jvm.Cond.methodLink "LittleMore$Shop" (85 : Nat) ({ cls := "LittleMore$Customer", name := "saysNo", desc := "()V" } : Jvm.MethodName)) ∈ TBL := tb3 174 rfl rfl
theorem m3_175 : (Jvm.Cond.instanceMethod ({ cls := "LittleMore$Customer", name := "saysNo", desc := "()V" } : Jvm.MethodName)) ∈ TBL := tb3 175 rfl rfl
theorem m3_176 : (Jvm.Cond.selects "LittleMore$Customer" ({ cls := "LittleMore$Customer", name := "saysNo", desc := "()V" } : Jvm.MethodName) ({ cls := "LittleMore$Customer", name := "saysNo", desc := "()V" } : Jvm.MethodName)) ∈ TBL := tb3 176 rfl rfl
theorem m3_177 : (Jvm.Cond.code ({ cls := "LittleMore$Customer", name := "saysNo", desc := "()V" } : Jvm.MethodName) prog_5_method_4_code (1 : Nat) (Option.none : Option Jvm.ClassFile.FieldType)) ∈ TBL := tb3 177 rfl rfl
theorem m3_178 : (Jvm.Cond.methodLink "LittleMore$Customer" (57 : Nat) ({ cls := "java/lang/Math", name := "min", desc := "(II)I" } : Jvm.MethodName)) ∈ TBL := tb3 178 rfl rfl
theorem m3_179 : (Jvm.Cond.methodLink "LittleMore$Customer" (63 : Nat) ({ cls := "java/lang/Math", name := "max", desc := "(II)I" } : Jvm.MethodName)) ∈ TBL := tb3 179 rfl rfl
theorem m3_180 : (Jvm.Cond.methodLink "LittleMore$Customer" (66 : Nat) ({ cls := "LittleMore$Kind", name := "leaves", desc := "(LLittleMore$Customer;)Z" } : Jvm.MethodName)) ∈ TBL := tb3 180 rfl rfl
theorem m3_181 : (Jvm.Cond.instanceMethod ({ cls := "LittleMore$Kind", name := "leaves", desc := "(LLittleMore$Customer;)Z" } : Jvm.MethodName)) ∈ TBL := tb3 181 rfl rfl
theorem m3_182 : (Jvm.Cond.selects "LittleMore$Kind" ({ cls := "LittleMore$Kind", name := "leaves", desc := "(LLittleMore$Customer;)Z" } : Jvm.MethodName) ({ cls := "LittleMore$Kind", name := "leaves", desc := "(LLittleMore$Customer;)Z" } : Jvm.MethodName)) ∈ TBL := tb3 182 rfl rfl
theorem m3_183 : (Jvm.Cond.sameMethod "LittleMore$Kind" "LittleMore$Kind" "leaves" "(LLittleMore$Customer;)Z") ∈ TBL := tb3 183 rfl rfl
theorem m3_184 : (Jvm.Cond.selects "LittleMore$Child" ({ cls := "LittleMore$Kind", name := "leaves", desc := "(LLittleMore$Customer;)Z" } : Jvm.MethodName) ({ cls := "LittleMore$Kind", name := "leaves", desc := "(LLittleMore$Customer;)Z" } : Jvm.MethodName)) ∈ TBL := tb3 184 rfl rfl
theorem m3_185 : (Jvm.Cond.selects "LittleMore$Counting" ({ cls := "LittleMore$Kind", name := "leaves", desc := "(LLittleMore$Customer;)Z" } : Jvm.MethodName) ({ cls := "LittleMore$Kind", name := "leaves", desc := "(LLittleMore$Customer;)Z" } : Jvm.MethodName)) ∈ TBL := tb3 185 rfl rfl
theorem m3_186 : (Jvm.Cond.selects "LittleMore$Gentle" ({ cls := "LittleMore$Kind", name := "leaves", desc := "(LLittleMore$Customer;)Z" } : Jvm.MethodName) ({ cls := "LittleMore$Kind", name := "leaves", desc := "(LLittleMore$Customer;)Z" } : Jvm.MethodName)) ∈ TBL := tb3 186 rfl rfl
theorem m3_187 : (Jvm.Cond.selects "LittleMore$Leaving" ({ cls := "LittleMore$Kind", name := "leaves", desc := "(LLittleMore$Customer;)Z" } : Jvm.MethodName) ({ cls := "LittleMore$Leaving", name := "leaves", desc := "(LLittleMore$Customer;)Z" } : Jvm.MethodName)) ∈ TBL := tb3 187 rfl rfl
theorem m3_188 : (Jvm.Cond.instanceMethod ({ cls := "LittleMore$Leaving", name := "leaves", desc := "(LLittleMore$Customer;)Z" } : Jvm.MethodName)) ∈ TBL := tb3 188 rfl rfl
theorem m3_189 : (Jvm.Cond.code ({ cls := "LittleMore$Leaving", name := "leaves", desc := "(LLittleMore$Customer;)Z" } : Jvm.MethodName) prog_8_method_2_code (2 : Nat) (Option.some Jvm.ClassFile.FieldType.boolean)) ∈ TBL := tb3 189 rfl rfl
theorem m3_190 : (Jvm.Cond.selects "LittleMore$Strict" ({ cls := "LittleMore$Kind", name := "leaves", desc := "(LLittleMore$Customer;)Z" } : Jvm.MethodName) ({ cls := "LittleMore$Kind", name := "leaves", desc := "(LLittleMore$Customer;)Z" } : Jvm.MethodName)) ∈ TBL := tb3 190 rfl rfl
theorem m3_191 : (Jvm.Cond.selects "LittleMore$Told" ({ cls := "LittleMore$Kind", name := "leaves", desc := "(LLittleMore$Customer;)Z" } : Jvm.MethodName) ({ cls := "LittleMore$Kind", name := "leaves", desc := "(LLittleMore$Customer;)Z" } : Jvm.MethodName)) ∈ TBL := tb3 191 rfl rfl
theorem m3_192 : (Jvm.Cond.code ({ cls := "LittleMore$Kind", name := "leaves", desc := "(LLittleMore$Customer;)Z" } : Jvm.MethodName) prog_7_method_4_code (2 : Nat) (Option.some Jvm.ClassFile.FieldType.boolean)) ∈ TBL := tb3 192 rfl rfl
theorem m3_193 : (Jvm.Cond.methodLink "LittleMore$Shop" (91 : Nat) ({ cls := "java/lang/Math", name := "min", desc := "(II)I" } : Jvm.MethodName)) ∈ TBL := tb3 193 rfl rfl
theorem m3_194 : (Jvm.Cond.methodLink "LittleMore" (195 : Nat) ({ cls := "LittleMore$Shop", name := "boundVisits", desc := "()V" } : Jvm.MethodName)) ∈ TBL := tb3 194 rfl rfl
theorem m3_195 : (Jvm.Cond.instanceMethod ({ cls := "LittleMore$Shop", name := "boundVisits", desc := "()V" } : Jvm.MethodName)) ∈ TBL := tb3 195 rfl rfl
theorem m3_196 : (Jvm.Cond.selects "LittleMore$Shop" ({ cls := "LittleMore$Shop", name := "boundVisits", desc := "()V" } : Jvm.MethodName) ({ cls := "LittleMore$Shop", name := "boundVisits", desc := "()V" } : Jvm.MethodName)) ∈ TBL := tb3 196 rfl rfl
theorem m3_197 : (Jvm.Cond.code ({ cls := "LittleMore$Shop", name := "boundVisits", desc := "()V" } : Jvm.MethodName) prog_9_method_10_code (2 : Nat) (Option.none : Option Jvm.ClassFile.FieldType)) ∈ TBL := tb3 197 rfl rfl
theorem m3_198 : (Jvm.Cond.methodLink "LittleMoreLaw" (53 : Nat) ({ cls := "LittleMore", name := "saturday", desc := "()I" } : Jvm.MethodName)) ∈ TBL := tb3 198 rfl rfl
theorem m3_199 : (Jvm.Cond.instanceMethod ({ cls := "LittleMore", name := "saturday", desc := "()I" } : Jvm.MethodName)) ∈ TBL := tb3 199 rfl rfl
theorem m3_200 : (Jvm.Cond.selects "LittleMore" ({ cls := "LittleMore", name := "saturday", desc := "()I" } : Jvm.MethodName) ({ cls := "LittleMore", name := "saturday", desc := "()I" } : Jvm.MethodName)) ∈ TBL := tb3 200 rfl rfl
theorem m3_201 : (Jvm.Cond.code ({ cls := "LittleMore", name := "saturday", desc := "()I" } : Jvm.MethodName) prog_1_method_11_code (2 : Nat) (Option.some Jvm.ClassFile.FieldType.int)) ∈ TBL := tb3 201 rfl rfl
theorem m3_202 : (Jvm.Cond.methodLink "LittleMore" (198 : Nat) ({ cls := "LittleMore$Shop", name := "makeSaturday", desc := "()I" } : Jvm.MethodName)) ∈ TBL := tb3 202 rfl rfl
theorem m3_203 : (Jvm.Cond.instanceMethod ({ cls := "LittleMore$Shop", name := "makeSaturday", desc := "()I" } : Jvm.MethodName)) ∈ TBL := tb3 203 rfl rfl
theorem m3_204 : (Jvm.Cond.selects "LittleMore$Shop" ({ cls := "LittleMore$Shop", name := "makeSaturday", desc := "()I" } : Jvm.MethodName) ({ cls := "LittleMore$Shop", name := "makeSaturday", desc := "()I" } : Jvm.MethodName)) ∈ TBL := tb3 204 rfl rfl
theorem m3_205 : (Jvm.Cond.code ({ cls := "LittleMore$Shop", name := "makeSaturday", desc := "()I" } : Jvm.MethodName) prog_9_method_9_code (3 : Nat) (Option.some Jvm.ClassFile.FieldType.int)) ∈ TBL := tb3 205 rfl rfl
theorem m3_206 : (Jvm.Cond.methodLink "LittleMore$Shop" (107 : Nat) ({ cls := "LittleMore$Shop", name := "makeVisit", desc := "(LLittleMore$Customer;)I" } : Jvm.MethodName)) ∈ TBL := tb3 206 rfl rfl
theorem m3_207 : (Jvm.Cond.methodLink "LittleMoreLaw" (57 : Nat) ({ cls := "LittleMore", name := "on", desc := "(III)I" } : Jvm.MethodName)) ∈ TBL := tb3 207 rfl rfl
theorem m3_208 : (Jvm.Cond.instanceMethod ({ cls := "LittleMore", name := "on", desc := "(III)I" } : Jvm.MethodName)) ∈ TBL := tb3 208 rfl rfl
theorem m3_209 : (Jvm.Cond.selects "LittleMore" ({ cls := "LittleMore", name := "on", desc := "(III)I" } : Jvm.MethodName) ({ cls := "LittleMore", name := "on", desc := "(III)I" } : Jvm.MethodName)) ∈ TBL := tb3 209 rfl rfl
theorem m3_210 : (Jvm.Cond.code ({ cls := "LittleMore", name := "on", desc := "(III)I" } : Jvm.MethodName) prog_1_method_12_code (8 : Nat) (Option.some Jvm.ClassFile.FieldType.int)) ∈ TBL := tb3 210 rfl rfl
theorem m3_211 : (Jvm.Cond.methodLink "LittleMore" (201 : Nat) ({ cls := "LittleMore", name := "shopToTry", desc := "()LLittleMore$Shop;" } : Jvm.MethodName)) ∈ TBL := tb3 211 rfl rfl
theorem m3_213 : (Jvm.Cond.instanceMethod ({ cls := "LittleMore", name := "shopToTry", desc := "()LLittleMore$Shop;" } : Jvm.MethodName)) ∈ TBL := tb3 213 rfl rfl
theorem m3_214 : (Jvm.Cond.code ({ cls := "LittleMore", name := "shopToTry", desc := "()LLittleMore$Shop;" } : Jvm.MethodName) prog_1_method_42_code (1 : Nat) (Option.some (Jvm.ClassFile.FieldType.object "LittleMore$Shop"))) ∈ TBL := tb3 214 rfl rfl
theorem m3_215 : (Jvm.Cond.methodLink "LittleMore" (270 : Nat) ({ cls := "LittleMore$Shop", name := "become", desc := "(LLittleMore$Shop;)V" } : Jvm.MethodName)) ∈ TBL := tb3 215 rfl rfl
theorem m3_216 : (Jvm.Cond.instanceMethod ({ cls := "LittleMore$Shop", name := "become", desc := "(LLittleMore$Shop;)V" } : Jvm.MethodName)) ∈ TBL := tb3 216 rfl rfl
theorem m3_217 : (Jvm.Cond.selects "LittleMore$Shop" ({ cls := "LittleMore$Shop", name := "become", desc := "(LLittleMore$Shop;)V" } : Jvm.MethodName) ({ cls := "LittleMore$Shop", name := "become", desc := "(LLittleMore$Shop;)V" } : Jvm.MethodName)) ∈ TBL := tb3 217 rfl rfl
theorem m3_218 : (Jvm.Cond.code ({ cls := "LittleMore$Shop", name := "become", desc := "(LLittleMore$Shop;)V" } : Jvm.MethodName) prog_9_method_2_code (3 : Nat) (Option.none : Option Jvm.ClassFile.FieldType)) ∈ TBL := tb3 218 rfl rfl
theorem m3_219 : (Jvm.Cond.methodLink "LittleMore$Shop" (47 : Nat) ({ cls := "LittleMore$Customer", name := "become", desc := "(LLittleMore$Customer;)V" } : Jvm.MethodName)) ∈ TBL := tb3 219 rfl rfl
theorem m3_220 : (Jvm.Cond.instanceMethod ({ cls := "LittleMore$Customer", name := "become", desc := "(LLittleMore$Customer;)V" } : Jvm.MethodName)) ∈ TBL := tb3 220 rfl rfl
theorem m3_221 : (Jvm.Cond.selects "LittleMore$Customer" ({ cls := "LittleMore$Customer", name := "become", desc := "(LLittleMore$Customer;)V" } : Jvm.MethodName) ({ cls := "LittleMore$Customer", name := "become", desc := "(LLittleMore$Customer;)V" } : Jvm.MethodName)) ∈ TBL := tb3 221 rfl rfl
theorem m3_222 : (Jvm.Cond.code ({ cls := "LittleMore$Customer", name := "become", desc := "(LLittleMore$Customer;)V" } : Jvm.MethodName) prog_5_method_3_code (2 : Nat) (Option.none : Option Jvm.ClassFile.FieldType)) ∈ TBL := tb3 222 rfl rfl
theorem m3_223 : (Jvm.Cond.methodLink "LittleMore$Customer" (51 : Nat) ({ cls := "java/lang/System", name := "arraycopy", desc := "(Ljava/lang/Object;ILjava/lang/Object;II)V" } : Jvm.MethodName)) ∈ TBL := tb3 223 rfl rfl
theorem m3_224 : (Jvm.Cond.methodLink "LittleMore$Shop" (51 : Nat) ({ cls := "java/lang/System", name := "arraycopy", desc := "(Ljava/lang/Object;ILjava/lang/Object;II)V" } : Jvm.MethodName)) ∈ TBL := tb3 224 rfl rfl
theorem m3_225 : (Jvm.Cond.methodLink "LittleMore" (205 : Nat) ({ cls := "LittleMore$Shop", name := "makeVisitsAlone", desc := "(LLittleMore$Customer;I)I" } : Jvm.MethodName)) ∈ TBL := tb3 225 rfl rfl
theorem m3_226 : (Jvm.Cond.instanceMethod ({ cls := "LittleMore$Shop", name := "makeVisitsAlone", desc := "(LLittleMore$Customer;I)I" } : Jvm.MethodName)) ∈ TBL := tb3 226 rfl rfl
theorem m3_227 : (Jvm.Cond.selects "LittleMore$Shop" ({ cls := "LittleMore$Shop", name := "makeVisitsAlone", desc := "(LLittleMore$Customer;I)I" } : Jvm.MethodName) ({ cls := "LittleMore$Shop", name := "makeVisitsAlone", desc := "(LLittleMore$Customer;I)I" } : Jvm.MethodName)) ∈ TBL := tb3 227 rfl rfl
theorem m3_228 : (Jvm.Cond.code ({ cls := "LittleMore$Shop", name := "makeVisitsAlone", desc := "(LLittleMore$Customer;I)I" } : Jvm.MethodName) prog_9_method_8_code (5 : Nat) (Option.some Jvm.ClassFile.FieldType.int)) ∈ TBL := tb3 228 rfl rfl
theorem m3_229 : (Jvm.Cond.methodLink "LittleMoreLaw" (61 : Nat) ({ cls := "LittleMore", name := "asked", desc := "(II)I" } : Jvm.MethodName)) ∈ TBL := tb3 229 rfl rfl
theorem m3_230 : (Jvm.Cond.instanceMethod ({ cls := "LittleMore", name := "asked", desc := "(II)I" } : Jvm.MethodName)) ∈ TBL := tb3 230 rfl rfl
theorem m3_231 : (Jvm.Cond.selects "LittleMore" ({ cls := "LittleMore", name := "asked", desc := "(II)I" } : Jvm.MethodName) ({ cls := "LittleMore", name := "asked", desc := "(II)I" } : Jvm.MethodName)) ∈ TBL := tb3 231 rfl rfl
theorem m3_232 : (Jvm.Cond.code ({ cls := "LittleMore", name := "asked", desc := "(II)I" } : Jvm.MethodName) prog_1_method_13_code (6 : Nat) (Option.some Jvm.ClassFile.FieldType.int)) ∈ TBL := tb3 232 rfl rfl
theorem m3_233 : (Jvm.Cond.methodLink "LittleMore" (209 : Nat) ({ cls := "LittleMore$Shop", name := "boughtBeyondAsked", desc := "(LLittleMore$Customer;)I" } : Jvm.MethodName)) ∈ TBL := tb3 233 rfl rfl
theorem m3_234 : (Jvm.Cond.instanceMethod ({ cls := "LittleMore$Shop", name := "boughtBeyondAsked", desc := "(LLittleMore$Customer;)I" } : Jvm.MethodName)) ∈ TBL := tb3 234 rfl rfl
theorem m3_235 : (Jvm.Cond.selects "LittleMore$Shop" ({ cls := "LittleMore$Shop", name := "boughtBeyondAsked", desc := "(LLittleMore$Customer;)I" } : Jvm.MethodName) ({ cls := "LittleMore$Shop", name := "boughtBeyondAsked", desc := "(LLittleMore$Customer;)I" } : Jvm.MethodName)) ∈ TBL := tb3 235 rfl rfl
theorem m3_236 : (Jvm.Cond.code ({ cls := "LittleMore$Shop", name := "boughtBeyondAsked", desc := "(LLittleMore$Customer;)I" } : Jvm.MethodName) prog_9_method_6_code (3 : Nat) (Option.some Jvm.ClassFile.FieldType.int)) ∈ TBL := tb3 236 rfl rfl
theorem m3_237 : (Jvm.Cond.methodLink "LittleMore" (212 : Nat) ({ cls := "java/lang/Math", name := "max", desc := "(II)I" } : Jvm.MethodName)) ∈ TBL := tb3 237 rfl rfl
theorem m3_238 : (Jvm.Cond.methodLink "LittleMoreLaw" (65 : Nat) ({ cls := "LittleMore", name := "dare", desc := "(II)I" } : Jvm.MethodName)) ∈ TBL := tb3 238 rfl rfl
theorem m3_239 : (Jvm.Cond.instanceMethod ({ cls := "LittleMore", name := "dare", desc := "(II)I" } : Jvm.MethodName)) ∈ TBL := tb3 239 rfl rfl
theorem m4_0 : (Jvm.Cond.selects "LittleMore" ({ cls := "LittleMore", name := "dare", desc := "(II)I" } : Jvm.MethodName) ({ cls := "LittleMore", name := "dare", desc := "(II)I" } : Jvm.MethodName)) ∈ TBL := tb4 0 rfl rfl
theorem m4_1 : (Jvm.Cond.code ({ cls := "LittleMore", name := "dare", desc := "(II)I" } : Jvm.MethodName) prog_1_method_14_code (7 : Nat) (Option.some Jvm.ClassFile.FieldType.int)) ∈ TBL := tb4 1 rfl rfl
theorem m4_2 : (Jvm.Cond.methodLink "LittleMore" (218 : Nat) ({ cls := "LittleMore", name := "paidWith", desc := "(II)I" } : Jvm.MethodName)) ∈ TBL := tb4 2 rfl rfl
theorem m4_4 : (Jvm.Cond.instanceMethod ({ cls := "LittleMore", name := "paidWith", desc := "(II)I" } : Jvm.MethodName)) ∈ TBL := tb4 4 rfl rfl
theorem m4_5 : (Jvm.Cond.code ({ cls := "LittleMore", name := "paidWith", desc := "(II)I" } : Jvm.MethodName) prog_1_method_44_code (6 : Nat) (Option.some Jvm.ClassFile.FieldType.int)) ∈ TBL := tb4 5 rfl rfl
theorem m4_6 : (Jvm.Cond.methodLink "LittleMoreLaw" (69 : Nat) ({ cls := "LittleMore", name := "learnt", desc := "(II)I" } : Jvm.MethodName)) ∈ TBL := tb4 6 rfl rfl
theorem m4_7 : (Jvm.Cond.instanceMethod ({ cls := "LittleMore", name := "learnt", desc := "(II)I" } : Jvm.MethodName)) ∈ TBL := tb4 7 rfl rfl
theorem m4_8 : (Jvm.Cond.selects "LittleMore" ({ cls := "LittleMore", name := "learnt", desc := "(II)I" } : Jvm.MethodName) ({ cls := "LittleMore", name := "learnt", desc := "(II)I" } : Jvm.MethodName)) ∈ TBL := tb4 8 rfl rfl
theorem m4_9 : (Jvm.Cond.code ({ cls := "LittleMore", name := "learnt", desc := "(II)I" } : Jvm.MethodName) prog_1_method_15_code (6 : Nat) (Option.some Jvm.ClassFile.FieldType.int)) ∈ TBL := tb4 9 rfl rfl
theorem m4_10 : (Jvm.Cond.methodLink "LittleMoreLaw" (73 : Nat) ({ cls := "LittleMore", name := "nobody", desc := "()I" } : Jvm.MethodName)) ∈ TBL := tb4 10 rfl rfl
theorem m4_11 : (Jvm.Cond.instanceMethod ({ cls := "LittleMore", name := "nobody", desc := "()I" } : Jvm.MethodName)) ∈ TBL := tb4 11 rfl rfl
theorem m4_12 : (Jvm.Cond.selects "LittleMore" ({ cls := "LittleMore", name := "nobody", desc := "()I" } : Jvm.MethodName) ({ cls := "LittleMore", name := "nobody", desc := "()I" } : Jvm.MethodName)) ∈ TBL := tb4 12 rfl rfl
theorem m4_13 : (Jvm.Cond.code ({ cls := "LittleMore", name := "nobody", desc := "()I" } : Jvm.MethodName) prog_1_method_16_code (3 : Nat) (Option.some Jvm.ClassFile.FieldType.int)) ∈ TBL := tb4 13 rfl rfl
theorem m4_14 : (Jvm.Cond.methodLink "LittleMore" (221 : Nat) ({ cls := "LittleMore$Shop", name := "howManyRefuse", desc := "()I" } : Jvm.MethodName)) ∈ TBL := tb4 14 rfl rfl
theorem m4_15 : (Jvm.Cond.instanceMethod ({ cls := "LittleMore$Shop", name := "howManyRefuse", desc := "()I" } : Jvm.MethodName)) ∈ TBL := tb4 15 rfl rfl
theorem m4_16 : (Jvm.Cond.selects "LittleMore$Shop" ({ cls := "LittleMore$Shop", name := "howManyRefuse", desc := "()I" } : Jvm.MethodName) ({ cls := "LittleMore$Shop", name := "howManyRefuse", desc := "()I" } : Jvm.MethodName)) ∈ TBL := tb4 16 rfl rfl
theorem m4_17 : (Jvm.Cond.code ({ cls := "LittleMore$Shop", name := "howManyRefuse", desc := "()I" } : Jvm.MethodName) prog_9_method_13_code (3 : Nat) (Option.some Jvm.ClassFile.FieldType.int)) ∈ TBL := tb4 17 rfl rfl
theorem m4_18 : (Jvm.Cond.methodLink "LittleMore$Shop" (120 : Nat) ({ cls := "LittleMore$Shop", name := "refuses", desc := "(LLittleMore$Customer;)Z" } : Jvm.MethodName)) ∈ TBL := tb4 18 rfl rfl
theorem m4_19 : (Jvm.Cond.methodLink "LittleMoreLaw" (77 : Nat) ({ cls := "LittleMore", name := "lost", desc := "(I)I" } : Jvm.MethodName)) ∈ TBL := tb4 19 rfl rfl
theorem m4_20 : (Jvm.Cond.instanceMethod ({ cls := "LittleMore", name := "lost", desc := "(I)I" } : Jvm.MethodName)) ∈ TBL := tb4 20 rfl rfl
theorem m4_21 : (Jvm.Cond.selects "LittleMore" ({ cls := "LittleMore", name := "lost", desc := "(I)I" } : Jvm.MethodName) ({ cls := "LittleMore", name := "lost", desc := "(I)I" } : Jvm.MethodName)) ∈ TBL := tb4 21 rfl rfl
theorem m4_22 : (Jvm.Cond.code ({ cls := "LittleMore", name := "lost", desc := "(I)I" } : Jvm.MethodName) prog_1_method_17_code (2 : Nat) (Option.some Jvm.ClassFile.FieldType.int)) ∈ TBL := tb4 22 rfl rfl
theorem m4_23 : (Jvm.Cond.methodLink "LittleMore" (224 : Nat) ({ cls := "LittleMore", name := "shopBehind", desc := "(I)LLittleMore$Shop;" } : Jvm.MethodName)) ∈ TBL := tb4 23 rfl rfl
theorem m4_25 : (Jvm.Cond.instanceMethod ({ cls := "LittleMore", name := "shopBehind", desc := "(I)LLittleMore$Shop;" } : Jvm.MethodName)) ∈ TBL := tb4 25 rfl rfl
theorem m4_26 : (Jvm.Cond.code ({ cls := "LittleMore", name := "shopBehind", desc := "(I)LLittleMore$Shop;" } : Jvm.MethodName) prog_1_method_43_code (4 : Nat) (Option.some (Jvm.ClassFile.FieldType.object "LittleMore$Shop"))) ∈ TBL := tb4 26 rfl rfl
theorem m4_27 : (Jvm.Cond.methodLink "LittleMoreLaw" (81 : Nat) ({ cls := "LittleMore", name := "over", desc := "(III)I" } : Jvm.MethodName)) ∈ TBL := tb4 27 rfl rfl
theorem m4_28 : (Jvm.Cond.instanceMethod ({ cls := "LittleMore", name := "over", desc := "(III)I" } : Jvm.MethodName)) ∈ TBL := tb4 28 rfl rfl
theorem m4_29 : (Jvm.Cond.selects "LittleMore" ({ cls := "LittleMore", name := "over", desc := "(III)I" } : Jvm.MethodName) ({ cls := "LittleMore", name := "over", desc := "(III)I" } : Jvm.MethodName)) ∈ TBL := tb4 29 rfl rfl
theorem m4_30 : (Jvm.Cond.code ({ cls := "LittleMore", name := "over", desc := "(III)I" } : Jvm.MethodName) prog_1_method_18_code (6 : Nat) (Option.some Jvm.ClassFile.FieldType.int)) ∈ TBL := tb4 30 rfl rfl
theorem m4_31 : (Jvm.Cond.constant "LittleMore" (228 : Nat) (-1000001 : Int32)) ∈ TBL := tb4 31 rfl rfl
theorem m4_32 : (Jvm.Cond.constant "LittleMore" (229 : Nat) (-1000002 : Int32)) ∈ TBL := tb4 32 rfl rfl
theorem m4_33 : (Jvm.Cond.methodLink "LittleMoreLaw" (85 : Nat) ({ cls := "LittleMore", name := "nearest", desc := "(I)I" } : Jvm.MethodName)) ∈ TBL := tb4 33 rfl rfl
theorem m4_34 : (Jvm.Cond.instanceMethod ({ cls := "LittleMore", name := "nearest", desc := "(I)I" } : Jvm.MethodName)) ∈ TBL := tb4 34 rfl rfl
theorem m4_35 : (Jvm.Cond.selects "LittleMore" ({ cls := "LittleMore", name := "nearest", desc := "(I)I" } : Jvm.MethodName) ({ cls := "LittleMore", name := "nearest", desc := "(I)I" } : Jvm.MethodName)) ∈ TBL := tb4 35 rfl rfl
theorem m4_36 : (Jvm.Cond.code ({ cls := "LittleMore", name := "nearest", desc := "(I)I" } : Jvm.MethodName) prog_1_method_19_code (8 : Nat) (Option.some Jvm.ClassFile.FieldType.int)) ∈ TBL := tb4 36 rfl rfl
theorem m4_37 : (Jvm.Cond.methodLink "LittleMore" (230 : Nat) ({ cls := "java/lang/Math", name := "abs", desc := "(I)I" } : Jvm.MethodName)) ∈ TBL := tb4 37 rfl rfl
theorem m4_38 : (Jvm.Cond.static ({ cls := "java/lang/Math", name := "abs", desc := "(I)I" } : Jvm.MethodName)) ∈ TBL := tb4 38 rfl rfl
theorem m4_39 : (Jvm.Cond.code ({ cls := "java/lang/Math", name := "abs", desc := "(I)I" } : Jvm.MethodName) prog_23_method_59_code (1 : Nat) (Option.some Jvm.ClassFile.FieldType.int)) ∈ TBL := tb4 39 rfl rfl
theorem m4_40 : (Jvm.Cond.methodLink "LittleMoreLaw" (89 : Nat) ({ cls := "LittleMore", name := "see", desc := "(I)I" } : Jvm.MethodName)) ∈ TBL := tb4 40 rfl rfl
theorem m4_41 : (Jvm.Cond.instanceMethod ({ cls := "LittleMore", name := "see", desc := "(I)I" } : Jvm.MethodName)) ∈ TBL := tb4 41 rfl rfl
theorem m4_42 : (Jvm.Cond.selects "LittleMore" ({ cls := "LittleMore", name := "see", desc := "(I)I" } : Jvm.MethodName) ({ cls := "LittleMore", name := "see", desc := "(I)I" } : Jvm.MethodName)) ∈ TBL := tb4 42 rfl rfl
theorem m4_43 : (Jvm.Cond.code ({ cls := "LittleMore", name := "see", desc := "(I)I" } : Jvm.MethodName) prog_1_method_20_code (2 : Nat) (Option.some Jvm.ClassFile.FieldType.int)) ∈ TBL := tb4 43 rfl rfl
theorem m4_44 : (Jvm.Cond.methodLink "LittleMoreLaw" (93 : Nat) ({ cls := "LittleMore", name := "who", desc := "()I" } : Jvm.MethodName)) ∈ TBL := tb4 44 rfl rfl
theorem m4_45 : (Jvm.Cond.instanceMethod ({ cls := "LittleMore", name := "who", desc := "()I" } : Jvm.MethodName)) ∈ TBL := tb4 45 rfl rfl
theorem m4_46 : (Jvm.Cond.selects "LittleMore" ({ cls := "LittleMore", name := "who", desc := "()I" } : Jvm.MethodName) ({ cls := "LittleMore", name := "who", desc := "()I" } : Jvm.MethodName)) ∈ TBL := tb4 46 rfl rfl
theorem m4_47 : (Jvm.Cond.code ({ cls := "LittleMore", name := "who", desc := "()I" } : Jvm.MethodName) prog_1_method_21_code (4 : Nat) (Option.some Jvm.ClassFile.FieldType.int)) ∈ TBL := tb4 47 rfl rfl
theorem m4_48 : (Jvm.Cond.methodLink "LittleMore" (240 : Nat) ({ cls := "LittleMore$Shop", name := "cutsAreSeen", desc := "(LLittleMore$Customer;)Z" } : Jvm.MethodName)) ∈ TBL := tb4 48 rfl rfl
theorem m4_49 : (Jvm.Cond.instanceMethod ({ cls := "LittleMore$Shop", name := "cutsAreSeen", desc := "(LLittleMore$Customer;)Z" } : Jvm.MethodName)) ∈ TBL := tb4 49 rfl rfl
theorem m4_50 : (Jvm.Cond.selects "LittleMore$Shop" ({ cls := "LittleMore$Shop", name := "cutsAreSeen", desc := "(LLittleMore$Customer;)Z" } : Jvm.MethodName) ({ cls := "LittleMore$Shop", name := "cutsAreSeen", desc := "(LLittleMore$Customer;)Z" } : Jvm.MethodName)) ∈ TBL := tb4 50 rfl rfl
theorem m4_51 : (Jvm.Cond.code ({ cls := "LittleMore$Shop", name := "cutsAreSeen", desc := "(LLittleMore$Customer;)Z" } : Jvm.MethodName) prog_9_method_15_code (3 : Nat) (Option.some Jvm.ClassFile.FieldType.boolean)) ∈ TBL := tb4 51 rfl rfl
theorem m4_52 : (Jvm.Cond.methodLink "LittleMoreLaw" (97 : Nat) ({ cls := "LittleMore", name := "offs", desc := "(II)I" } : Jvm.MethodName)) ∈ TBL := tb4 52 rfl rfl
theorem m4_53 : (Jvm.Cond.instanceMethod ({ cls := "LittleMore", name := "offs", desc := "(II)I" } : Jvm.MethodName)) ∈ TBL := tb4 53 rfl rfl
theorem m4_54 : (Jvm.Cond.selects "LittleMore" ({ cls := "LittleMore", name := "offs", desc := "(II)I" } : Jvm.MethodName) ({ cls := "LittleMore", name := "offs", desc := "(II)I" } : Jvm.MethodName)) ∈ TBL := tb4 54 rfl rfl
theorem m4_55 : (Jvm.Cond.code ({ cls := "LittleMore", name := "offs", desc := "(II)I" } : Jvm.MethodName) prog_1_method_22_code (6 : Nat) (Option.some Jvm.ClassFile.FieldType.int)) ∈ TBL := tb4 55 rfl rfl
theorem m4_56 : (Jvm.Cond.methodLink "LittleMore" (243 : Nat) ({ cls := "LittleMore", name := "isSeenWith", desc := "(II)Z" } : Jvm.MethodName)) ∈ TBL := tb4 56 rfl rfl
theorem m4_58 : (Jvm.Cond.instanceMethod ({ cls := "LittleMore", name := "isSeenWith", desc := "(II)Z" } : Jvm.MethodName)) ∈ TBL := tb4 58 rfl rfl
theorem m4_59 : (Jvm.Cond.code ({ cls := "LittleMore", name := "isSeenWith", desc := "(II)Z" } : Jvm.MethodName) prog_1_method_45_code (5 : Nat) (Option.some Jvm.ClassFile.FieldType.boolean)) ∈ TBL := tb4 59 rfl rfl
theorem m4_60 : (Jvm.Cond.methodLink "LittleMoreLaw" (101 : Nat) ({ cls := "LittleMore", name := "odds", desc := "(II)J" } : Jvm.MethodName)) ∈ TBL := tb4 60 rfl rfl
theorem m4_61 : (Jvm.Cond.instanceMethod ({ cls := "LittleMore", name := "odds", desc := "(II)J" } : Jvm.MethodName)) ∈ TBL := tb4 61 rfl rfl
theorem m4_62 : (Jvm.Cond.selects "LittleMore" ({ cls := "LittleMore", name := "odds", desc := "(II)J" } : Jvm.MethodName) ({ cls := "LittleMore", name := "odds", desc := "(II)J" } : Jvm.MethodName)) ∈ TBL := tb4 62 rfl rfl
theorem m4_63 : (Jvm.Cond.code ({ cls := "LittleMore", name := "odds", desc := "(II)J" } : Jvm.MethodName) prog_1_method_23_code (4 : Nat) (Option.some Jvm.ClassFile.FieldType.long)) ∈ TBL := tb4 63 rfl rfl
theorem m4_64 : (Jvm.Cond.constantLong "LittleMore" (247 : Nat) (-9223372036854775808 : Int64)) ∈ TBL := tb4 64 rfl rfl
theorem m4_65 : (Jvm.Cond.methodLink "LittleMore" (249 : Nat) ({ cls := "LittleMore$Shop", name := "howManyStay", desc := "()I" } : Jvm.MethodName)) ∈ TBL := tb4 65 rfl rfl
theorem m4_66 : (Jvm.Cond.instanceMethod ({ cls := "LittleMore$Shop", name := "howManyStay", desc := "()I" } : Jvm.MethodName)) ∈ TBL := tb4 66 rfl rfl
theorem m4_67 : (Jvm.Cond.selects "LittleMore$Shop" ({ cls := "LittleMore$Shop", name := "howManyStay", desc := "()I" } : Jvm.MethodName) ({ cls := "LittleMore$Shop", name := "howManyStay", desc := "()I" } : Jvm.MethodName)) ∈ TBL := tb4 67 rfl rfl
theorem m4_68 : (Jvm.Cond.code ({ cls := "LittleMore$Shop", name := "howManyStay", desc := "()I" } : Jvm.MethodName) prog_9_method_12_code (1 : Nat) (Option.some Jvm.ClassFile.FieldType.int)) ∈ TBL := tb4 68 rfl rfl
theorem m4_69 : (Jvm.Cond.methodLink "LittleMore$Shop" (110 : Nat) ({ cls := "LittleMore$Shop", name := "goneBits", desc := "()I" } : Jvm.MethodName)) ∈ TBL := tb4 69 rfl rfl
theorem m4_70 : (Jvm.Cond.methodLink "LittleMore$Shop" (114 : Nat) ({ cls := "java/lang/Integer", name := "bitCount", desc := "(I)I" } : Jvm.MethodName)) ∈ TBL := tb4 70 rfl rfl
theorem m4_71 : (Jvm.Cond.static ({ cls := "java/lang/Integer", name := "bitCount", desc := "(I)I" } : Jvm.MethodName)) ∈ TBL := tb4 71 rfl rfl
theorem m4_72 : (Jvm.Cond.code ({ cls := "java/lang/Integer", name := "bitCount", desc := "(I)I" } : Jvm.MethodName) prog_20_method_49_code (1 : Nat) (Option.some Jvm.ClassFile.FieldType.int)) ∈ TBL := tb4 72 rfl rfl
theorem m4_73 : (Jvm.Cond.constant "java/lang/Integer" (265 : Nat) (1431655765 : Int32)) ∈ TBL := tb4 73 rfl rfl
theorem m4_74 : (Jvm.Cond.constant "java/lang/Integer" (266 : Nat) (858993459 : Int32)) ∈ TBL := tb4 74 rfl rfl
theorem m4_75 : (Jvm.Cond.constant "java/lang/Integer" (267 : Nat) (252645135 : Int32)) ∈ TBL := tb4 75 rfl rfl
theorem m4_76 : (Jvm.Cond.methodLink "LittleMore" (252 : Nat) ({ cls := "LittleMore", name := "partInLowestTerms", desc := "(JJI)J" } : Jvm.MethodName)) ∈ TBL := tb4 76 rfl rfl
theorem m4_77 : (Jvm.Cond.static ({ cls := "LittleMore", name := "partInLowestTerms", desc := "(JJI)J" } : Jvm.MethodName)) ∈ TBL := tb4 77 rfl rfl
theorem m4_78 : (Jvm.Cond.code ({ cls := "LittleMore", name := "partInLowestTerms", desc := "(JJI)J" } : Jvm.MethodName) prog_1_method_46_code (7 : Nat) (Option.some Jvm.ClassFile.FieldType.long)) ∈ TBL := tb4 78 rfl rfl
theorem m4_79 : (Jvm.Cond.methodLink "LittleMore" (315 : Nat) ({ cls := "LittleMore", name := "commonDivisor", desc := "(JJ)J" } : Jvm.MethodName)) ∈ TBL := tb4 79 rfl rfl
theorem m4_80 : (Jvm.Cond.static ({ cls := "LittleMore", name := "commonDivisor", desc := "(JJ)J" } : Jvm.MethodName)) ∈ TBL := tb4 80 rfl rfl
theorem m4_81 : (Jvm.Cond.code ({ cls := "LittleMore", name := "commonDivisor", desc := "(JJ)J" } : Jvm.MethodName) prog_1_method_47_code (11 : Nat) (Option.some Jvm.ClassFile.FieldType.long)) ∈ TBL := tb4 81 rfl rfl
theorem m4_82 : (Jvm.Cond.methodLink "LittleMoreLaw" (106 : Nat) ({ cls := "LittleMore", name := "mean", desc := "(II)J" } : Jvm.MethodName)) ∈ TBL := tb4 82 rfl rfl
theorem m4_83 : (Jvm.Cond.instanceMethod ({ cls := "LittleMore", name := "mean", desc := "(II)J" } : Jvm.MethodName)) ∈ TBL := tb4 83 rfl rfl
theorem m4_84 : (Jvm.Cond.selects "LittleMore" ({ cls := "LittleMore", name := "mean", desc := "(II)J" } : Jvm.MethodName) ({ cls := "LittleMore", name := "mean", desc := "(II)J" } : Jvm.MethodName)) ∈ TBL := tb4 84 rfl rfl
theorem m4_85 : (Jvm.Cond.code ({ cls := "LittleMore", name := "mean", desc := "(II)J" } : Jvm.MethodName) prog_1_method_24_code (9 : Nat) (Option.some Jvm.ClassFile.FieldType.long)) ∈ TBL := tb4 85 rfl rfl
theorem m4_86 : (Jvm.Cond.methodLink "LittleMore" (256 : Nat) ({ cls := "LittleMore$Shop", name := "askedTogether", desc := "()I" } : Jvm.MethodName)) ∈ TBL := tb4 86 rfl rfl
theorem m4_87 : (Jvm.Cond.instanceMethod ({ cls := "LittleMore$Shop", name := "askedTogether", desc := "()I" } : Jvm.MethodName)) ∈ TBL := tb4 87 rfl rfl
theorem m4_88 : (Jvm.Cond.selects "LittleMore$Shop" ({ cls := "LittleMore$Shop", name := "askedTogether", desc := "()I" } : Jvm.MethodName) ({ cls := "LittleMore$Shop", name := "askedTogether", desc := "()I" } : Jvm.MethodName)) ∈ TBL := tb4 88 rfl rfl
theorem m4_89 : (Jvm.Cond.code ({ cls := "LittleMore$Shop", name := "askedTogether", desc := "()I" } : Jvm.MethodName) prog_9_method_14_code (3 : Nat) (Option.some Jvm.ClassFile.FieldType.int)) ∈ TBL := tb4 89 rfl rfl
theorem m4_90 : (Jvm.Cond.methodLink "LittleMoreLaw" (110 : Nat) ({ cls := "LittleMore", name := "book", desc := "(I)I" } : Jvm.MethodName)) ∈ TBL := tb4 90 rfl rfl
theorem m4_91 : (Jvm.Cond.instanceMethod ({ cls := "LittleMore", name := "book", desc := "(I)I" } : Jvm.MethodName)) ∈ TBL := tb4 91 rfl rfl
theorem m4_92 : (Jvm.Cond.selects "LittleMore" ({ cls := "LittleMore", name := "book", desc := "(I)I" } : Jvm.MethodName) ({ cls := "LittleMore", name := "book", desc := "(I)I" } : Jvm.MethodName)) ∈ TBL := tb4 92 rfl rfl
theorem m4_93 : (Jvm.Cond.code ({ cls := "LittleMore", name := "book", desc := "(I)I" } : Jvm.MethodName) prog_1_method_25_code (2 : Nat) (Option.some Jvm.ClassFile.FieldType.int)) ∈ TBL := tb4 93 rfl rfl
theorem m4_94 : (Jvm.Cond.methodLink "LittleMoreLaw" (114 : Nat) ({ cls := "LittleMore", name := "looked", desc := "()I" } : Jvm.MethodName)) ∈ TBL := tb4 94 rfl rfl
theorem m4_95 : (Jvm.Cond.instanceMethod ({ cls := "LittleMore", name := "looked", desc := "()I" } : Jvm.MethodName)) ∈ TBL := tb4 95 rfl rfl
theorem m4_96 : (Jvm.Cond.selects "LittleMore" ({ cls := "LittleMore", name := "looked", desc := "()I" } : Jvm.MethodName) ({ cls := "LittleMore", name := "looked", desc := "()I" } : Jvm.MethodName)) ∈ TBL := tb4 96 rfl rfl
theorem m4_97 : (Jvm.Cond.code ({ cls := "LittleMore", name := "looked", desc := "()I" } : Jvm.MethodName) prog_1_method_26_code (4 : Nat) (Option.some Jvm.ClassFile.FieldType.int)) ∈ TBL := tb4 97 rfl rfl
theorem m4_98 : (Jvm.Cond.methodLink "LittleMoreLaw" (118 : Nat) ({ cls := "LittleMore", name := "judge", desc := "(II)I" } : Jvm.MethodName)) ∈ TBL := tb4 98 rfl rfl
theorem m4_99 : (Jvm.Cond.instanceMethod ({ cls := "LittleMore", name := "judge", desc := "(II)I" } : Jvm.MethodName)) ∈ TBL := tb4 99 rfl rfl
theorem m4_100 : (Jvm.Cond.selects "LittleMore" ({ cls := "LittleMore", name := "judge", desc := "(II)I" } : Jvm.MethodName) ({ cls := "LittleMore", name := "judge", desc := "(II)I" } : Jvm.MethodName)) ∈ TBL := tb4 100 rfl rfl
theorem m4_101 : (Jvm.Cond.code ({ cls := "LittleMore", name := "judge", desc := "(II)I" } : Jvm.MethodName) prog_1_method_27_code (4 : Nat) (Option.some Jvm.ClassFile.FieldType.int)) ∈ TBL := tb4 101 rfl rfl
theorem m4_102 : (Jvm.Cond.methodLink "LittleMore" (266 : Nat) ({ cls := "LittleMore", name := "isNoTape", desc := "(I)Z" } : Jvm.MethodName)) ∈ TBL := tb4 102 rfl rfl
theorem m4_103 : (Jvm.Cond.static ({ cls := "LittleMore", name := "isNoTape", desc := "(I)Z" } : Jvm.MethodName)) ∈ TBL := tb4 103 rfl rfl
theorem m4_104 : (Jvm.Cond.code ({ cls := "LittleMore", name := "isNoTape", desc := "(I)Z" } : Jvm.MethodName) prog_1_method_39_code (1 : Nat) (Option.some Jvm.ClassFile.FieldType.boolean)) ∈ TBL := tb4 104 rfl rfl
theorem m4_105 : (Jvm.Cond.methodLink "LittleMoreLaw" (122 : Nat) ({ cls := "LittleMore", name := "image", desc := "()I" } : Jvm.MethodName)) ∈ TBL := tb4 105 rfl rfl
theorem m4_106 : (Jvm.Cond.instanceMethod ({ cls := "LittleMore", name := "image", desc := "()I" } : Jvm.MethodName)) ∈ TBL := tb4 106 rfl rfl
theorem m4_107 : (Jvm.Cond.selects "LittleMore" ({ cls := "LittleMore", name := "image", desc := "()I" } : Jvm.MethodName) ({ cls := "LittleMore", name := "image", desc := "()I" } : Jvm.MethodName)) ∈ TBL := tb4 107 rfl rfl
theorem m4_108 : (Jvm.Cond.code ({ cls := "LittleMore", name := "image", desc := "()I" } : Jvm.MethodName) prog_1_method_28_code (1 : Nat) (Option.some Jvm.ClassFile.FieldType.int)) ∈ TBL := tb4 108 rfl rfl
theorem m4_109 : (Jvm.Cond.methodLink "LittleMoreLaw" (126 : Nat) ({ cls := "LittleMore", name := "undo", desc := "()I" } : Jvm.MethodName)) ∈ TBL := tb4 109 rfl rfl
theorem m4_110 : (Jvm.Cond.instanceMethod ({ cls := "LittleMore", name := "undo", desc := "()I" } : Jvm.MethodName)) ∈ TBL := tb4 110 rfl rfl
theorem m4_111 : (Jvm.Cond.selects "LittleMore" ({ cls := "LittleMore", name := "undo", desc := "()I" } : Jvm.MethodName) ({ cls := "LittleMore", name := "undo", desc := "()I" } : Jvm.MethodName)) ∈ TBL := tb4 111 rfl rfl
theorem m4_112 : (Jvm.Cond.code ({ cls := "LittleMore", name := "undo", desc := "()I" } : Jvm.MethodName) prog_1_method_29_code (1 : Nat) (Option.some Jvm.ClassFile.FieldType.int)) ∈ TBL := tb4 112 rfl rfl
theorem m4_113 : (Jvm.Cond.methodLink "LittleMoreLaw" (130 : Nat) ({ cls := "LittleMore", name := "act", desc := "(III)I" } : Jvm.MethodName)) ∈ TBL := tb4 113 rfl rfl
theorem m4_114 : (Jvm.Cond.instanceMethod ({ cls := "LittleMore", name := "act", desc := "(III)I" } : Jvm.MethodName)) ∈ TBL := tb4 114 rfl rfl
theorem m4_115 : (Jvm.Cond.selects "LittleMore" ({ cls := "LittleMore", name := "act", desc := "(III)I" } : Jvm.MethodName) ({ cls := "LittleMore", name := "act", desc := "(III)I" } : Jvm.MethodName)) ∈ TBL := tb4 115 rfl rfl
theorem m4_116 : (Jvm.Cond.code ({ cls := "LittleMore", name := "act", desc := "(III)I" } : Jvm.MethodName) prog_1_method_30_code (5 : Nat) (Option.some Jvm.ClassFile.FieldType.int)) ∈ TBL := tb4 116 rfl rfl
theorem m4_117 : (Jvm.Cond.methodLink "LittleMore" (274 : Nat) ({ cls := "java/util/ArrayList", name := "clear", desc := "()V" } : Jvm.MethodName)) ∈ TBL := tb4 117 rfl rfl
theorem m4_118 : (Jvm.Cond.instanceMethod ({ cls := "java/util/ArrayList", name := "clear", desc := "()V" } : Jvm.MethodName)) ∈ TBL := tb4 118 rfl rfl
theorem m4_119 : (Jvm.Cond.selects "java/util/ArrayList" ({ cls := "java/util/ArrayList", name := "clear", desc := "()V" } : Jvm.MethodName) ({ cls := "java/util/ArrayList", name := "clear", desc := "()V" } : Jvm.MethodName)) ∈ TBL := tb4 119 rfl rfl
theorem m4_120 : (Jvm.Cond.code ({ cls := "java/util/ArrayList", name := "clear", desc := "()V" } : Jvm.MethodName) prog_33_method_40_code (4 : Nat) (Option.none : Option Jvm.ClassFile.FieldType)) ∈ TBL := tb4 120 rfl rfl
theorem m4_121 : (Jvm.Cond.methodLink "LittleMore" (277 : Nat) ({ cls := "LittleMore$Kind", name := "asks", desc := "(LLittleMore$Customer;ILjava/util/ArrayList;)I" } : Jvm.MethodName)) ∈ TBL := tb4 121 rfl rfl
theorem m4_122 : (Jvm.Cond.instanceMethod ({ cls := "LittleMore$Kind", name := "asks", desc := "(LLittleMore$Customer;ILjava/util/ArrayList;)I" } : Jvm.MethodName)) ∈ TBL := tb4 122 rfl rfl
theorem m4_123 : (Jvm.Cond.selects "LittleMore$Kind" ({ cls := "LittleMore$Kind", name := "asks", desc := "(LLittleMore$Customer;ILjava/util/ArrayList;)I" } : Jvm.MethodName) ({ cls := "LittleMore$Kind", name := "asks", desc := "(LLittleMore$Customer;ILjava/util/ArrayList;)I" } : Jvm.MethodName)) ∈ TBL := tb4 123 rfl rfl
theorem m4_124 : (Jvm.Cond.sameMethod "LittleMore$Kind" "LittleMore$Kind" "asks" "(LLittleMore$Customer;ILjava/util/ArrayList;)I") ∈ TBL := tb4 124 rfl rfl
theorem m4_125 : (Jvm.Cond.selects "LittleMore$Child" ({ cls := "LittleMore$Kind", name := "asks", desc := "(LLittleMore$Customer;ILjava/util/ArrayList;)I" } : Jvm.MethodName) ({ cls := "LittleMore$Kind", name := "asks", desc := "(LLittleMore$Customer;ILjava/util/ArrayList;)I" } : Jvm.MethodName)) ∈ TBL := tb4 125 rfl rfl
theorem m4_126 : (Jvm.Cond.selects "LittleMore$Counting" ({ cls := "LittleMore$Kind", name := "asks", desc := "(LLittleMore$Customer;ILjava/util/ArrayList;)I" } : Jvm.MethodName) ({ cls := "LittleMore$Counting", name := "asks", desc := "(LLittleMore$Customer;ILjava/util/ArrayList;)I" } : Jvm.MethodName)) ∈ TBL := tb4 126 rfl rfl
theorem m4_127 : (Jvm.Cond.instanceMethod ({ cls := "LittleMore$Counting", name := "asks", desc := "(LLittleMore$Customer;ILjava/util/ArrayList;)I" } : Jvm.MethodName)) ∈ TBL := tb4 127 rfl rfl
theorem m4_128 : (Jvm.Cond.code ({ cls := "LittleMore$Counting", name := "asks", desc := "(LLittleMore$Customer;ILjava/util/ArrayList;)I" } : Jvm.MethodName) prog_4_method_4_code (4 : Nat) (Option.some Jvm.ClassFile.FieldType.int)) ∈ TBL := tb4 128 rfl rfl
theorem m4_129 : (Jvm.Cond.methodLink "LittleMore$Counting" (26 : Nat) ({ cls := "java/lang/Integer", name := "valueOf", desc := "(I)Ljava/lang/Integer;" } : Jvm.MethodName)) ∈ TBL := tb4 129 rfl rfl
theorem m4_130 : (Jvm.Cond.static ({ cls := "java/lang/Integer", name := "valueOf", desc := "(I)Ljava/lang/Integer;" } : Jvm.MethodName)) ∈ TBL := tb4 130 rfl rfl
theorem m4_131 : (Jvm.Cond.code ({ cls := "java/lang/Integer", name := "valueOf", desc := "(I)Ljava/lang/Integer;" } : Jvm.MethodName) prog_20_method_22_code (1 : Nat) (Option.some (Jvm.ClassFile.FieldType.object "java/lang/Integer"))) ∈ TBL := tb4 131 rfl rfl
theorem m4_132 : (Jvm.Cond.fieldLink "java/lang/Integer" (191 : Nat) "java/lang/Integer$IntegerCache" "high" "I") ∈ TBL := tb4 132 rfl rfl
theorem l4_133 : (Jvm.Cond.laysStatic "java/lang/Integer$IntegerCache" "high" "I") ∈ lw_tbl := tl4 133 rfl
theorem m4_134 : (Jvm.Cond.fieldLink "java/lang/Integer" (195 : Nat) "java/lang/Integer$IntegerCache" "cache" "[Ljava/lang/Integer;") ∈ TBL := tb4 134 rfl rfl
theorem l4_135 : (Jvm.Cond.laysStatic "java/lang/Integer$IntegerCache" "cache" "[Ljava/lang/Integer;") ∈ lw_tbl := tl4 135 rfl
theorem m4_137 : (Jvm.Cond.instantiable "java/lang/Integer" (1 : Nat)) ∈ TBL := tb4 137 rfl rfl
theorem m4_145 : (Jvm.Cond.fieldLink "java/lang/Integer" (205 : Nat) "java/lang/Integer" "value" "I") ∈ TBL := tb4 145 rfl rfl
theorem m4_146 : (Jvm.Cond.laysFinal "java/lang/Integer" "java/lang/Integer" "value" "I") ∈ TBL := tb4 146 rfl rfl
theorem m4_149 : (Jvm.Cond.methodLink "LittleMore$Counting" (32 : Nat) ({ cls := "java/util/ArrayList", name := "add", desc := "(Ljava/lang/Object;)Z" } : Jvm.MethodName)) ∈ TBL := tb4 149 rfl rfl
theorem m4_150 : (Jvm.Cond.instanceMethod ({ cls := "java/util/ArrayList", name := "add", desc := "(Ljava/lang/Object;)Z" } : Jvm.MethodName)) ∈ TBL := tb4 150 rfl rfl
theorem m4_151 : (Jvm.Cond.selects "java/util/ArrayList" ({ cls := "java/util/ArrayList", name := "add", desc := "(Ljava/lang/Object;)Z" } : Jvm.MethodName) ({ cls := "java/util/ArrayList", name := "add", desc := "(Ljava/lang/Object;)Z" } : Jvm.MethodName)) ∈ TBL := tb4 151 rfl rfl
theorem m4_152 : (Jvm.Cond.code ({ cls := "java/util/ArrayList", name := "add", desc := "(Ljava/lang/Object;)Z" } : Jvm.MethodName) prog_33_method_25_code (2 : Nat) (Option.some Jvm.ClassFile.FieldType.boolean)) ∈ TBL := tb4 152 rfl rfl
theorem m4_153 : (Jvm.Cond.methodLink "java/util/ArrayList" (131 : Nat) ({ cls := "java/util/ArrayList", name := "add", desc := "(Ljava/lang/Object;[Ljava/lang/Object;I)V" } : Jvm.MethodName)) ∈ TBL := tb4 153 rfl rfl
theorem m4_155 : (Jvm.Cond.instanceMethod ({ cls := "java/util/ArrayList", name := "add", desc := "(Ljava/lang/Object;[Ljava/lang/Object;I)V" } : Jvm.MethodName)) ∈ TBL := tb4 155 rfl rfl
theorem m4_156 : (Jvm.Cond.code ({ cls := "java/util/ArrayList", name := "add", desc := "(Ljava/lang/Object;[Ljava/lang/Object;I)V" } : Jvm.MethodName) prog_33_method_24_code (4 : Nat) (Option.none : Option Jvm.ClassFile.FieldType)) ∈ TBL := tb4 156 rfl rfl
theorem m4_157 : (Jvm.Cond.methodLink "java/util/ArrayList" (129 : Nat) ({ cls := "java/util/ArrayList", name := "grow", desc := "()[Ljava/lang/Object;" } : Jvm.MethodName)) ∈ TBL := tb4 157 rfl rfl
theorem m4_159 : (Jvm.Cond.instanceMethod ({ cls := "java/util/ArrayList", name := "grow", desc := "()[Ljava/lang/Object;" } : Jvm.MethodName)) ∈ TBL := tb4 159 rfl rfl
theorem m4_160 : (Jvm.Cond.code ({ cls := "java/util/ArrayList", name := "grow", desc := "()[Ljava/lang/Object;" } : Jvm.MethodName) prog_33_method_7_code (1 : Nat) (Option.some (Jvm.ClassFile.FieldType.array (Jvm.ClassFile.FieldType.object "java/lang/Object")))) ∈ TBL := tb4 160 rfl rfl
theorem m4_161 : (Jvm.Cond.methodLink "java/util/ArrayList" (69 : Nat) ({ cls := "java/util/ArrayList", name := "grow", desc := "(I)[Ljava/lang/Object;" } : Jvm.MethodName)) ∈ TBL := tb4 161 rfl rfl
theorem m4_163 : (Jvm.Cond.instanceMethod ({ cls := "java/util/ArrayList", name := "grow", desc := "(I)[Ljava/lang/Object;" } : Jvm.MethodName)) ∈ TBL := tb4 163 rfl rfl
theorem m4_164 : (Jvm.Cond.code ({ cls := "java/util/ArrayList", name := "grow", desc := "(I)[Ljava/lang/Object;" } : Jvm.MethodName) prog_33_method_6_code (4 : Nat) (Option.some (Jvm.ClassFile.FieldType.array (Jvm.ClassFile.FieldType.object "java/lang/Object")))) ∈ TBL := tb4 164 rfl rfl
theorem m4_165 : (Jvm.Cond.methodLink "java/util/ArrayList" (73 : Nat) ({ cls := "jdk/internal/util/ArraysSupport", name := "newLength", desc := "(III)I" } : Jvm.MethodName)) ∈ TBL := tb4 165 rfl rfl
theorem m4_166 : (Jvm.Cond.static ({ cls := "jdk/internal/util/ArraysSupport", name := "newLength", desc := "(III)I" } : Jvm.MethodName)) ∈ TBL := tb4 166 rfl rfl
theorem m4_167 : (Jvm.Cond.code ({ cls := "jdk/internal/util/ArraysSupport", name := "newLength", desc := "(III)I" } : Jvm.MethodName) prog_40_method_27_code (4 : Nat) (Option.some Jvm.ClassFile.FieldType.int)) ∈ TBL := tb4 167 rfl rfl
theorem m4_168 : (Jvm.Cond.methodLink "jdk/internal/util/ArraysSupport" (194 : Nat) ({ cls := "java/lang/Math", name := "max", desc := "(II)I" } : Jvm.MethodName)) ∈ TBL := tb4 168 rfl rfl
theorem m4_169 : (Jvm.Cond.constant "jdk/internal/util/ArraysSupport" (200 : Nat) (2147483639 : Int32)) ∈ TBL := tb4 169 rfl rfl
theorem m4_173 : (Jvm.Cond.methodLink "java/util/ArrayList" (66 : Nat) ({ cls := "java/util/Arrays", name := "copyOf", desc := "([Ljava/lang/Object;I)[Ljava/lang/Object;" } : Jvm.MethodName)) ∈ TBL := tb4 173 rfl rfl
theorem m4_174 : (Jvm.Cond.static ({ cls := "java/util/Arrays", name := "copyOf", desc := "([Ljava/lang/Object;I)[Ljava/lang/Object;" } : Jvm.MethodName)) ∈ TBL := tb4 174 rfl rfl
theorem m4_175 : (Jvm.Cond.code ({ cls := "java/util/Arrays", name := "copyOf", desc := "([Ljava/lang/Object;I)[Ljava/lang/Object;" } : Jvm.MethodName) prog_34_method_119_code (2 : Nat) (Option.some (Jvm.ClassFile.FieldType.array (Jvm.ClassFile.FieldType.object "java/lang/Object")))) ∈ TBL := tb4 175 rfl rfl
theorem m4_176 : (Jvm.Cond.methodLink "java/util/Arrays" (86 : Nat) ({ cls := "java/lang/Object", name := "getClass", desc := "()Ljava/lang/Class;" } : Jvm.MethodName)) ∈ TBL := tb4 176 rfl rfl
theorem m4_177 : (Jvm.Cond.instanceMethod ({ cls := "java/lang/Object", name := "getClass", desc := "()Ljava/lang/Class;" } : Jvm.MethodName)) ∈ TBL := tb4 177 rfl rfl
theorem m4_194 : (Jvm.Cond.native ({ cls := "java/lang/Object", name := "getClass", desc := "()Ljava/lang/Class;" } : Jvm.MethodName)) ∈ TBL := tb4 194 rfl rfl
theorem m4_195 : (Jvm.Cond.methodLink "java/util/Arrays" (300 : Nat) ({ cls := "java/util/Arrays", name := "copyOf", desc := "([Ljava/lang/Object;ILjava/lang/Class;)[Ljava/lang/Object;" } : Jvm.MethodName)) ∈ TBL := tb4 195 rfl rfl
theorem m4_196 : (Jvm.Cond.static ({ cls := "java/util/Arrays", name := "copyOf", desc := "([Ljava/lang/Object;ILjava/lang/Class;)[Ljava/lang/Object;" } : Jvm.MethodName)) ∈ TBL := tb4 196 rfl rfl
theorem m4_197 : (Jvm.Cond.code ({ cls := "java/util/Arrays", name := "copyOf", desc := "([Ljava/lang/Object;ILjava/lang/Class;)[Ljava/lang/Object;" } : Jvm.MethodName) prog_34_method_120_code (4 : Nat) (Option.some (Jvm.ClassFile.FieldType.array (Jvm.ClassFile.FieldType.object "java/lang/Object")))) ∈ TBL := tb4 197 rfl rfl
theorem m4_198 : (Jvm.Cond.classLink "java/util/Arrays" (110 : Nat) "[Ljava/lang/Object;") ∈ TBL := tb4 198 rfl rfl
theorem l4_199 : (Jvm.Cond.arrayOver (Jvm.ClassFile.FieldType.object "java/lang/Object")) ∈ lw_tbl := tl4 199 rfl
theorem m4_200 : (Jvm.Cond.classLink "java/util/Arrays" (2 : Nat) "java/lang/Object") ∈ TBL := tb4 200 rfl rfl
theorem m4_201 : (Jvm.Cond.methodLink "java/util/ArrayList" (79 : Nat) ({ cls := "java/lang/Math", name := "max", desc := "(II)I" } : Jvm.MethodName)) ∈ TBL := tb4 201 rfl rfl
theorem m4_202 : (Jvm.Cond.classLink "java/util/ArrayList" (7 : Nat) "java/lang/Object") ∈ TBL := tb4 202 rfl rfl
theorem m4_203 : (Jvm.Cond.methodLink "LittleMore$Counting" (38 : Nat) ({ cls := "LittleMore$Strict", name := "asks", desc := "(LLittleMore$Customer;ILjava/util/ArrayList;)I" } : Jvm.MethodName)) ∈ TBL := tb4 203 rfl rfl
theorem m4_204 : (Jvm.Cond.sameMethod "LittleMore$Strict" "LittleMore$Kind" "asks" "(LLittleMore$Customer;ILjava/util/ArrayList;)I") ∈ TBL := tb4 204 rfl rfl
theorem m4_206 : (Jvm.Cond.selects "LittleMore$Gentle" ({ cls := "LittleMore$Kind", name := "asks", desc := "(LLittleMore$Customer;ILjava/util/ArrayList;)I" } : Jvm.MethodName) ({ cls := "LittleMore$Gentle", name := "asks", desc := "(LLittleMore$Customer;ILjava/util/ArrayList;)I" } : Jvm.MethodName)) ∈ TBL := tb4 206 rfl rfl
theorem m4_207 : (Jvm.Cond.instanceMethod ({ cls := "LittleMore$Gentle", name := "asks", desc := "(LLittleMore$Customer;ILjava/util/ArrayList;)I" } : Jvm.MethodName)) ∈ TBL := tb4 207 rfl rfl
theorem m4_208 : (Jvm.Cond.code ({ cls := "LittleMore$Gentle", name := "asks", desc := "(LLittleMore$Customer;ILjava/util/ArrayList;)I" } : Jvm.MethodName) prog_6_method_3_code (4 : Nat) (Option.some Jvm.ClassFile.FieldType.int)) ∈ TBL := tb4 208 rfl rfl
theorem m4_209 : (Jvm.Cond.methodLink "LittleMore$Gentle" (13 : Nat) ({ cls := "java/lang/Integer", name := "valueOf", desc := "(I)Ljava/lang/Integer;" } : Jvm.MethodName)) ∈ TBL := tb4 209 rfl rfl
theorem m4_210 : (Jvm.Cond.methodLink "LittleMore$Gentle" (19 : Nat) ({ cls := "java/util/ArrayList", name := "add", desc := "(Ljava/lang/Object;)Z" } : Jvm.MethodName)) ∈ TBL := tb4 210 rfl rfl
theorem m4_211 : (Jvm.Cond.methodLink "LittleMore$Gentle" (25 : Nat) ({ cls := "LittleMore$Kind", name := "asks", desc := "(LLittleMore$Customer;ILjava/util/ArrayList;)I" } : Jvm.MethodName)) ∈ TBL := tb4 211 rfl rfl
theorem m4_212 : (Jvm.Cond.selects "LittleMore$Leaving" ({ cls := "LittleMore$Kind", name := "asks", desc := "(LLittleMore$Customer;ILjava/util/ArrayList;)I" } : Jvm.MethodName) ({ cls := "LittleMore$Gentle", name := "asks", desc := "(LLittleMore$Customer;ILjava/util/ArrayList;)I" } : Jvm.MethodName)) ∈ TBL := tb4 212 rfl rfl
theorem m4_213 : (Jvm.Cond.selects "LittleMore$Strict" ({ cls := "LittleMore$Kind", name := "asks", desc := "(LLittleMore$Customer;ILjava/util/ArrayList;)I" } : Jvm.MethodName) ({ cls := "LittleMore$Kind", name := "asks", desc := "(LLittleMore$Customer;ILjava/util/ArrayList;)I" } : Jvm.MethodName)) ∈ TBL := tb4 213 rfl rfl
theorem m4_214 : (Jvm.Cond.selects "LittleMore$Told" ({ cls := "LittleMore$Kind", name := "asks", desc := "(LLittleMore$Customer;ILjava/util/ArrayList;)I" } : Jvm.MethodName) ({ cls := "LittleMore$Told", name := "asks", desc := "(LLittleMore$Customer;ILjava/util/ArrayList;)I" } : Jvm.MethodName)) ∈ TBL := tb4 214 rfl rfl
theorem m4_215 : (Jvm.Cond.instanceMethod ({ cls := "LittleMore$Told", name := "asks", desc := "(LLittleMore$Customer;ILjava/util/ArrayList;)I" } : Jvm.MethodName)) ∈ TBL := tb4 215 rfl rfl
theorem m4_216 : (Jvm.Cond.code ({ cls := "LittleMore$Told", name := "asks", desc := "(LLittleMore$Customer;ILjava/util/ArrayList;)I" } : Jvm.MethodName) prog_12_method_4_code (4 : Nat) (Option.some Jvm.ClassFile.FieldType.int)) ∈ TBL := tb4 216 rfl rfl
theorem m4_217 : (Jvm.Cond.methodLink "LittleMore$Told" (29 : Nat) ({ cls := "java/lang/Integer", name := "valueOf", desc := "(I)Ljava/lang/Integer;" } : Jvm.MethodName)) ∈ TBL := tb4 217 rfl rfl
theorem m4_218 : (Jvm.Cond.methodLink "LittleMore$Told" (35 : Nat) ({ cls := "java/util/ArrayList", name := "add", desc := "(Ljava/lang/Object;)Z" } : Jvm.MethodName)) ∈ TBL := tb4 218 rfl rfl
theorem m4_219 : (Jvm.Cond.methodLink "LittleMore$Told" (45 : Nat) ({ cls := "LittleMore$Child", name := "asks", desc := "(LLittleMore$Customer;ILjava/util/ArrayList;)I" } : Jvm.MethodName)) ∈ TBL := tb4 219 rfl rfl
theorem m4_220 : (Jvm.Cond.sameMethod "LittleMore$Child" "LittleMore$Kind" "asks" "(LLittleMore$Customer;ILjava/util/ArrayList;)I") ∈ TBL := tb4 220 rfl rfl
theorem m4_221 : (Jvm.Cond.code ({ cls := "LittleMore$Kind", name := "asks", desc := "(LLittleMore$Customer;ILjava/util/ArrayList;)I" } : Jvm.MethodName) prog_7_method_5_code (4 : Nat) (Option.some Jvm.ClassFile.FieldType.int)) ∈ TBL := tb4 221 rfl rfl
theorem m4_222 : (Jvm.Cond.methodLink "LittleMore$Kind" (21 : Nat) ({ cls := "java/lang/Integer", name := "valueOf", desc := "(I)Ljava/lang/Integer;" } : Jvm.MethodName)) ∈ TBL := tb4 222 rfl rfl
theorem m4_223 : (Jvm.Cond.methodLink "LittleMore$Kind" (27 : Nat) ({ cls := "java/util/ArrayList", name := "add", desc := "(Ljava/lang/Object;)Z" } : Jvm.MethodName)) ∈ TBL := tb4 223 rfl rfl
theorem m4_224 : (Jvm.Cond.methodLink "LittleMore" (281 : Nat) ({ cls := "LittleMore$Kind", name := "buys", desc := "(LLittleMore$Customer;ILjava/util/ArrayList;)I" } : Jvm.MethodName)) ∈ TBL := tb4 224 rfl rfl
theorem m4_225 : (Jvm.Cond.instanceMethod ({ cls := "LittleMore$Kind", name := "buys", desc := "(LLittleMore$Customer;ILjava/util/ArrayList;)I" } : Jvm.MethodName)) ∈ TBL := tb4 225 rfl rfl
theorem m4_226 : (Jvm.Cond.selects "LittleMore$Kind" ({ cls := "LittleMore$Kind", name := "buys", desc := "(LLittleMore$Customer;ILjava/util/ArrayList;)I" } : Jvm.MethodName) ({ cls := "LittleMore$Kind", name := "buys", desc := "(LLittleMore$Customer;ILjava/util/ArrayList;)I" } : Jvm.MethodName)) ∈ TBL := tb4 226 rfl rfl
theorem m4_227 : (Jvm.Cond.sameMethod "LittleMore$Kind" "LittleMore$Kind" "buys" "(LLittleMore$Customer;ILjava/util/ArrayList;)I") ∈ TBL := tb4 227 rfl rfl
theorem m4_228 : (Jvm.Cond.selects "LittleMore$Child" ({ cls := "LittleMore$Kind", name := "buys", desc := "(LLittleMore$Customer;ILjava/util/ArrayList;)I" } : Jvm.MethodName) ({ cls := "LittleMore$Kind", name := "buys", desc := "(LLittleMore$Customer;ILjava/util/ArrayList;)I" } : Jvm.MethodName)) ∈ TBL := tb4 228 rfl rfl
theorem m4_229 : (Jvm.Cond.selects "LittleMore$Counting" ({ cls := "LittleMore$Kind", name := "buys", desc := "(LLittleMore$Customer;ILjava/util/ArrayList;)I" } : Jvm.MethodName) ({ cls := "LittleMore$Counting", name := "buys", desc := "(LLittleMore$Customer;ILjava/util/ArrayList;)I" } : Jvm.MethodName)) ∈ TBL := tb4 229 rfl rfl
theorem m4_230 : (Jvm.Cond.instanceMethod ({ cls := "LittleMore$Counting", name := "buys", desc := "(LLittleMore$Customer;ILjava/util/ArrayList;)I" } : Jvm.MethodName)) ∈ TBL := tb4 230 rfl rfl
theorem m4_231 : (Jvm.Cond.code ({ cls := "LittleMore$Counting", name := "buys", desc := "(LLittleMore$Customer;ILjava/util/ArrayList;)I" } : Jvm.MethodName) prog_4_method_5_code (4 : Nat) (Option.some Jvm.ClassFile.FieldType.int)) ∈ TBL := tb4 231 rfl rfl
theorem m4_232 : (Jvm.Cond.methodLink "LittleMore$Counting" (42 : Nat) ({ cls := "LittleMore$Strict", name := "buys", desc := "(LLittleMore$Customer;ILjava/util/ArrayList;)I" } : Jvm.MethodName)) ∈ TBL := tb4 232 rfl rfl
theorem m4_233 : (Jvm.Cond.instanceMethod ({ cls := "LittleMore$Strict", name := "buys", desc := "(LLittleMore$Customer;ILjava/util/ArrayList;)I" } : Jvm.MethodName)) ∈ TBL := tb4 233 rfl rfl
theorem m4_234 : (Jvm.Cond.code ({ cls := "LittleMore$Strict", name := "buys", desc := "(LLittleMore$Customer;ILjava/util/ArrayList;)I" } : Jvm.MethodName) prog_10_method_4_code (4 : Nat) (Option.some Jvm.ClassFile.FieldType.int)) ∈ TBL := tb4 234 rfl rfl
theorem m4_235 : (Jvm.Cond.methodLink "LittleMore$Strict" (25 : Nat) ({ cls := "java/lang/Integer", name := "valueOf", desc := "(I)Ljava/lang/Integer;" } : Jvm.MethodName)) ∈ TBL := tb4 235 rfl rfl
theorem m4_236 : (Jvm.Cond.methodLink "LittleMore$Strict" (31 : Nat) ({ cls := "java/util/ArrayList", name := "add", desc := "(Ljava/lang/Object;)Z" } : Jvm.MethodName)) ∈ TBL := tb4 236 rfl rfl
theorem m4_237 : (Jvm.Cond.methodLink "LittleMore$Strict" (37 : Nat) ({ cls := "LittleMore$Kind", name := "buys", desc := "(LLittleMore$Customer;ILjava/util/ArrayList;)I" } : Jvm.MethodName)) ∈ TBL := tb4 237 rfl rfl
theorem m4_238 : (Jvm.Cond.selects "LittleMore$Gentle" ({ cls := "LittleMore$Kind", name := "buys", desc := "(LLittleMore$Customer;ILjava/util/ArrayList;)I" } : Jvm.MethodName) ({ cls := "LittleMore$Kind", name := "buys", desc := "(LLittleMore$Customer;ILjava/util/ArrayList;)I" } : Jvm.MethodName)) ∈ TBL := tb4 238 rfl rfl
theorem m4_239 : (Jvm.Cond.selects "LittleMore$Leaving" ({ cls := "LittleMore$Kind", name := "buys", desc := "(LLittleMore$Customer;ILjava/util/ArrayList;)I" } : Jvm.MethodName) ({ cls := "LittleMore$Kind", name := "buys", desc := "(LLittleMore$Customer;ILjava/util/ArrayList;)I" } : Jvm.MethodName)) ∈ TBL := tb4 239 rfl rfl
theorem m5_0 : (Jvm.Cond.selects "LittleMore$Strict" ({ cls := "LittleMore$Kind", name := "buys", desc := "(LLittleMore$Customer;ILjava/util/ArrayList;)I" } : Jvm.MethodName) ({ cls := "LittleMore$Strict", name := "buys", desc := "(LLittleMore$Customer;ILjava/util/ArrayList;)I" } : Jvm.MethodName)) ∈ TBL := tb5 0 rfl rfl
theorem m5_1 : (Jvm.Cond.selects "LittleMore$Told" ({ cls := "LittleMore$Kind", name := "buys", desc := "(LLittleMore$Customer;ILjava/util/ArrayList;)I" } : Jvm.MethodName) ({ cls := "LittleMore$Told", name := "buys", desc := "(LLittleMore$Customer;ILjava/util/ArrayList;)I" } : Jvm.MethodName)) ∈ TBL := tb5 1 rfl rfl
theorem m5_2 : (Jvm.Cond.instanceMethod ({ cls := "LittleMore$Told", name := "buys", desc := "(LLittleMore$Customer;ILjava/util/ArrayList;)I" } : Jvm.MethodName)) ∈ TBL := tb5 2 rfl rfl
theorem m5_3 : (Jvm.Cond.code ({ cls := "LittleMore$Told", name := "buys", desc := "(LLittleMore$Customer;ILjava/util/ArrayList;)I" } : Jvm.MethodName) prog_12_method_3_code (4 : Nat) (Option.some Jvm.ClassFile.FieldType.int)) ∈ TBL := tb5 3 rfl rfl
theorem m5_4 : (Jvm.Cond.methodLink "LittleMore$Told" (41 : Nat) ({ cls := "LittleMore$Child", name := "buys", desc := "(LLittleMore$Customer;ILjava/util/ArrayList;)I" } : Jvm.MethodName)) ∈ TBL := tb5 4 rfl rfl
theorem m5_5 : (Jvm.Cond.sameMethod "LittleMore$Child" "LittleMore$Kind" "buys" "(LLittleMore$Customer;ILjava/util/ArrayList;)I") ∈ TBL := tb5 5 rfl rfl
theorem m5_7 : (Jvm.Cond.code ({ cls := "LittleMore$Kind", name := "buys", desc := "(LLittleMore$Customer;ILjava/util/ArrayList;)I" } : Jvm.MethodName) prog_7_method_6_code (4 : Nat) (Option.some Jvm.ClassFile.FieldType.int)) ∈ TBL := tb5 7 rfl rfl
theorem m5_8 : (Jvm.Cond.methodLink "LittleMore$Kind" (34 : Nat) ({ cls := "LittleMore$Kind", name := "asks", desc := "(LLittleMore$Customer;ILjava/util/ArrayList;)I" } : Jvm.MethodName)) ∈ TBL := tb5 8 rfl rfl
theorem m5_9 : (Jvm.Cond.methodLink "LittleMore" (284 : Nat) ({ cls := "LittleMore$Kind", name := "tells", desc := "(LLittleMore$Customer;ILjava/util/ArrayList;)I" } : Jvm.MethodName)) ∈ TBL := tb5 9 rfl rfl
theorem m5_10 : (Jvm.Cond.instanceMethod ({ cls := "LittleMore$Kind", name := "tells", desc := "(LLittleMore$Customer;ILjava/util/ArrayList;)I" } : Jvm.MethodName)) ∈ TBL := tb5 10 rfl rfl
theorem m5_11 : (Jvm.Cond.selects "LittleMore$Kind" ({ cls := "LittleMore$Kind", name := "tells", desc := "(LLittleMore$Customer;ILjava/util/ArrayList;)I" } : Jvm.MethodName) ({ cls := "LittleMore$Kind", name := "tells", desc := "(LLittleMore$Customer;ILjava/util/ArrayList;)I" } : Jvm.MethodName)) ∈ TBL := tb5 11 rfl rfl
theorem m5_12 : (Jvm.Cond.sameMethod "LittleMore$Kind" "LittleMore$Kind" "tells" "(LLittleMore$Customer;ILjava/util/ArrayList;)I") ∈ TBL := tb5 12 rfl rfl
theorem m5_13 : (Jvm.Cond.selects "LittleMore$Child" ({ cls := "LittleMore$Kind", name := "tells", desc := "(LLittleMore$Customer;ILjava/util/ArrayList;)I" } : Jvm.MethodName) ({ cls := "LittleMore$Child", name := "tells", desc := "(LLittleMore$Customer;ILjava/util/ArrayList;)I" } : Jvm.MethodName)) ∈ TBL := tb5 13 rfl rfl
theorem m5_14 : (Jvm.Cond.instanceMethod ({ cls := "LittleMore$Child", name := "tells", desc := "(LLittleMore$Customer;ILjava/util/ArrayList;)I" } : Jvm.MethodName)) ∈ TBL := tb5 14 rfl rfl
theorem m5_15 : (Jvm.Cond.code ({ cls := "LittleMore$Child", name := "tells", desc := "(LLittleMore$Customer;ILjava/util/ArrayList;)I" } : Jvm.MethodName) prog_2_method_4_code (4 : Nat) (Option.some Jvm.ClassFile.FieldType.int)) ∈ TBL := tb5 15 rfl rfl
theorem m5_16 : (Jvm.Cond.methodLink "LittleMore$Child" (15 : Nat) ({ cls := "java/lang/Integer", name := "valueOf", desc := "(I)Ljava/lang/Integer;" } : Jvm.MethodName)) ∈ TBL := tb5 16 rfl rfl
theorem m5_17 : (Jvm.Cond.methodLink "LittleMore$Child" (21 : Nat) ({ cls := "java/util/ArrayList", name := "add", desc := "(Ljava/lang/Object;)Z" } : Jvm.MethodName)) ∈ TBL := tb5 17 rfl rfl
theorem m5_18 : (Jvm.Cond.methodLink "LittleMore$Child" (27 : Nat) ({ cls := "LittleMore$Kind", name := "tells", desc := "(LLittleMore$Customer;ILjava/util/ArrayList;)I" } : Jvm.MethodName)) ∈ TBL := tb5 18 rfl rfl
theorem m5_19 : (Jvm.Cond.methodLink "LittleMore$Child" (31 : Nat) ({ cls := "LittleMore$Child", name := "buys", desc := "(LLittleMore$Customer;ILjava/util/ArrayList;)I" } : Jvm.MethodName)) ∈ TBL := tb5 19 rfl rfl
theorem m5_20 : (Jvm.Cond.selects "LittleMore$Child" ({ cls := "LittleMore$Child", name := "buys", desc := "(LLittleMore$Customer;ILjava/util/ArrayList;)I" } : Jvm.MethodName) ({ cls := "LittleMore$Kind", name := "buys", desc := "(LLittleMore$Customer;ILjava/util/ArrayList;)I" } : Jvm.MethodName)) ∈ TBL := tb5 20 rfl rfl
theorem m5_21 : (Jvm.Cond.selects "LittleMore$Told" ({ cls := "LittleMore$Child", name := "buys", desc := "(LLittleMore$Customer;ILjava/util/ArrayList;)I" } : Jvm.MethodName) ({ cls := "LittleMore$Told", name := "buys", desc := "(LLittleMore$Customer;ILjava/util/ArrayList;)I" } : Jvm.MethodName)) ∈ TBL := tb5 21 rfl rfl
theorem m5_22 : (Jvm.Cond.selects "LittleMore$Counting" ({ cls := "LittleMore$Kind", name := "tells", desc := "(LLittleMore$Customer;ILjava/util/ArrayList;)I" } : Jvm.MethodName) ({ cls := "LittleMore$Kind", name := "tells", desc := "(LLittleMore$Customer;ILjava/util/ArrayList;)I" } : Jvm.MethodName)) ∈ TBL := tb5 22 rfl rfl
theorem m5_23 : (Jvm.Cond.selects "LittleMore$Gentle" ({ cls := "LittleMore$Kind", name := "tells", desc := "(LLittleMore$Customer;ILjava/util/ArrayList;)I" } : Jvm.MethodName) ({ cls := "LittleMore$Kind", name := "tells", desc := "(LLittleMore$Customer;ILjava/util/ArrayList;)I" } : Jvm.MethodName)) ∈ TBL := tb5 23 rfl rfl
theorem m5_24 : (Jvm.Cond.selects "LittleMore$Leaving" ({ cls := "LittleMore$Kind", name := "tells", desc := "(LLittleMore$Customer;ILjava/util/ArrayList;)I" } : Jvm.MethodName) ({ cls := "LittleMore$Leaving", name := "tells", desc := "(LLittleMore$Customer;ILjava/util/ArrayList;)I" } : Jvm.MethodName)) ∈ TBL := tb5 24 rfl rfl
theorem m5_25 : (Jvm.Cond.instanceMethod ({ cls := "LittleMore$Leaving", name := "tells", desc := "(LLittleMore$Customer;ILjava/util/ArrayList;)I" } : Jvm.MethodName)) ∈ TBL := tb5 25 rfl rfl
theorem m5_26 : (Jvm.Cond.code ({ cls := "LittleMore$Leaving", name := "tells", desc := "(LLittleMore$Customer;ILjava/util/ArrayList;)I" } : Jvm.MethodName) prog_8_method_3_code (4 : Nat) (Option.some Jvm.ClassFile.FieldType.int)) ∈ TBL := tb5 26 rfl rfl
theorem m5_27 : (Jvm.Cond.methodLink "LittleMore$Leaving" (15 : Nat) ({ cls := "java/lang/Integer", name := "valueOf", desc := "(I)Ljava/lang/Integer;" } : Jvm.MethodName)) ∈ TBL := tb5 27 rfl rfl
theorem m5_28 : (Jvm.Cond.methodLink "LittleMore$Leaving" (21 : Nat) ({ cls := "java/util/ArrayList", name := "add", desc := "(Ljava/lang/Object;)Z" } : Jvm.MethodName)) ∈ TBL := tb5 28 rfl rfl
theorem m5_29 : (Jvm.Cond.methodLink "LittleMore$Leaving" (30 : Nat) ({ cls := "LittleMore$Gentle", name := "tells", desc := "(LLittleMore$Customer;ILjava/util/ArrayList;)I" } : Jvm.MethodName)) ∈ TBL := tb5 29 rfl rfl
theorem m5_30 : (Jvm.Cond.sameMethod "LittleMore$Gentle" "LittleMore$Kind" "tells" "(LLittleMore$Customer;ILjava/util/ArrayList;)I") ∈ TBL := tb5 30 rfl rfl
theorem m5_32 : (Jvm.Cond.selects "LittleMore$Strict" ({ cls := "LittleMore$Kind", name := "tells", desc := "(LLittleMore$Customer;ILjava/util/ArrayList;)I" } : Jvm.MethodName) ({ cls := "LittleMore$Kind", name := "tells", desc := "(LLittleMore$Customer;ILjava/util/ArrayList;)I" } : Jvm.MethodName)) ∈ TBL := tb5 32 rfl rfl
theorem m5_33 : (Jvm.Cond.selects "LittleMore$Told" ({ cls := "LittleMore$Kind", name := "tells", desc := "(LLittleMore$Customer;ILjava/util/ArrayList;)I" } : Jvm.MethodName) ({ cls := "LittleMore$Child", name := "tells", desc := "(LLittleMore$Customer;ILjava/util/ArrayList;)I" } : Jvm.MethodName)) ∈ TBL := tb5 33 rfl rfl
theorem m5_34 : (Jvm.Cond.code ({ cls := "LittleMore$Kind", name := "tells", desc := "(LLittleMore$Customer;ILjava/util/ArrayList;)I" } : Jvm.MethodName) prog_7_method_7_code (4 : Nat) (Option.some Jvm.ClassFile.FieldType.int)) ∈ TBL := tb5 34 rfl rfl
theorem m5_35 : (Jvm.Cond.methodLink "LittleMore$Kind" (38 : Nat) ({ cls := "LittleMore$Kind", name := "buys", desc := "(LLittleMore$Customer;ILjava/util/ArrayList;)I" } : Jvm.MethodName)) ∈ TBL := tb5 35 rfl rfl
theorem m5_36 : (Jvm.Cond.methodLink "LittleMoreLaw" (134 : Nat) ({ cls := "LittleMore", name := "trace", desc := "(I)I" } : Jvm.MethodName)) ∈ TBL := tb5 36 rfl rfl
theorem m5_37 : (Jvm.Cond.instanceMethod ({ cls := "LittleMore", name := "trace", desc := "(I)I" } : Jvm.MethodName)) ∈ TBL := tb5 37 rfl rfl
theorem m5_38 : (Jvm.Cond.selects "LittleMore" ({ cls := "LittleMore", name := "trace", desc := "(I)I" } : Jvm.MethodName) ({ cls := "LittleMore", name := "trace", desc := "(I)I" } : Jvm.MethodName)) ∈ TBL := tb5 38 rfl rfl
theorem m5_39 : (Jvm.Cond.code ({ cls := "LittleMore", name := "trace", desc := "(I)I" } : Jvm.MethodName) prog_1_method_31_code (2 : Nat) (Option.some Jvm.ClassFile.FieldType.int)) ∈ TBL := tb5 39 rfl rfl
theorem m5_40 : (Jvm.Cond.methodLink "LittleMore" (287 : Nat) ({ cls := "java/util/ArrayList", name := "size", desc := "()I" } : Jvm.MethodName)) ∈ TBL := tb5 40 rfl rfl
theorem m5_41 : (Jvm.Cond.instanceMethod ({ cls := "java/util/ArrayList", name := "size", desc := "()I" } : Jvm.MethodName)) ∈ TBL := tb5 41 rfl rfl
theorem m5_42 : (Jvm.Cond.selects "java/util/ArrayList" ({ cls := "java/util/ArrayList", name := "size", desc := "()I" } : Jvm.MethodName) ({ cls := "java/util/ArrayList", name := "size", desc := "()I" } : Jvm.MethodName)) ∈ TBL := tb5 42 rfl rfl
theorem m5_43 : (Jvm.Cond.code ({ cls := "java/util/ArrayList", name := "size", desc := "()I" } : Jvm.MethodName) prog_33_method_8_code (1 : Nat) (Option.some Jvm.ClassFile.FieldType.int)) ∈ TBL := tb5 43 rfl rfl
theorem m5_44 : (Jvm.Cond.methodLink "LittleMore" (289 : Nat) ({ cls := "java/util/ArrayList", name := "get", desc := "(I)Ljava/lang/Object;" } : Jvm.MethodName)) ∈ TBL := tb5 44 rfl rfl
theorem m5_45 : (Jvm.Cond.instanceMethod ({ cls := "java/util/ArrayList", name := "get", desc := "(I)Ljava/lang/Object;" } : Jvm.MethodName)) ∈ TBL := tb5 45 rfl rfl
theorem m5_46 : (Jvm.Cond.selects "java/util/ArrayList" ({ cls := "java/util/ArrayList", name := "get", desc := "(I)Ljava/lang/Object;" } : Jvm.MethodName) ({ cls := "java/util/ArrayList", name := "get", desc := "(I)Ljava/lang/Object;" } : Jvm.MethodName)) ∈ TBL := tb5 46 rfl rfl
theorem m5_47 : (Jvm.Cond.code ({ cls := "java/util/ArrayList", name := "get", desc := "(I)Ljava/lang/Object;" } : Jvm.MethodName) prog_33_method_20_code (2 : Nat) (Option.some (Jvm.ClassFile.FieldType.object "java/lang/Object"))) ∈ TBL := tb5 47 rfl rfl
theorem m5_48 : (Jvm.Cond.methodLink "java/util/ArrayList" (118 : Nat) ({ cls := "java/util/Objects", name := "checkIndex", desc := "(II)I" } : Jvm.MethodName)) ∈ TBL := tb5 48 rfl rfl
theorem m5_49 : (Jvm.Cond.static ({ cls := "java/util/Objects", name := "checkIndex", desc := "(II)I" } : Jvm.MethodName)) ∈ TBL := tb5 49 rfl rfl
theorem m5_50 : (Jvm.Cond.code ({ cls := "java/util/Objects", name := "checkIndex", desc := "(II)I" } : Jvm.MethodName) prog_37_method_17_code (2 : Nat) (Option.some Jvm.ClassFile.FieldType.int)) ∈ TBL := tb5 50 rfl rfl
theorem m5_51 : (Jvm.Cond.methodLink "java/util/Objects" (105 : Nat) ({ cls := "jdk/internal/util/Preconditions", name := "checkIndex", desc := "(IILjava/util/function/BiFunction;)I" } : Jvm.MethodName)) ∈ TBL := tb5 51 rfl rfl
theorem m5_52 : (Jvm.Cond.methodLink "java/util/ArrayList" (123 : Nat) ({ cls := "java/util/ArrayList", name := "elementData", desc := "(I)Ljava/lang/Object;" } : Jvm.MethodName)) ∈ TBL := tb5 52 rfl rfl
theorem m5_53 : (Jvm.Cond.instanceMethod ({ cls := "java/util/ArrayList", name := "elementData", desc := "(I)Ljava/lang/Object;" } : Jvm.MethodName)) ∈ TBL := tb5 53 rfl rfl
theorem m5_54 : (Jvm.Cond.selects "java/util/ArrayList" ({ cls := "java/util/ArrayList", name := "elementData", desc := "(I)Ljava/lang/Object;" } : Jvm.MethodName) ({ cls := "java/util/ArrayList", name := "elementData", desc := "(I)Ljava/lang/Object;" } : Jvm.MethodName)) ∈ TBL := tb5 54 rfl rfl
theorem m5_55 : (Jvm.Cond.code ({ cls := "java/util/ArrayList", name := "elementData", desc := "(I)Ljava/lang/Object;" } : Jvm.MethodName) prog_33_method_18_code (2 : Nat) (Option.some (Jvm.ClassFile.FieldType.object "java/lang/Object"))) ∈ TBL := tb5 55 rfl rfl
theorem m5_56 : (Jvm.Cond.classLink "LittleMore" (293 : Nat) "java/lang/Integer") ∈ TBL := tb5 56 rfl rfl
theorem m5_57 : (Jvm.Cond.methodLink "LittleMore" (295 : Nat) ({ cls := "java/lang/Integer", name := "intValue", desc := "()I" } : Jvm.MethodName)) ∈ TBL := tb5 57 rfl rfl
theorem m5_58 : (Jvm.Cond.instanceMethod ({ cls := "java/lang/Integer", name := "intValue", desc := "()I" } : Jvm.MethodName)) ∈ TBL := tb5 58 rfl rfl
theorem m5_59 : (Jvm.Cond.selects "java/lang/Integer" ({ cls := "java/lang/Integer", name := "intValue", desc := "()I" } : Jvm.MethodName) ({ cls := "java/lang/Integer", name := "intValue", desc := "()I" } : Jvm.MethodName)) ∈ TBL := tb5 59 rfl rfl
theorem m5_60 : (Jvm.Cond.code ({ cls := "java/lang/Integer", name := "intValue", desc := "()I" } : Jvm.MethodName) prog_20_method_27_code (1 : Nat) (Option.some Jvm.ClassFile.FieldType.int)) ∈ TBL := tb5 60 rfl rfl
theorem m5_61 : (Jvm.Cond.methodLink "LittleMoreLaw" (138 : Nat) ({ cls := "LittleMore", name := "taken", desc := "(II)I" } : Jvm.MethodName)) ∈ TBL := tb5 61 rfl rfl
theorem m5_62 : (Jvm.Cond.instanceMethod ({ cls := "LittleMore", name := "taken", desc := "(II)I" } : Jvm.MethodName)) ∈ TBL := tb5 62 rfl rfl
theorem m5_63 : (Jvm.Cond.selects "LittleMore" ({ cls := "LittleMore", name := "taken", desc := "(II)I" } : Jvm.MethodName) ({ cls := "LittleMore", name := "taken", desc := "(II)I" } : Jvm.MethodName)) ∈ TBL := tb5 63 rfl rfl
theorem m5_64 : (Jvm.Cond.code ({ cls := "LittleMore", name := "taken", desc := "(II)I" } : Jvm.MethodName) prog_1_method_32_code (4 : Nat) (Option.some Jvm.ClassFile.FieldType.int)) ∈ TBL := tb5 64 rfl rfl
theorem m5_65 : (Jvm.Cond.methodLink "LittleMore" (298 : Nat) ({ cls := "LittleMore", name := "isOfKind", desc := "(LLittleMore$Kind;I)Z" } : Jvm.MethodName)) ∈ TBL := tb5 65 rfl rfl
theorem m5_66 : (Jvm.Cond.static ({ cls := "LittleMore", name := "isOfKind", desc := "(LLittleMore$Kind;I)Z" } : Jvm.MethodName)) ∈ TBL := tb5 66 rfl rfl
theorem m5_67 : (Jvm.Cond.code ({ cls := "LittleMore", name := "isOfKind", desc := "(LLittleMore$Kind;I)Z" } : Jvm.MethodName) prog_1_method_41_code (2 : Nat) (Option.some Jvm.ClassFile.FieldType.boolean)) ∈ TBL := tb5 67 rfl rfl
theorem m5_68 : (Jvm.Cond.methodLink "LittleMoreLaw" (142 : Nat) ({ cls := "LittleMore", name := "count", desc := "(I)I" } : Jvm.MethodName)) ∈ TBL := tb5 68 rfl rfl
theorem m5_69 : (Jvm.Cond.instanceMethod ({ cls := "LittleMore", name := "count", desc := "(I)I" } : Jvm.MethodName)) ∈ TBL := tb5 69 rfl rfl
theorem m5_70 : (Jvm.Cond.selects "LittleMore" ({ cls := "LittleMore", name := "count", desc := "(I)I" } : Jvm.MethodName) ({ cls := "LittleMore", name := "count", desc := "(I)I" } : Jvm.MethodName)) ∈ TBL := tb5 70 rfl rfl
theorem m5_71 : (Jvm.Cond.code ({ cls := "LittleMore", name := "count", desc := "(I)I" } : Jvm.MethodName) prog_1_method_33_code (2 : Nat) (Option.some Jvm.ClassFile.FieldType.int)) ∈ TBL := tb5 71 rfl rfl
theorem m5_72 : (Jvm.Cond.methodLink "LittleMoreLaw" (146 : Nat) ({ cls := "LittleMore", name := "tape", desc := "(III)I" } : Jvm.MethodName)) ∈ TBL := tb5 72 rfl rfl
theorem m5_73 : (Jvm.Cond.instanceMethod ({ cls := "LittleMore", name := "tape", desc := "(III)I" } : Jvm.MethodName)) ∈ TBL := tb5 73 rfl rfl
theorem m5_74 : (Jvm.Cond.selects "LittleMore" ({ cls := "LittleMore", name := "tape", desc := "(III)I" } : Jvm.MethodName) ({ cls := "LittleMore", name := "tape", desc := "(III)I" } : Jvm.MethodName)) ∈ TBL := tb5 74 rfl rfl
theorem m5_75 : (Jvm.Cond.code ({ cls := "LittleMore", name := "tape", desc := "(III)I" } : Jvm.MethodName) prog_1_method_34_code (5 : Nat) (Option.some Jvm.ClassFile.FieldType.int)) ∈ TBL := tb5 75 rfl rfl
theorem m5_76 : (Jvm.Cond.methodLink "LittleMore" (302 : Nat) ({ cls := "java/util/Arrays", name := "fill", desc := "([JJ)V" } : Jvm.MethodName)) ∈ TBL := tb5 76 rfl rfl
theorem m5_77 : (Jvm.Cond.static ({ cls := "java/util/Arrays", name := "fill", desc := "([JJ)V" } : Jvm.MethodName)) ∈ TBL := tb5 77 rfl rfl
theorem m5_78 : (Jvm.Cond.code ({ cls := "java/util/Arrays", name := "fill", desc := "([JJ)V" } : Jvm.MethodName) prog_34_method_101_code (5 : Nat) (Option.none : Option Jvm.ClassFile.FieldType)) ∈ TBL := tb5 78 rfl rfl
theorem m5_79 : (Jvm.Cond.methodLink "LittleMoreLaw" (152 : Nat) ({ cls := "LittleMore", name := "item", desc := "(IIJ)I" } : Jvm.MethodName)) ∈ TBL := tb5 79 rfl rfl
theorem m5_80 : (Jvm.Cond.instanceMethod ({ cls := "LittleMore", name := "item", desc := "(IIJ)I" } : Jvm.MethodName)) ∈ TBL := tb5 80 rfl rfl
theorem m5_81 : (Jvm.Cond.selects "LittleMore" ({ cls := "LittleMore", name := "item", desc := "(IIJ)I" } : Jvm.MethodName) ({ cls := "LittleMore", name := "item", desc := "(IIJ)I" } : Jvm.MethodName)) ∈ TBL := tb5 81 rfl rfl
theorem m5_82 : (Jvm.Cond.code ({ cls := "LittleMore", name := "item", desc := "(IIJ)I" } : Jvm.MethodName) prog_1_method_35_code (5 : Nat) (Option.some Jvm.ClassFile.FieldType.int)) ∈ TBL := tb5 82 rfl rfl
theorem m5_83 : (Jvm.Cond.methodLink "LittleMore" (305 : Nat) ({ cls := "LittleMore", name := "asItem", desc := "(IJ)J" } : Jvm.MethodName)) ∈ TBL := tb5 83 rfl rfl
theorem m5_84 : (Jvm.Cond.static ({ cls := "LittleMore", name := "asItem", desc := "(IJ)J" } : Jvm.MethodName)) ∈ TBL := tb5 84 rfl rfl
theorem m5_85 : (Jvm.Cond.code ({ cls := "LittleMore", name := "asItem", desc := "(IJ)J" } : Jvm.MethodName) prog_1_method_40_code (3 : Nat) (Option.some Jvm.ClassFile.FieldType.long)) ∈ TBL := tb5 85 rfl rfl
theorem m5_86 : (Jvm.Cond.methodLink "LittleMoreLaw" (157 : Nat) ({ cls := "LittleMore", name := "read", desc := "(II)J" } : Jvm.MethodName)) ∈ TBL := tb5 86 rfl rfl
theorem m5_87 : (Jvm.Cond.instanceMethod ({ cls := "LittleMore", name := "read", desc := "(II)J" } : Jvm.MethodName)) ∈ TBL := tb5 87 rfl rfl
theorem m5_88 : (Jvm.Cond.selects "LittleMore" ({ cls := "LittleMore", name := "read", desc := "(II)J" } : Jvm.MethodName) ({ cls := "LittleMore", name := "read", desc := "(II)J" } : Jvm.MethodName)) ∈ TBL := tb5 88 rfl rfl
theorem m5_89 : (Jvm.Cond.code ({ cls := "LittleMore", name := "read", desc := "(II)J" } : Jvm.MethodName) prog_1_method_36_code (3 : Nat) (Option.some Jvm.ClassFile.FieldType.long)) ∈ TBL := tb5 89 rfl rfl
theorem m5_90 : (Jvm.Cond.methodLink "LittleMoreLaw" (161 : Nat) ({ cls := "LittleMore", name := "shift", desc := "(IIIII)I" } : Jvm.MethodName)) ∈ TBL := tb5 90 rfl rfl
theorem m5_91 : (Jvm.Cond.instanceMethod ({ cls := "LittleMore", name := "shift", desc := "(IIIII)I" } : Jvm.MethodName)) ∈ TBL := tb5 91 rfl rfl
theorem m5_92 : (Jvm.Cond.selects "LittleMore" ({ cls := "LittleMore", name := "shift", desc := "(IIIII)I" } : Jvm.MethodName) ({ cls := "LittleMore", name := "shift", desc := "(IIIII)I" } : Jvm.MethodName)) ∈ TBL := tb5 92 rfl rfl
theorem m5_93 : (Jvm.Cond.code ({ cls := "LittleMore", name := "shift", desc := "(IIIII)I" } : Jvm.MethodName) prog_1_method_37_code (6 : Nat) (Option.some Jvm.ClassFile.FieldType.int)) ∈ TBL := tb5 93 rfl rfl
theorem m5_94 : (Jvm.Cond.methodLink "LittleMore" (309 : Nat) ({ cls := "java/lang/System", name := "arraycopy", desc := "(Ljava/lang/Object;ILjava/lang/Object;II)V" } : Jvm.MethodName)) ∈ TBL := tb5 94 rfl rfl
theorem m5_95 : (Jvm.Cond.classLink "LittleMoreLaw" (10 : Nat) "LittleMoreModel") ∈ TBL := tb5 95 rfl rfl
theorem m5_96 : (Jvm.Cond.instantiable "LittleMoreModel" (49 : Nat)) ∈ TBL := tb5 96 rfl rfl
theorem m5_97 : (Jvm.Cond.methodLink "LittleMoreLaw" (12 : Nat) ({ cls := "LittleMoreModel", name := "<init>", desc := "()V" } : Jvm.MethodName)) ∈ TBL := tb5 97 rfl rfl
theorem m5_98 : (Jvm.Cond.instanceMethod ({ cls := "LittleMoreModel", name := "<init>", desc := "()V" } : Jvm.MethodName)) ∈ TBL := tb5 98 rfl rfl
theorem m5_99 : (Jvm.Cond.code ({ cls := "LittleMoreModel", name := "<init>", desc := "()V" } : Jvm.MethodName) prog_14_method_1_code (1 : Nat) (Option.none : Option Jvm.ClassFile.FieldType)) ∈ TBL := tb5 99 rfl rfl
theorem m5_100 : (Jvm.Cond.methodLink "LittleMoreModel" (1 : Nat) ({ cls := "java/lang/Object", name := "<init>", desc := "()V" } : Jvm.MethodName)) ∈ TBL := tb5 100 rfl rfl
theorem m5_101 : (Jvm.Cond.fieldLink "LittleMoreModel" (7 : Nat) "LittleMoreModel" "s" "[I") ∈ TBL := tb5 101 rfl rfl
theorem m5_102 : (Jvm.Cond.fieldLink "LittleMoreModel" (88 : Nat) "LittleMoreModel" "customers" "I") ∈ TBL := tb5 102 rfl rfl
theorem m5_103 : (Jvm.Cond.fieldLink "LittleMoreModel" (13 : Nat) "LittleMoreModel" "off" "I") ∈ TBL := tb5 103 rfl rfl
theorem m5_104 : (Jvm.Cond.fieldLink "LittleMoreModel" (17 : Nat) "LittleMoreModel" "holding" "I") ∈ TBL := tb5 104 rfl rfl
theorem m5_105 : (Jvm.Cond.fieldLink "LittleMoreModel" (20 : Nat) "LittleMoreModel" "seen" "[I") ∈ TBL := tb5 105 rfl rfl
theorem m5_106 : (Jvm.Cond.fieldLink "LittleMoreModel" (109 : Nat) "LittleMoreModel" "seenMany" "I") ∈ TBL := tb5 106 rfl rfl
theorem m5_107 : (Jvm.Cond.fieldLink "LittleMoreModel" (23 : Nat) "LittleMoreModel" "come" "[I") ∈ TBL := tb5 107 rfl rfl
theorem m5_108 : (Jvm.Cond.fieldLink "LittleMoreModel" (112 : Nat) "LittleMoreModel" "comeMany" "I") ∈ TBL := tb5 108 rfl rfl
theorem m5_109 : (Jvm.Cond.fieldLink "LittleMoreModel" (85 : Nat) "LittleMoreModel" "thrown" "I") ∈ TBL := tb5 109 rfl rfl
theorem m5_110 : (Jvm.Cond.fieldLink "LittleMoreModel" (26 : Nat) "LittleMoreModel" "kept" "[I") ∈ TBL := tb5 110 rfl rfl
theorem m5_111 : (Jvm.Cond.fieldLink "LittleMoreModel" (29 : Nat) "LittleMoreModel" "imaged" "[I") ∈ TBL := tb5 111 rfl rfl
theorem m5_112 : (Jvm.Cond.fieldLink "LittleMoreModel" (122 : Nat) "LittleMoreModel" "hasImage" "Z") ∈ TBL := tb5 112 rfl rfl
theorem m5_113 : (Jvm.Cond.fieldLink "LittleMoreModel" (102 : Nat) "LittleMoreModel" "place0" "I") ∈ TBL := tb5 113 rfl rfl
theorem m5_114 : (Jvm.Cond.fieldLink "LittleMoreModel" (95 : Nat) "LittleMoreModel" "isTaking" "Z") ∈ TBL := tb5 114 rfl rfl
theorem m5_115 : (Jvm.Cond.fieldLink "LittleMoreModel" (99 : Nat) "LittleMoreModel" "keptIn" "[I") ∈ TBL := tb5 115 rfl rfl
theorem m5_116 : (Jvm.Cond.fieldLink "LittleMoreModel" (115 : Nat) "LittleMoreModel" "isMind" "Z") ∈ TBL := tb5 116 rfl rfl
theorem m5_117 : (Jvm.Cond.fieldLink "LittleMoreModel" (32 : Nat) "LittleMoreModel" "text" "[I") ∈ TBL := tb5 117 rfl rfl
theorem m5_118 : (Jvm.Cond.fieldLink "LittleMoreModel" (127 : Nat) "LittleMoreModel" "size" "I") ∈ TBL := tb5 118 rfl rfl
theorem m5_119 : (Jvm.Cond.fieldLink "LittleMoreModel" (35 : Nat) "LittleMoreModel" "texts" "[I") ∈ TBL := tb5 119 rfl rfl
theorem m5_120 : (Jvm.Cond.fieldLink "LittleMoreModel" (38 : Nat) "LittleMoreModel" "sizes" "[I") ∈ TBL := tb5 120 rfl rfl
theorem m5_121 : (Jvm.Cond.fieldLink "LittleMoreModel" (197 : Nat) "LittleMoreModel" "counters" "I") ∈ TBL := tb5 121 rfl rfl
theorem m5_122 : (Jvm.Cond.fieldLink "LittleMoreModel" (41 : Nat) "LittleMoreModel" "clauseWhat" "[I") ∈ TBL := tb5 122 rfl rfl
theorem m5_123 : (Jvm.Cond.fieldLink "LittleMoreModel" (44 : Nat) "LittleMoreModel" "clauseN" "[I") ∈ TBL := tb5 123 rfl rfl
theorem m5_124 : (Jvm.Cond.fieldLink "LittleMoreModel" (47 : Nat) "LittleMoreModel" "clauseAt" "[I") ∈ TBL := tb5 124 rfl rfl
theorem m5_125 : (Jvm.Cond.fieldLink "LittleMoreModel" (50 : Nat) "LittleMoreModel" "clauses" "[I") ∈ TBL := tb5 125 rfl rfl
theorem m5_126 : (Jvm.Cond.fieldLink "LittleMoreModel" (130 : Nat) "LittleMoreModel" "at" "I") ∈ TBL := tb5 126 rfl rfl
theorem m5_127 : (Jvm.Cond.fieldLink "LittleMoreModel" (133 : Nat) "LittleMoreModel" "isBad" "Z") ∈ TBL := tb5 127 rfl rfl
theorem m5_128 : (Jvm.Cond.fieldLink "LittleMoreModel" (53 : Nat) "LittleMoreModel" "nots" "[I") ∈ TBL := tb5 128 rfl rfl
theorem m5_129 : (Jvm.Cond.fieldLink "LittleMoreModel" (168 : Nat) "LittleMoreModel" "depth" "I") ∈ TBL := tb5 129 rfl rfl
theorem m5_130 : (Jvm.Cond.fieldLink "LittleMoreModel" (165 : Nat) "LittleMoreModel" "opened" "I") ∈ TBL := tb5 130 rfl rfl
theorem m5_131 : (Jvm.Cond.fieldLink "LittleMoreModel" (56 : Nat) "LittleMoreModel" "ors" "[Z") ∈ TBL := tb5 131 rfl rfl
theorem m5_132 : (Jvm.Cond.fieldLink "LittleMoreModel" (60 : Nat) "LittleMoreModel" "ands" "[Z") ∈ TBL := tb5 132 rfl rfl
theorem m5_133 : (Jvm.Cond.fieldLink "LittleMoreModel" (63 : Nat) "LittleMoreModel" "turns" "[Z") ∈ TBL := tb5 133 rfl rfl
theorem m5_134 : (Jvm.Cond.fieldLink "LittleMoreModel" (245 : Nat) "LittleMoreModel" "bought" "I") ∈ TBL := tb5 134 rfl rfl
theorem m5_135 : (Jvm.Cond.fieldLink "LittleMoreModel" (239 : Nat) "LittleMoreModel" "askedFor" "I") ∈ TBL := tb5 135 rfl rfl
theorem m5_136 : (Jvm.Cond.fieldLink "LittleMoreModel" (242 : Nat) "LittleMoreModel" "cut" "I") ∈ TBL := tb5 136 rfl rfl
theorem m5_137 : (Jvm.Cond.fieldLink "LittleMoreModel" (261 : Nat) "LittleMoreModel" "boughtSum" "I") ∈ TBL := tb5 137 rfl rfl
theorem m5_138 : (Jvm.Cond.fieldLink "LittleMoreModel" (264 : Nat) "LittleMoreModel" "askedSum" "I") ∈ TBL := tb5 138 rfl rfl
theorem m5_139 : (Jvm.Cond.fieldLink "LittleMoreModel" (267 : Nat) "LittleMoreModel" "visitSum" "I") ∈ TBL := tb5 139 rfl rfl
theorem m5_140 : (Jvm.Cond.fieldLink "LittleMoreModel" (66 : Nat) "LittleMoreModel" "trail" "[I") ∈ TBL := tb5 140 rfl rfl
theorem m5_141 : (Jvm.Cond.fieldLink "LittleMoreModel" (340 : Nat) "LittleMoreModel" "trailed" "I") ∈ TBL := tb5 141 rfl rfl
theorem m5_142 : (Jvm.Cond.fieldLink "LittleMoreModel" (355 : Nat) "LittleMoreModel" "kind0" "I") ∈ TBL := tb5 142 rfl rfl
theorem m5_143 : (Jvm.Cond.fieldLink "LittleMoreModel" (352 : Nat) "LittleMoreModel" "v0" "I") ∈ TBL := tb5 143 rfl rfl
theorem m5_144 : (Jvm.Cond.fieldLink "LittleMoreModel" (346 : Nat) "LittleMoreModel" "i0" "I") ∈ TBL := tb5 144 rfl rfl
theorem m5_145 : (Jvm.Cond.fieldLink "LittleMoreModel" (69 : Nat) "LittleMoreModel" "sortOf" "[I") ∈ TBL := tb5 145 rfl rfl
theorem m5_146 : (Jvm.Cond.fieldLink "LittleMoreModel" (72 : Nat) "LittleMoreModel" "manyOf" "[I") ∈ TBL := tb5 146 rfl rfl
theorem m5_147 : (Jvm.Cond.fieldLink "LittleMoreModel" (75 : Nat) "LittleMoreModel" "items" "[J") ∈ TBL := tb5 147 rfl rfl
theorem m5_148 : (Jvm.Cond.fieldLink "LittleMoreModel" (79 : Nat) "LittleMoreModel" "copies" "[J") ∈ TBL := tb5 148 rfl rfl
theorem m5_149 : (Jvm.Cond.fieldLink "LittleMoreModel" (82 : Nat) "LittleMoreModel" "holdsRow" "[Z") ∈ TBL := tb5 149 rfl rfl
theorem m5_150 : (Jvm.Cond.laysFinal "LittleMoreModel" "LittleMoreModel" "s" "[I") ∈ TBL := tb5 150 rfl rfl
theorem m5_152 : (Jvm.Cond.lays "LittleMoreModel" "LittleMoreModel" "customers" "I") ∈ TBL := tb5 152 rfl rfl
theorem m5_154 : (Jvm.Cond.lays "LittleMoreModel" "LittleMoreModel" "off" "I") ∈ TBL := tb5 154 rfl rfl
theorem m5_156 : (Jvm.Cond.lays "LittleMoreModel" "LittleMoreModel" "holding" "I") ∈ TBL := tb5 156 rfl rfl
theorem m5_158 : (Jvm.Cond.laysFinal "LittleMoreModel" "LittleMoreModel" "seen" "[I") ∈ TBL := tb5 158 rfl rfl
theorem m5_160 : (Jvm.Cond.lays "LittleMoreModel" "LittleMoreModel" "seenMany" "I") ∈ TBL := tb5 160 rfl rfl
theorem m5_162 : (Jvm.Cond.laysFinal "LittleMoreModel" "LittleMoreModel" "come" "[I") ∈ TBL := tb5 162 rfl rfl
theorem m5_164 : (Jvm.Cond.lays "LittleMoreModel" "LittleMoreModel" "comeMany" "I") ∈ TBL := tb5 164 rfl rfl
theorem m5_166 : (Jvm.Cond.lays "LittleMoreModel" "LittleMoreModel" "thrown" "I") ∈ TBL := tb5 166 rfl rfl
theorem m5_168 : (Jvm.Cond.laysFinal "LittleMoreModel" "LittleMoreModel" "kept" "[I") ∈ TBL := tb5 168 rfl rfl
theorem m5_170 : (Jvm.Cond.laysFinal "LittleMoreModel" "LittleMoreModel" "imaged" "[I") ∈ TBL := tb5 170 rfl rfl
theorem m5_172 : (Jvm.Cond.lays "LittleMoreModel" "LittleMoreModel" "hasImage" "Z") ∈ TBL := tb5 172 rfl rfl
theorem m5_174 : (Jvm.Cond.lays "LittleMoreModel" "LittleMoreModel" "place0" "I") ∈ TBL := tb5 174 rfl rfl
theorem m5_176 : (Jvm.Cond.lays "LittleMoreModel" "LittleMoreModel" "isTaking" "Z") ∈ TBL := tb5 176 rfl rfl
theorem m5_178 : (Jvm.Cond.lays "LittleMoreModel" "LittleMoreModel" "keptIn" "[I") ∈ TBL := tb5 178 rfl rfl
theorem m5_180 : (Jvm.Cond.lays "LittleMoreModel" "LittleMoreModel" "isMind" "Z") ∈ TBL := tb5 180 rfl rfl
theorem m5_182 : (Jvm.Cond.laysFinal "LittleMoreModel" "LittleMoreModel" "text" "[I") ∈ TBL := tb5 182 rfl rfl
theorem m5_184 : (Jvm.Cond.lays "LittleMoreModel" "LittleMoreModel" "size" "I") ∈ TBL := tb5 184 rfl rfl
theorem m5_186 : (Jvm.Cond.laysFinal "LittleMoreModel" "LittleMoreModel" "texts" "[I") ∈ TBL := tb5 186 rfl rfl
theorem m5_188 : (Jvm.Cond.laysFinal "LittleMoreModel" "LittleMoreModel" "sizes" "[I") ∈ TBL := tb5 188 rfl rfl
theorem m5_190 : (Jvm.Cond.lays "LittleMoreModel" "LittleMoreModel" "counters" "I") ∈ TBL := tb5 190 rfl rfl
theorem m5_192 : (Jvm.Cond.laysFinal "LittleMoreModel" "LittleMoreModel" "clauseWhat" "[I") ∈ TBL := tb5 192 rfl rfl
theorem m5_194 : (Jvm.Cond.laysFinal "LittleMoreModel" "LittleMoreModel" "clauseN" "[I") ∈ TBL := tb5 194 rfl rfl
theorem m5_196 : (Jvm.Cond.laysFinal "LittleMoreModel" "LittleMoreModel" "clauseAt" "[I") ∈ TBL := tb5 196 rfl rfl
theorem m5_198 : (Jvm.Cond.laysFinal "LittleMoreModel" "LittleMoreModel" "clauses" "[I") ∈ TBL := tb5 198 rfl rfl
theorem m5_200 : (Jvm.Cond.lays "LittleMoreModel" "LittleMoreModel" "at" "I") ∈ TBL := tb5 200 rfl rfl
theorem m5_202 : (Jvm.Cond.lays "LittleMoreModel" "LittleMoreModel" "isBad" "Z") ∈ TBL := tb5 202 rfl rfl
theorem m5_204 : (Jvm.Cond.laysFinal "LittleMoreModel" "LittleMoreModel" "nots" "[I") ∈ TBL := tb5 204 rfl rfl
theorem m5_206 : (Jvm.Cond.lays "LittleMoreModel" "LittleMoreModel" "depth" "I") ∈ TBL := tb5 206 rfl rfl
theorem m5_208 : (Jvm.Cond.lays "LittleMoreModel" "LittleMoreModel" "opened" "I") ∈ TBL := tb5 208 rfl rfl
theorem m5_210 : (Jvm.Cond.laysFinal "LittleMoreModel" "LittleMoreModel" "ors" "[Z") ∈ TBL := tb5 210 rfl rfl
theorem m5_212 : (Jvm.Cond.laysFinal "LittleMoreModel" "LittleMoreModel" "ands" "[Z") ∈ TBL := tb5 212 rfl rfl
theorem m5_214 : (Jvm.Cond.laysFinal "LittleMoreModel" "LittleMoreModel" "turns" "[Z") ∈ TBL := tb5 214 rfl rfl
theorem m5_216 : (Jvm.Cond.lays "LittleMoreModel" "LittleMoreModel" "bought" "I") ∈ TBL := tb5 216 rfl rfl
theorem m5_218 : (Jvm.Cond.lays "LittleMoreModel" "LittleMoreModel" "askedFor" "I") ∈ TBL := tb5 218 rfl rfl
theorem m5_220 : (Jvm.Cond.lays "LittleMoreModel" "LittleMoreModel" "cut" "I") ∈ TBL := tb5 220 rfl rfl
theorem m5_222 : (Jvm.Cond.lays "LittleMoreModel" "LittleMoreModel" "boughtSum" "I") ∈ TBL := tb5 222 rfl rfl
theorem m5_224 : (Jvm.Cond.lays "LittleMoreModel" "LittleMoreModel" "askedSum" "I") ∈ TBL := tb5 224 rfl rfl
theorem m5_226 : (Jvm.Cond.lays "LittleMoreModel" "LittleMoreModel" "visitSum" "I") ∈ TBL := tb5 226 rfl rfl
theorem m5_228 : (Jvm.Cond.laysFinal "LittleMoreModel" "LittleMoreModel" "trail" "[I") ∈ TBL := tb5 228 rfl rfl
theorem m5_230 : (Jvm.Cond.lays "LittleMoreModel" "LittleMoreModel" "trailed" "I") ∈ TBL := tb5 230 rfl rfl
theorem m5_232 : (Jvm.Cond.lays "LittleMoreModel" "LittleMoreModel" "kind0" "I") ∈ TBL := tb5 232 rfl rfl
theorem m5_234 : (Jvm.Cond.lays "LittleMoreModel" "LittleMoreModel" "v0" "I") ∈ TBL := tb5 234 rfl rfl
theorem m5_236 : (Jvm.Cond.lays "LittleMoreModel" "LittleMoreModel" "i0" "I") ∈ TBL := tb5 236 rfl rfl
theorem m5_238 : (Jvm.Cond.laysFinal "LittleMoreModel" "LittleMoreModel" "sortOf" "[I") ∈ TBL := tb5 238 rfl rfl
theorem m6_0 : (Jvm.Cond.laysFinal "LittleMoreModel" "LittleMoreModel" "manyOf" "[I") ∈ TBL := tb6 0 rfl rfl
theorem m6_2 : (Jvm.Cond.laysFinal "LittleMoreModel" "LittleMoreModel" "items" "[J") ∈ TBL := tb6 2 rfl rfl
theorem m6_4 : (Jvm.Cond.laysFinal "LittleMoreModel" "LittleMoreModel" "copies" "[J") ∈ TBL := tb6 4 rfl rfl
theorem m6_6 : (Jvm.Cond.laysFinal "LittleMoreModel" "LittleMoreModel" "holdsRow" "[Z") ∈ TBL := tb6 6 rfl rfl
theorem m6_9 : (Jvm.Cond.arrayClass Jvm.ClassFile.FieldType.boolean) ∈ TBL := tb6 9 rfl rfl
theorem m6_10 : (Jvm.Cond.methodLink "LittleMoreLaw" (125 : Nat) ({ cls := "LittleMoreModel", name := "image", desc := "()I" } : Jvm.MethodName)) ∈ TBL := tb6 10 rfl rfl
theorem m6_11 : (Jvm.Cond.instanceMethod ({ cls := "LittleMoreModel", name := "image", desc := "()I" } : Jvm.MethodName)) ∈ TBL := tb6 11 rfl rfl
theorem m6_12 : (Jvm.Cond.selects "LittleMoreModel" ({ cls := "LittleMoreModel", name := "image", desc := "()I" } : Jvm.MethodName) ({ cls := "LittleMoreModel", name := "image", desc := "()I" } : Jvm.MethodName)) ∈ TBL := tb6 12 rfl rfl
theorem m6_13 : (Jvm.Cond.code ({ cls := "LittleMoreModel", name := "image", desc := "()I" } : Jvm.MethodName) prog_14_method_12_code (1 : Nat) (Option.some Jvm.ClassFile.FieldType.int)) ∈ TBL := tb6 13 rfl rfl
theorem m6_14 : (Jvm.Cond.methodLink "LittleMoreModel" (118 : Nat) ({ cls := "LittleMoreModel", name := "carryAll", desc := "([IZ)V" } : Jvm.MethodName)) ∈ TBL := tb6 14 rfl rfl
theorem m6_16 : (Jvm.Cond.instanceMethod ({ cls := "LittleMoreModel", name := "carryAll", desc := "([IZ)V" } : Jvm.MethodName)) ∈ TBL := tb6 16 rfl rfl
theorem m6_17 : (Jvm.Cond.code ({ cls := "LittleMoreModel", name := "carryAll", desc := "([IZ)V" } : Jvm.MethodName) prog_14_method_8_code (4 : Nat) (Option.none : Option Jvm.ClassFile.FieldType)) ∈ TBL := tb6 17 rfl rfl
theorem m6_18 : (Jvm.Cond.methodLink "LittleMoreModel" (105 : Nat) ({ cls := "LittleMoreModel", name := "carry", desc := "(I)I" } : Jvm.MethodName)) ∈ TBL := tb6 18 rfl rfl
theorem m6_20 : (Jvm.Cond.instanceMethod ({ cls := "LittleMoreModel", name := "carry", desc := "(I)I" } : Jvm.MethodName)) ∈ TBL := tb6 20 rfl rfl
theorem m6_21 : (Jvm.Cond.code ({ cls := "LittleMoreModel", name := "carry", desc := "(I)I" } : Jvm.MethodName) prog_14_method_7_code (2 : Nat) (Option.some Jvm.ClassFile.FieldType.int)) ∈ TBL := tb6 21 rfl rfl
theorem m6_22 : (Jvm.Cond.methodLink "LittleMoreLaw" (129 : Nat) ({ cls := "LittleMoreModel", name := "undo", desc := "()I" } : Jvm.MethodName)) ∈ TBL := tb6 22 rfl rfl
theorem m6_23 : (Jvm.Cond.instanceMethod ({ cls := "LittleMoreModel", name := "undo", desc := "()I" } : Jvm.MethodName)) ∈ TBL := tb6 23 rfl rfl
theorem m6_24 : (Jvm.Cond.selects "LittleMoreModel" ({ cls := "LittleMoreModel", name := "undo", desc := "()I" } : Jvm.MethodName) ({ cls := "LittleMoreModel", name := "undo", desc := "()I" } : Jvm.MethodName)) ∈ TBL := tb6 24 rfl rfl
theorem m6_25 : (Jvm.Cond.code ({ cls := "LittleMoreModel", name := "undo", desc := "()I" } : Jvm.MethodName) prog_14_method_13_code (1 : Nat) (Option.some Jvm.ClassFile.FieldType.int)) ∈ TBL := tb6 25 rfl rfl
theorem m6_26 : (Jvm.Cond.methodLink "LittleMoreLaw" (35 : Nat) ({ cls := "LittleMoreModel", name := "feed", desc := "(I)I" } : Jvm.MethodName)) ∈ TBL := tb6 26 rfl rfl
theorem m6_27 : (Jvm.Cond.instanceMethod ({ cls := "LittleMoreModel", name := "feed", desc := "(I)I" } : Jvm.MethodName)) ∈ TBL := tb6 27 rfl rfl
theorem m6_28 : (Jvm.Cond.selects "LittleMoreModel" ({ cls := "LittleMoreModel", name := "feed", desc := "(I)I" } : Jvm.MethodName) ({ cls := "LittleMoreModel", name := "feed", desc := "(I)I" } : Jvm.MethodName)) ∈ TBL := tb6 28 rfl rfl
theorem m6_29 : (Jvm.Cond.code ({ cls := "LittleMoreModel", name := "feed", desc := "(I)I" } : Jvm.MethodName) prog_14_method_14_code (2 : Nat) (Option.some Jvm.ClassFile.FieldType.int)) ∈ TBL := tb6 29 rfl rfl
theorem m6_30 : (Jvm.Cond.constantLong "LittleMoreModel" (125 : Nat) (127 : Int64)) ∈ TBL := tb6 30 rfl rfl
theorem m6_31 : (Jvm.Cond.methodLink "LittleMoreModel" (91 : Nat) ({ cls := "LittleMoreModel", name := "in", desc := "(JJJ)Z" } : Jvm.MethodName)) ∈ TBL := tb6 31 rfl rfl
theorem m6_32 : (Jvm.Cond.static ({ cls := "LittleMoreModel", name := "in", desc := "(JJJ)Z" } : Jvm.MethodName)) ∈ TBL := tb6 32 rfl rfl
theorem m6_33 : (Jvm.Cond.code ({ cls := "LittleMoreModel", name := "in", desc := "(JJJ)Z" } : Jvm.MethodName) prog_14_method_3_code (6 : Nat) (Option.some Jvm.ClassFile.FieldType.boolean)) ∈ TBL := tb6 33 rfl rfl
theorem m6_34 : (Jvm.Cond.methodLink "LittleMoreLaw" (40 : Nat) ({ cls := "LittleMoreModel", name := "counter", desc := "()I" } : Jvm.MethodName)) ∈ TBL := tb6 34 rfl rfl
theorem m6_35 : (Jvm.Cond.instanceMethod ({ cls := "LittleMoreModel", name := "counter", desc := "()I" } : Jvm.MethodName)) ∈ TBL := tb6 35 rfl rfl
theorem m6_36 : (Jvm.Cond.selects "LittleMoreModel" ({ cls := "LittleMoreModel", name := "counter", desc := "()I" } : Jvm.MethodName) ({ cls := "LittleMoreModel", name := "counter", desc := "()I" } : Jvm.MethodName)) ∈ TBL := tb6 36 rfl rfl
theorem m6_37 : (Jvm.Cond.code ({ cls := "LittleMoreModel", name := "counter", desc := "()I" } : Jvm.MethodName) prog_14_method_27_code (5 : Nat) (Option.some Jvm.ClassFile.FieldType.int)) ∈ TBL := tb6 37 rfl rfl
theorem m6_38 : (Jvm.Cond.methodLink "LittleMoreModel" (200 : Nat) ({ cls := "LittleMoreModel", name := "readClause", desc := "(I)V" } : Jvm.MethodName)) ∈ TBL := tb6 38 rfl rfl
theorem m6_40 : (Jvm.Cond.instanceMethod ({ cls := "LittleMoreModel", name := "readClause", desc := "(I)V" } : Jvm.MethodName)) ∈ TBL := tb6 40 rfl rfl
theorem m6_41 : (Jvm.Cond.code ({ cls := "LittleMoreModel", name := "readClause", desc := "(I)V" } : Jvm.MethodName) prog_14_method_26_code (3 : Nat) (Option.none : Option Jvm.ClassFile.FieldType)) ∈ TBL := tb6 41 rfl rfl
theorem m6_42 : (Jvm.Cond.methodLink "LittleMoreModel" (191 : Nat) ({ cls := "LittleMoreModel", name := "readWord", desc := "()I" } : Jvm.MethodName)) ∈ TBL := tb6 42 rfl rfl
theorem m6_44 : (Jvm.Cond.instanceMethod ({ cls := "LittleMoreModel", name := "readWord", desc := "()I" } : Jvm.MethodName)) ∈ TBL := tb6 44 rfl rfl
theorem m6_45 : (Jvm.Cond.code ({ cls := "LittleMoreModel", name := "readWord", desc := "()I" } : Jvm.MethodName) prog_14_method_20_code (3 : Nat) (Option.some Jvm.ClassFile.FieldType.int)) ∈ TBL := tb6 45 rfl rfl
theorem m6_46 : (Jvm.Cond.methodLink "LittleMoreModel" (136 : Nat) ({ cls := "LittleMoreModel", name := "here", desc := "()I" } : Jvm.MethodName)) ∈ TBL := tb6 46 rfl rfl
theorem m6_48 : (Jvm.Cond.instanceMethod ({ cls := "LittleMoreModel", name := "here", desc := "()I" } : Jvm.MethodName)) ∈ TBL := tb6 48 rfl rfl
theorem m6_49 : (Jvm.Cond.code ({ cls := "LittleMoreModel", name := "here", desc := "()I" } : Jvm.MethodName) prog_14_method_15_code (1 : Nat) (Option.some Jvm.ClassFile.FieldType.int)) ∈ TBL := tb6 49 rfl rfl
theorem m6_50 : (Jvm.Cond.constantLong "LittleMoreModel" (153 : Nat) (543519343 : Int64)) ∈ TBL := tb6 50 rfl rfl
theorem m6_51 : (Jvm.Cond.constantLong "LittleMoreModel" (155 : Nat) (139139967346 : Int64)) ∈ TBL := tb6 51 rfl rfl
theorem m6_52 : (Jvm.Cond.methodLink "LittleMoreModel" (157 : Nat) ({ cls := "LittleMoreModel", name := "takeAll", desc := "(J)V" } : Jvm.MethodName)) ∈ TBL := tb6 52 rfl rfl
theorem m6_54 : (Jvm.Cond.instanceMethod ({ cls := "LittleMoreModel", name := "takeAll", desc := "(J)V" } : Jvm.MethodName)) ∈ TBL := tb6 54 rfl rfl
theorem m6_55 : (Jvm.Cond.code ({ cls := "LittleMoreModel", name := "takeAll", desc := "(J)V" } : Jvm.MethodName) prog_14_method_17_code (5 : Nat) (Option.none : Option Jvm.ClassFile.FieldType)) ∈ TBL := tb6 55 rfl rfl
theorem m6_56 : (Jvm.Cond.constantLong "LittleMoreModel" (140 : Nat) (256 : Int64)) ∈ TBL := tb6 56 rfl rfl
theorem m6_57 : (Jvm.Cond.methodLink "LittleMoreModel" (142 : Nat) ({ cls := "LittleMoreModel", name := "take", desc := "(I)V" } : Jvm.MethodName)) ∈ TBL := tb6 57 rfl rfl
theorem m6_59 : (Jvm.Cond.instanceMethod ({ cls := "LittleMoreModel", name := "take", desc := "(I)V" } : Jvm.MethodName)) ∈ TBL := tb6 59 rfl rfl
theorem m6_60 : (Jvm.Cond.code ({ cls := "LittleMoreModel", name := "take", desc := "(I)V" } : Jvm.MethodName) prog_14_method_16_code (2 : Nat) (Option.none : Option Jvm.ClassFile.FieldType)) ∈ TBL := tb6 60 rfl rfl
theorem m6_61 : (Jvm.Cond.constantLong "LittleMoreModel" (161 : Nat) (8307 : Int64)) ∈ TBL := tb6 61 rfl rfl
theorem m6_62 : (Jvm.Cond.constantLong "LittleMoreModel" (163 : Nat) (2125426 : Int64)) ∈ TBL := tb6 62 rfl rfl
theorem m6_63 : (Jvm.Cond.methodLink "LittleMoreModel" (179 : Nat) ({ cls := "LittleMoreModel", name := "readNumber", desc := "()I" } : Jvm.MethodName)) ∈ TBL := tb6 63 rfl rfl
theorem m6_65 : (Jvm.Cond.instanceMethod ({ cls := "LittleMoreModel", name := "readNumber", desc := "()I" } : Jvm.MethodName)) ∈ TBL := tb6 65 rfl rfl
theorem m6_66 : (Jvm.Cond.code ({ cls := "LittleMoreModel", name := "readNumber", desc := "()I" } : Jvm.MethodName) prog_14_method_19_code (2 : Nat) (Option.some Jvm.ClassFile.FieldType.int)) ∈ TBL := tb6 66 rfl rfl
theorem m6_67 : (Jvm.Cond.methodLink "LittleMoreModel" (150 : Nat) ({ cls := "LittleMoreModel", name := "readDigit", desc := "()I" } : Jvm.MethodName)) ∈ TBL := tb6 67 rfl rfl
theorem m6_69 : (Jvm.Cond.instanceMethod ({ cls := "LittleMoreModel", name := "readDigit", desc := "()I" } : Jvm.MethodName)) ∈ TBL := tb6 69 rfl rfl
theorem m6_70 : (Jvm.Cond.code ({ cls := "LittleMoreModel", name := "readDigit", desc := "()I" } : Jvm.MethodName) prog_14_method_18_code (1 : Nat) (Option.some Jvm.ClassFile.FieldType.int)) ∈ TBL := tb6 70 rfl rfl
theorem m6_71 : (Jvm.Cond.constantLong "LittleMoreModel" (146 : Nat) (48 : Int64)) ∈ TBL := tb6 71 rfl rfl
theorem m6_72 : (Jvm.Cond.constantLong "LittleMoreModel" (148 : Nat) (57 : Int64)) ∈ TBL := tb6 72 rfl rfl
theorem m6_73 : (Jvm.Cond.methodLink "LittleMoreModel" (194 : Nat) ({ cls := "LittleMoreModel", name := "readExpression", desc := "()V" } : Jvm.MethodName)) ∈ TBL := tb6 73 rfl rfl
theorem m6_75 : (Jvm.Cond.instanceMethod ({ cls := "LittleMoreModel", name := "readExpression", desc := "()V" } : Jvm.MethodName)) ∈ TBL := tb6 75 rfl rfl
theorem m6_76 : (Jvm.Cond.code ({ cls := "LittleMoreModel", name := "readExpression", desc := "()V" } : Jvm.MethodName) prog_14_method_25_code (4 : Nat) (Option.none : Option Jvm.ClassFile.FieldType)) ∈ TBL := tb6 76 rfl rfl
theorem m6_77 : (Jvm.Cond.methodLink "LittleMoreModel" (185 : Nat) ({ cls := "LittleMoreModel", name := "readOpening", desc := "(I)V" } : Jvm.MethodName)) ∈ TBL := tb6 77 rfl rfl
theorem m6_79 : (Jvm.Cond.instanceMethod ({ cls := "LittleMoreModel", name := "readOpening", desc := "(I)V" } : Jvm.MethodName)) ∈ TBL := tb6 79 rfl rfl
theorem m6_80 : (Jvm.Cond.code ({ cls := "LittleMoreModel", name := "readOpening", desc := "(I)V" } : Jvm.MethodName) prog_14_method_24_code (2 : Nat) (Option.none : Option Jvm.ClassFile.FieldType)) ∈ TBL := tb6 80 rfl rfl
theorem m6_81 : (Jvm.Cond.methodLink "LittleMoreModel" (188 : Nat) ({ cls := "LittleMoreModel", name := "readTest", desc := "()V" } : Jvm.MethodName)) ∈ TBL := tb6 81 rfl rfl
theorem m6_83 : (Jvm.Cond.instanceMethod ({ cls := "LittleMoreModel", name := "readTest", desc := "()V" } : Jvm.MethodName)) ∈ TBL := tb6 83 rfl rfl
theorem m6_84 : (Jvm.Cond.code ({ cls := "LittleMoreModel", name := "readTest", desc := "()V" } : Jvm.MethodName) prog_14_method_23_code (1 : Nat) (Option.none : Option Jvm.ClassFile.FieldType)) ∈ TBL := tb6 84 rfl rfl
theorem m6_85 : (Jvm.Cond.methodLink "LittleMoreModel" (171 : Nat) ({ cls := "LittleMoreModel", name := "isLetter", desc := "(I)Z" } : Jvm.MethodName)) ∈ TBL := tb6 85 rfl rfl
theorem m6_86 : (Jvm.Cond.static ({ cls := "LittleMoreModel", name := "isLetter", desc := "(I)Z" } : Jvm.MethodName)) ∈ TBL := tb6 86 rfl rfl
theorem m6_87 : (Jvm.Cond.code ({ cls := "LittleMoreModel", name := "isLetter", desc := "(I)Z" } : Jvm.MethodName) prog_14_method_21_code (1 : Nat) (Option.some Jvm.ClassFile.FieldType.boolean)) ∈ TBL := tb6 87 rfl rfl
theorem m6_88 : (Jvm.Cond.constantLong "LittleMoreModel" (175 : Nat) (60 : Int64)) ∈ TBL := tb6 88 rfl rfl
theorem m6_89 : (Jvm.Cond.constantLong "LittleMoreModel" (177 : Nat) (62 : Int64)) ∈ TBL := tb6 89 rfl rfl
theorem m6_90 : (Jvm.Cond.methodLink "LittleMoreModel" (182 : Nat) ({ cls := "LittleMoreModel", name := "factorEnds", desc := "()V" } : Jvm.MethodName)) ∈ TBL := tb6 90 rfl rfl
theorem m6_92 : (Jvm.Cond.instanceMethod ({ cls := "LittleMoreModel", name := "factorEnds", desc := "()V" } : Jvm.MethodName)) ∈ TBL := tb6 92 rfl rfl
theorem m6_93 : (Jvm.Cond.code ({ cls := "LittleMoreModel", name := "factorEnds", desc := "()V" } : Jvm.MethodName) prog_14_method_22_code (1 : Nat) (Option.none : Option Jvm.ClassFile.FieldType)) ∈ TBL := tb6 93 rfl rfl
theorem m6_94 : (Jvm.Cond.methodLink "LittleMoreLaw" (17 : Nat) ({ cls := "LittleMoreModel", name := "customer", desc := "(III)I" } : Jvm.MethodName)) ∈ TBL := tb6 94 rfl rfl
theorem m6_95 : (Jvm.Cond.instanceMethod ({ cls := "LittleMoreModel", name := "customer", desc := "(III)I" } : Jvm.MethodName)) ∈ TBL := tb6 95 rfl rfl
theorem m6_96 : (Jvm.Cond.selects "LittleMoreModel" ({ cls := "LittleMoreModel", name := "customer", desc := "(III)I" } : Jvm.MethodName) ({ cls := "LittleMoreModel", name := "customer", desc := "(III)I" } : Jvm.MethodName)) ∈ TBL := tb6 96 rfl rfl
theorem m6_97 : (Jvm.Cond.code ({ cls := "LittleMoreModel", name := "customer", desc := "(III)I" } : Jvm.MethodName) prog_14_method_44_code (5 : Nat) (Option.some Jvm.ClassFile.FieldType.int)) ∈ TBL := tb6 97 rfl rfl
theorem m6_98 : (Jvm.Cond.constantLong "LittleMoreModel" (273 : Nat) (6 : Int64)) ∈ TBL := tb6 98 rfl rfl
theorem m6_99 : (Jvm.Cond.constantLong "LittleMoreModel" (275 : Nat) (9 : Int64)) ∈ TBL := tb6 99 rfl rfl
theorem m6_100 : (Jvm.Cond.constantLong "LittleMoreModel" (277 : Nat) (10 : Int64)) ∈ TBL := tb6 100 rfl rfl
theorem m6_101 : (Jvm.Cond.constantLong "LittleMoreModel" (279 : Nat) (99 : Int64)) ∈ TBL := tb6 101 rfl rfl
theorem m6_102 : (Jvm.Cond.methodLink "LittleMoreModel" (251 : Nat) ({ cls := "LittleMoreModel", name := "put", desc := "(III)V" } : Jvm.MethodName)) ∈ TBL := tb6 102 rfl rfl
theorem m6_104 : (Jvm.Cond.instanceMethod ({ cls := "LittleMoreModel", name := "put", desc := "(III)V" } : Jvm.MethodName)) ∈ TBL := tb6 104 rfl rfl
theorem m6_105 : (Jvm.Cond.code ({ cls := "LittleMoreModel", name := "put", desc := "(III)V" } : Jvm.MethodName) prog_14_method_6_code (4 : Nat) (Option.none : Option Jvm.ClassFile.FieldType)) ∈ TBL := tb6 105 rfl rfl
theorem m6_106 : (Jvm.Cond.methodLink "LittleMoreLaw" (22 : Nat) ({ cls := "LittleMoreModel", name := "of", desc := "(II)I" } : Jvm.MethodName)) ∈ TBL := tb6 106 rfl rfl
theorem m6_107 : (Jvm.Cond.instanceMethod ({ cls := "LittleMoreModel", name := "of", desc := "(II)I" } : Jvm.MethodName)) ∈ TBL := tb6 107 rfl rfl
theorem m6_108 : (Jvm.Cond.selects "LittleMoreModel" ({ cls := "LittleMoreModel", name := "of", desc := "(II)I" } : Jvm.MethodName) ({ cls := "LittleMoreModel", name := "of", desc := "(II)I" } : Jvm.MethodName)) ∈ TBL := tb6 108 rfl rfl
theorem m6_109 : (Jvm.Cond.code ({ cls := "LittleMoreModel", name := "of", desc := "(II)I" } : Jvm.MethodName) prog_14_method_45_code (3 : Nat) (Option.some Jvm.ClassFile.FieldType.int)) ∈ TBL := tb6 109 rfl rfl
theorem m6_110 : (Jvm.Cond.methodLink "LittleMoreModel" (281 : Nat) ({ cls := "LittleMoreModel", name := "isCustomer", desc := "(I)Z" } : Jvm.MethodName)) ∈ TBL := tb6 110 rfl rfl
theorem m6_112 : (Jvm.Cond.instanceMethod ({ cls := "LittleMoreModel", name := "isCustomer", desc := "(I)Z" } : Jvm.MethodName)) ∈ TBL := tb6 112 rfl rfl
theorem m6_113 : (Jvm.Cond.code ({ cls := "LittleMoreModel", name := "isCustomer", desc := "(I)Z" } : Jvm.MethodName) prog_14_method_4_code (2 : Nat) (Option.some Jvm.ClassFile.FieldType.boolean)) ∈ TBL := tb6 113 rfl rfl
theorem m6_114 : (Jvm.Cond.constantLong "LittleMoreModel" (284 : Nat) (11 : Int64)) ∈ TBL := tb6 114 rfl rfl
theorem m6_115 : (Jvm.Cond.methodLink "LittleMoreModel" (227 : Nat) ({ cls := "LittleMoreModel", name := "moreOf", desc := "(I)I" } : Jvm.MethodName)) ∈ TBL := tb6 115 rfl rfl
theorem m6_117 : (Jvm.Cond.instanceMethod ({ cls := "LittleMoreModel", name := "moreOf", desc := "(I)I" } : Jvm.MethodName)) ∈ TBL := tb6 117 rfl rfl
theorem m6_118 : (Jvm.Cond.code ({ cls := "LittleMoreModel", name := "moreOf", desc := "(I)I" } : Jvm.MethodName) prog_14_method_34_code (5 : Nat) (Option.some Jvm.ClassFile.FieldType.int)) ∈ TBL := tb6 118 rfl rfl
theorem m6_119 : (Jvm.Cond.methodLink "LittleMoreModel" (203 : Nat) ({ cls := "LittleMoreModel", name := "of0", desc := "(II)I" } : Jvm.MethodName)) ∈ TBL := tb6 119 rfl rfl
theorem m6_121 : (Jvm.Cond.instanceMethod ({ cls := "LittleMoreModel", name := "of0", desc := "(II)I" } : Jvm.MethodName)) ∈ TBL := tb6 121 rfl rfl
theorem m6_122 : (Jvm.Cond.code ({ cls := "LittleMoreModel", name := "of0", desc := "(II)I" } : Jvm.MethodName) prog_14_method_5_code (3 : Nat) (Option.some Jvm.ClassFile.FieldType.int)) ∈ TBL := tb6 122 rfl rfl
theorem m6_123 : (Jvm.Cond.methodLink "LittleMoreModel" (220 : Nat) ({ cls := "LittleMoreModel", name := "holds", desc := "(II)Z" } : Jvm.MethodName)) ∈ TBL := tb6 123 rfl rfl
theorem m6_125 : (Jvm.Cond.instanceMethod ({ cls := "LittleMoreModel", name := "holds", desc := "(II)Z" } : Jvm.MethodName)) ∈ TBL := tb6 125 rfl rfl
theorem m6_126 : (Jvm.Cond.code ({ cls := "LittleMoreModel", name := "holds", desc := "(II)Z" } : Jvm.MethodName) prog_14_method_32_code (9 : Nat) (Option.some Jvm.ClassFile.FieldType.boolean)) ∈ TBL := tb6 126 rfl rfl
theorem m6_127 : (Jvm.Cond.methodLink "LittleMoreModel" (207 : Nat) ({ cls := "LittleMoreModel", name := "openLevel", desc := "(I)V" } : Jvm.MethodName)) ∈ TBL := tb6 127 rfl rfl
theorem m6_129 : (Jvm.Cond.instanceMethod ({ cls := "LittleMoreModel", name := "openLevel", desc := "(I)V" } : Jvm.MethodName)) ∈ TBL := tb6 129 rfl rfl
theorem m6_130 : (Jvm.Cond.code ({ cls := "LittleMoreModel", name := "openLevel", desc := "(I)V" } : Jvm.MethodName) prog_14_method_30_code (2 : Nat) (Option.none : Option Jvm.ClassFile.FieldType)) ∈ TBL := tb6 130 rfl rfl
theorem m6_131 : (Jvm.Cond.methodLink "LittleMoreModel" (210 : Nat) ({ cls := "LittleMoreModel", name := "sign", desc := "(I)I" } : Jvm.MethodName)) ∈ TBL := tb6 131 rfl rfl
theorem m6_133 : (Jvm.Cond.instanceMethod ({ cls := "LittleMoreModel", name := "sign", desc := "(I)I" } : Jvm.MethodName)) ∈ TBL := tb6 133 rfl rfl
theorem m6_134 : (Jvm.Cond.code ({ cls := "LittleMoreModel", name := "sign", desc := "(I)I" } : Jvm.MethodName) prog_14_method_28_code (2 : Nat) (Option.some Jvm.ClassFile.FieldType.int)) ∈ TBL := tb6 134 rfl rfl
theorem m6_135 : (Jvm.Cond.methodLink "LittleMoreModel" (213 : Nat) ({ cls := "LittleMoreModel", name := "factorIs", desc := "(IZ)V" } : Jvm.MethodName)) ∈ TBL := tb6 135 rfl rfl
theorem m6_137 : (Jvm.Cond.instanceMethod ({ cls := "LittleMoreModel", name := "factorIs", desc := "(IZ)V" } : Jvm.MethodName)) ∈ TBL := tb6 137 rfl rfl
theorem m6_138 : (Jvm.Cond.code ({ cls := "LittleMoreModel", name := "factorIs", desc := "(IZ)V" } : Jvm.MethodName) prog_14_method_31_code (3 : Nat) (Option.none : Option Jvm.ClassFile.FieldType)) ∈ TBL := tb6 138 rfl rfl
theorem m6_139 : (Jvm.Cond.methodLink "LittleMoreModel" (217 : Nat) ({ cls := "LittleMoreModel", name := "tested", desc := "(II)I" } : Jvm.MethodName)) ∈ TBL := tb6 139 rfl rfl
theorem m6_141 : (Jvm.Cond.instanceMethod ({ cls := "LittleMoreModel", name := "tested", desc := "(II)I" } : Jvm.MethodName)) ∈ TBL := tb6 141 rfl rfl
theorem m6_142 : (Jvm.Cond.code ({ cls := "LittleMoreModel", name := "tested", desc := "(II)I" } : Jvm.MethodName) prog_14_method_29_code (3 : Nat) (Option.some Jvm.ClassFile.FieldType.int)) ∈ TBL := tb6 142 rfl rfl
theorem m6_143 : (Jvm.Cond.methodLink "LittleMoreModel" (236 : Nat) ({ cls := "LittleMoreModel", name := "asksOf", desc := "(I)I" } : Jvm.MethodName)) ∈ TBL := tb6 143 rfl rfl
theorem m6_145 : (Jvm.Cond.instanceMethod ({ cls := "LittleMoreModel", name := "asksOf", desc := "(I)I" } : Jvm.MethodName)) ∈ TBL := tb6 145 rfl rfl
theorem m6_146 : (Jvm.Cond.code ({ cls := "LittleMoreModel", name := "asksOf", desc := "(I)I" } : Jvm.MethodName) prog_14_method_36_code (4 : Nat) (Option.some Jvm.ClassFile.FieldType.int)) ∈ TBL := tb6 146 rfl rfl
theorem m6_147 : (Jvm.Cond.methodLink "LittleMoreModel" (224 : Nat) ({ cls := "LittleMoreModel", name := "atLeast", desc := "(II)I" } : Jvm.MethodName)) ∈ TBL := tb6 147 rfl rfl
theorem m6_148 : (Jvm.Cond.static ({ cls := "LittleMoreModel", name := "atLeast", desc := "(II)I" } : Jvm.MethodName)) ∈ TBL := tb6 148 rfl rfl
theorem m6_149 : (Jvm.Cond.code ({ cls := "LittleMoreModel", name := "atLeast", desc := "(II)I" } : Jvm.MethodName) prog_14_method_35_code (2 : Nat) (Option.some Jvm.ClassFile.FieldType.int)) ∈ TBL := tb6 149 rfl rfl
theorem m6_150 : (Jvm.Cond.methodLink "LittleMoreModel" (230 : Nat) ({ cls := "LittleMoreModel", name := "letsOf", desc := "(I)I" } : Jvm.MethodName)) ∈ TBL := tb6 150 rfl rfl
theorem m6_152 : (Jvm.Cond.instanceMethod ({ cls := "LittleMoreModel", name := "letsOf", desc := "(I)I" } : Jvm.MethodName)) ∈ TBL := tb6 152 rfl rfl
theorem m6_153 : (Jvm.Cond.code ({ cls := "LittleMoreModel", name := "letsOf", desc := "(I)I" } : Jvm.MethodName) prog_14_method_37_code (3 : Nat) (Option.some Jvm.ClassFile.FieldType.int)) ∈ TBL := tb6 153 rfl rfl
theorem m6_154 : (Jvm.Cond.methodLink "LittleMoreModel" (233 : Nat) ({ cls := "LittleMoreModel", name := "saysNo", desc := "(I)Z" } : Jvm.MethodName)) ∈ TBL := tb6 154 rfl rfl
theorem m6_156 : (Jvm.Cond.instanceMethod ({ cls := "LittleMoreModel", name := "saysNo", desc := "(I)Z" } : Jvm.MethodName)) ∈ TBL := tb6 156 rfl rfl
theorem m6_157 : (Jvm.Cond.code ({ cls := "LittleMoreModel", name := "saysNo", desc := "(I)Z" } : Jvm.MethodName) prog_14_method_38_code (2 : Nat) (Option.some Jvm.ClassFile.FieldType.boolean)) ∈ TBL := tb6 157 rfl rfl
theorem m6_158 : (Jvm.Cond.methodLink "LittleMoreLaw" (26 : Nat) ({ cls := "LittleMoreModel", name := "set", desc := "(III)I" } : Jvm.MethodName)) ∈ TBL := tb6 158 rfl rfl
theorem m6_159 : (Jvm.Cond.instanceMethod ({ cls := "LittleMoreModel", name := "set", desc := "(III)I" } : Jvm.MethodName)) ∈ TBL := tb6 159 rfl rfl
theorem m6_160 : (Jvm.Cond.selects "LittleMoreModel" ({ cls := "LittleMoreModel", name := "set", desc := "(III)I" } : Jvm.MethodName) ({ cls := "LittleMoreModel", name := "set", desc := "(III)I" } : Jvm.MethodName)) ∈ TBL := tb6 160 rfl rfl
theorem m6_161 : (Jvm.Cond.code ({ cls := "LittleMoreModel", name := "set", desc := "(III)I" } : Jvm.MethodName) prog_14_method_47_code (6 : Nat) (Option.some Jvm.ClassFile.FieldType.int)) ∈ TBL := tb6 161 rfl rfl
theorem m6_162 : (Jvm.Cond.constantLong "LittleMoreModel" (288 : Nat) (3 : Int64)) ∈ TBL := tb6 162 rfl rfl
theorem m6_163 : (Jvm.Cond.methodLink "LittleMoreModel" (290 : Nat) ({ cls := "LittleMoreModel", name := "may", desc := "(II)Z" } : Jvm.MethodName)) ∈ TBL := tb6 163 rfl rfl
theorem m6_164 : (Jvm.Cond.static ({ cls := "LittleMoreModel", name := "may", desc := "(II)Z" } : Jvm.MethodName)) ∈ TBL := tb6 164 rfl rfl
theorem m6_165 : (Jvm.Cond.code ({ cls := "LittleMoreModel", name := "may", desc := "(II)Z" } : Jvm.MethodName) prog_14_method_46_code (2 : Nat) (Option.some Jvm.ClassFile.FieldType.boolean)) ∈ TBL := tb6 165 rfl rfl
theorem m6_166 : (Jvm.Cond.constantLong "LittleMoreModel" (286 : Nat) (20 : Int64)) ∈ TBL := tb6 166 rfl rfl
theorem m6_167 : (Jvm.Cond.methodLink "LittleMoreLaw" (30 : Nat) ({ cls := "LittleMoreModel", name := "row", desc := "(III)I" } : Jvm.MethodName)) ∈ TBL := tb6 167 rfl rfl
theorem m6_168 : (Jvm.Cond.instanceMethod ({ cls := "LittleMoreModel", name := "row", desc := "(III)I" } : Jvm.MethodName)) ∈ TBL := tb6 168 rfl rfl
theorem m6_169 : (Jvm.Cond.selects "LittleMoreModel" ({ cls := "LittleMoreModel", name := "row", desc := "(III)I" } : Jvm.MethodName) ({ cls := "LittleMoreModel", name := "row", desc := "(III)I" } : Jvm.MethodName)) ∈ TBL := tb6 169 rfl rfl
theorem m6_170 : (Jvm.Cond.code ({ cls := "LittleMoreModel", name := "row", desc := "(III)I" } : Jvm.MethodName) prog_14_method_48_code (5 : Nat) (Option.some Jvm.ClassFile.FieldType.int)) ∈ TBL := tb6 170 rfl rfl
theorem m6_171 : (Jvm.Cond.methodLink "LittleMoreLaw" (44 : Nat) ({ cls := "LittleMoreModel", name := "knife", desc := "(I)I" } : Jvm.MethodName)) ∈ TBL := tb6 171 rfl rfl
theorem m6_172 : (Jvm.Cond.instanceMethod ({ cls := "LittleMoreModel", name := "knife", desc := "(I)I" } : Jvm.MethodName)) ∈ TBL := tb6 172 rfl rfl
theorem m6_173 : (Jvm.Cond.selects "LittleMoreModel" ({ cls := "LittleMoreModel", name := "knife", desc := "(I)I" } : Jvm.MethodName) ({ cls := "LittleMoreModel", name := "knife", desc := "(I)I" } : Jvm.MethodName)) ∈ TBL := tb6 173 rfl rfl
theorem m6_174 : (Jvm.Cond.code ({ cls := "LittleMoreModel", name := "knife", desc := "(I)I" } : Jvm.MethodName) prog_14_method_49_code (3 : Nat) (Option.some Jvm.ClassFile.FieldType.int)) ∈ TBL := tb6 174 rfl rfl
theorem m6_175 : (Jvm.Cond.constantLong "LittleMoreModel" (293 : Nat) (30 : Int64)) ∈ TBL := tb6 175 rfl rfl
theorem m6_176 : (Jvm.Cond.methodLink "LittleMoreLaw" (48 : Nat) ({ cls := "LittleMoreModel", name := "told", desc := "(I)I" } : Jvm.MethodName)) ∈ TBL := tb6 176 rfl rfl
theorem m6_177 : (Jvm.Cond.instanceMethod ({ cls := "LittleMoreModel", name := "told", desc := "(I)I" } : Jvm.MethodName)) ∈ TBL := tb6 177 rfl rfl
theorem m6_178 : (Jvm.Cond.selects "LittleMoreModel" ({ cls := "LittleMoreModel", name := "told", desc := "(I)I" } : Jvm.MethodName) ({ cls := "LittleMoreModel", name := "told", desc := "(I)I" } : Jvm.MethodName)) ∈ TBL := tb6 178 rfl rfl
theorem m6_179 : (Jvm.Cond.code ({ cls := "LittleMoreModel", name := "told", desc := "(I)I" } : Jvm.MethodName) prog_14_method_50_code (2 : Nat) (Option.some Jvm.ClassFile.FieldType.int)) ∈ TBL := tb6 179 rfl rfl
theorem m6_180 : (Jvm.Cond.methodLink "LittleMoreModel" (248 : Nat) ({ cls := "LittleMoreModel", name := "lastOf", desc := "(II)I" } : Jvm.MethodName)) ∈ TBL := tb6 180 rfl rfl
theorem m6_182 : (Jvm.Cond.instanceMethod ({ cls := "LittleMoreModel", name := "lastOf", desc := "(II)I" } : Jvm.MethodName)) ∈ TBL := tb6 182 rfl rfl
theorem m6_183 : (Jvm.Cond.code ({ cls := "LittleMoreModel", name := "lastOf", desc := "(II)I" } : Jvm.MethodName) prog_14_method_33_code (5 : Nat) (Option.some Jvm.ClassFile.FieldType.int)) ∈ TBL := tb6 183 rfl rfl
theorem m6_184 : (Jvm.Cond.methodLink "LittleMoreModel" (295 : Nat) ({ cls := "LittleMoreModel", name := "goneBits", desc := "()I" } : Jvm.MethodName)) ∈ TBL := tb6 184 rfl rfl
theorem m6_186 : (Jvm.Cond.instanceMethod ({ cls := "LittleMoreModel", name := "goneBits", desc := "()I" } : Jvm.MethodName)) ∈ TBL := tb6 186 rfl rfl
theorem m6_187 : (Jvm.Cond.code ({ cls := "LittleMoreModel", name := "goneBits", desc := "()I" } : Jvm.MethodName) prog_14_method_43_code (3 : Nat) (Option.some Jvm.ClassFile.FieldType.int)) ∈ TBL := tb6 187 rfl rfl
theorem m6_188 : (Jvm.Cond.methodLink "LittleMoreLaw" (52 : Nat) ({ cls := "LittleMoreModel", name := "visit", desc := "(I)I" } : Jvm.MethodName)) ∈ TBL := tb6 188 rfl rfl
theorem m6_189 : (Jvm.Cond.instanceMethod ({ cls := "LittleMoreModel", name := "visit", desc := "(I)I" } : Jvm.MethodName)) ∈ TBL := tb6 189 rfl rfl
theorem m6_190 : (Jvm.Cond.selects "LittleMoreModel" ({ cls := "LittleMoreModel", name := "visit", desc := "(I)I" } : Jvm.MethodName) ({ cls := "LittleMoreModel", name := "visit", desc := "(I)I" } : Jvm.MethodName)) ∈ TBL := tb6 190 rfl rfl
theorem m6_191 : (Jvm.Cond.code ({ cls := "LittleMoreModel", name := "visit", desc := "(I)I" } : Jvm.MethodName) prog_14_method_51_code (2 : Nat) (Option.some Jvm.ClassFile.FieldType.int)) ∈ TBL := tb6 191 rfl rfl
theorem m6_192 : (Jvm.Cond.methodLink "LittleMoreModel" (255 : Nat) ({ cls := "LittleMoreModel", name := "isGone", desc := "(I)Z" } : Jvm.MethodName)) ∈ TBL := tb6 192 rfl rfl
theorem m6_194 : (Jvm.Cond.instanceMethod ({ cls := "LittleMoreModel", name := "isGone", desc := "(I)Z" } : Jvm.MethodName)) ∈ TBL := tb6 194 rfl rfl
theorem m6_195 : (Jvm.Cond.code ({ cls := "LittleMoreModel", name := "isGone", desc := "(I)Z" } : Jvm.MethodName) prog_14_method_40_code (2 : Nat) (Option.some Jvm.ClassFile.FieldType.boolean)) ∈ TBL := tb6 195 rfl rfl
theorem m6_196 : (Jvm.Cond.methodLink "LittleMoreModel" (258 : Nat) ({ cls := "LittleMoreModel", name := "visitOne", desc := "(I)V" } : Jvm.MethodName)) ∈ TBL := tb6 196 rfl rfl
theorem m6_198 : (Jvm.Cond.instanceMethod ({ cls := "LittleMoreModel", name := "visitOne", desc := "(I)V" } : Jvm.MethodName)) ∈ TBL := tb6 198 rfl rfl
theorem m6_199 : (Jvm.Cond.code ({ cls := "LittleMoreModel", name := "visitOne", desc := "(I)V" } : Jvm.MethodName) prog_14_method_39_code (6 : Nat) (Option.none : Option Jvm.ClassFile.FieldType)) ∈ TBL := tb6 199 rfl rfl
theorem m6_200 : (Jvm.Cond.methodLink "LittleMoreLaw" (56 : Nat) ({ cls := "LittleMoreModel", name := "saturday", desc := "()I" } : Jvm.MethodName)) ∈ TBL := tb6 200 rfl rfl
theorem m6_201 : (Jvm.Cond.instanceMethod ({ cls := "LittleMoreModel", name := "saturday", desc := "()I" } : Jvm.MethodName)) ∈ TBL := tb6 201 rfl rfl
theorem m6_202 : (Jvm.Cond.selects "LittleMoreModel" ({ cls := "LittleMoreModel", name := "saturday", desc := "()I" } : Jvm.MethodName) ({ cls := "LittleMoreModel", name := "saturday", desc := "()I" } : Jvm.MethodName)) ∈ TBL := tb6 202 rfl rfl
theorem m6_203 : (Jvm.Cond.code ({ cls := "LittleMoreModel", name := "saturday", desc := "()I" } : Jvm.MethodName) prog_14_method_52_code (1 : Nat) (Option.some Jvm.ClassFile.FieldType.int)) ∈ TBL := tb6 203 rfl rfl
theorem m6_204 : (Jvm.Cond.methodLink "LittleMoreModel" (298 : Nat) ({ cls := "LittleMoreModel", name := "saturdaysOn", desc := "(I)V" } : Jvm.MethodName)) ∈ TBL := tb6 204 rfl rfl
theorem m6_206 : (Jvm.Cond.instanceMethod ({ cls := "LittleMoreModel", name := "saturdaysOn", desc := "(I)V" } : Jvm.MethodName)) ∈ TBL := tb6 206 rfl rfl
theorem m6_207 : (Jvm.Cond.code ({ cls := "LittleMoreModel", name := "saturdaysOn", desc := "(I)V" } : Jvm.MethodName) prog_14_method_42_code (3 : Nat) (Option.none : Option Jvm.ClassFile.FieldType)) ∈ TBL := tb6 207 rfl rfl
theorem m6_208 : (Jvm.Cond.methodLink "LittleMoreModel" (270 : Nat) ({ cls := "LittleMoreModel", name := "saturdayOn", desc := "()V" } : Jvm.MethodName)) ∈ TBL := tb6 208 rfl rfl
theorem m6_210 : (Jvm.Cond.instanceMethod ({ cls := "LittleMoreModel", name := "saturdayOn", desc := "()V" } : Jvm.MethodName)) ∈ TBL := tb6 210 rfl rfl
theorem m6_211 : (Jvm.Cond.code ({ cls := "LittleMoreModel", name := "saturdayOn", desc := "()V" } : Jvm.MethodName) prog_14_method_41_code (2 : Nat) (Option.none : Option Jvm.ClassFile.FieldType)) ∈ TBL := tb6 211 rfl rfl
theorem m6_212 : (Jvm.Cond.methodLink "LittleMoreLaw" (60 : Nat) ({ cls := "LittleMoreModel", name := "on", desc := "(III)I" } : Jvm.MethodName)) ∈ TBL := tb6 212 rfl rfl
theorem m6_213 : (Jvm.Cond.instanceMethod ({ cls := "LittleMoreModel", name := "on", desc := "(III)I" } : Jvm.MethodName)) ∈ TBL := tb6 213 rfl rfl
theorem m6_214 : (Jvm.Cond.selects "LittleMoreModel" ({ cls := "LittleMoreModel", name := "on", desc := "(III)I" } : Jvm.MethodName) ({ cls := "LittleMoreModel", name := "on", desc := "(III)I" } : Jvm.MethodName)) ∈ TBL := tb6 214 rfl rfl
theorem m6_215 : (Jvm.Cond.code ({ cls := "LittleMoreModel", name := "on", desc := "(III)I" } : Jvm.MethodName) prog_14_method_54_code (7 : Nat) (Option.some Jvm.ClassFile.FieldType.int)) ∈ TBL := tb6 215 rfl rfl
theorem m6_216 : (Jvm.Cond.constantLong "LittleMoreModel" (301 : Nat) (4 : Int64)) ∈ TBL := tb6 216 rfl rfl
theorem m6_217 : (Jvm.Cond.constantLong "LittleMoreModel" (303 : Nat) (40 : Int64)) ∈ TBL := tb6 217 rfl rfl
theorem m6_218 : (Jvm.Cond.methodLink "LittleMoreModel" (305 : Nat) ({ cls := "LittleMoreModel", name := "open", desc := "()V" } : Jvm.MethodName)) ∈ TBL := tb6 218 rfl rfl
theorem m6_220 : (Jvm.Cond.instanceMethod ({ cls := "LittleMoreModel", name := "open", desc := "()V" } : Jvm.MethodName)) ∈ TBL := tb6 220 rfl rfl
theorem m6_221 : (Jvm.Cond.code ({ cls := "LittleMoreModel", name := "open", desc := "()V" } : Jvm.MethodName) prog_14_method_9_code (1 : Nat) (Option.none : Option Jvm.ClassFile.FieldType)) ∈ TBL := tb6 221 rfl rfl
theorem m6_222 : (Jvm.Cond.methodLink "LittleMoreModel" (308 : Nat) ({ cls := "LittleMoreModel", name := "buysIn", desc := "(II)I" } : Jvm.MethodName)) ∈ TBL := tb6 222 rfl rfl
theorem m6_224 : (Jvm.Cond.instanceMethod ({ cls := "LittleMoreModel", name := "buysIn", desc := "(II)I" } : Jvm.MethodName)) ∈ TBL := tb6 224 rfl rfl
theorem m6_225 : (Jvm.Cond.code ({ cls := "LittleMoreModel", name := "buysIn", desc := "(II)I" } : Jvm.MethodName) prog_14_method_53_code (5 : Nat) (Option.some Jvm.ClassFile.FieldType.int)) ∈ TBL := tb6 225 rfl rfl
theorem m6_226 : (Jvm.Cond.methodLink "LittleMoreModel" (311 : Nat) ({ cls := "LittleMoreModel", name := "close", desc := "()V" } : Jvm.MethodName)) ∈ TBL := tb6 226 rfl rfl
theorem m6_228 : (Jvm.Cond.instanceMethod ({ cls := "LittleMoreModel", name := "close", desc := "()V" } : Jvm.MethodName)) ∈ TBL := tb6 228 rfl rfl
theorem m6_229 : (Jvm.Cond.code ({ cls := "LittleMoreModel", name := "close", desc := "()V" } : Jvm.MethodName) prog_14_method_11_code (1 : Nat) (Option.none : Option Jvm.ClassFile.FieldType)) ∈ TBL := tb6 229 rfl rfl
theorem m6_230 : (Jvm.Cond.methodLink "LittleMoreLaw" (64 : Nat) ({ cls := "LittleMoreModel", name := "asked", desc := "(II)I" } : Jvm.MethodName)) ∈ TBL := tb6 230 rfl rfl
theorem m6_231 : (Jvm.Cond.instanceMethod ({ cls := "LittleMoreModel", name := "asked", desc := "(II)I" } : Jvm.MethodName)) ∈ TBL := tb6 231 rfl rfl
theorem m6_232 : (Jvm.Cond.selects "LittleMoreModel" ({ cls := "LittleMoreModel", name := "asked", desc := "(II)I" } : Jvm.MethodName) ({ cls := "LittleMoreModel", name := "asked", desc := "(II)I" } : Jvm.MethodName)) ∈ TBL := tb6 232 rfl rfl
theorem m6_233 : (Jvm.Cond.code ({ cls := "LittleMoreModel", name := "asked", desc := "(II)I" } : Jvm.MethodName) prog_14_method_56_code (6 : Nat) (Option.some Jvm.ClassFile.FieldType.int)) ∈ TBL := tb6 233 rfl rfl
theorem m6_234 : (Jvm.Cond.methodLink "LittleMoreModel" (314 : Nat) ({ cls := "LittleMoreModel", name := "plainly", desc := "(I)I" } : Jvm.MethodName)) ∈ TBL := tb6 234 rfl rfl
theorem m6_235 : (Jvm.Cond.static ({ cls := "LittleMoreModel", name := "plainly", desc := "(I)I" } : Jvm.MethodName)) ∈ TBL := tb6 235 rfl rfl
theorem m6_236 : (Jvm.Cond.code ({ cls := "LittleMoreModel", name := "plainly", desc := "(I)I" } : Jvm.MethodName) prog_14_method_55_code (1 : Nat) (Option.some Jvm.ClassFile.FieldType.int)) ∈ TBL := tb6 236 rfl rfl
theorem m6_237 : (Jvm.Cond.methodLink "LittleMoreLaw" (68 : Nat) ({ cls := "LittleMoreModel", name := "dare", desc := "(II)I" } : Jvm.MethodName)) ∈ TBL := tb6 237 rfl rfl
theorem m6_238 : (Jvm.Cond.instanceMethod ({ cls := "LittleMoreModel", name := "dare", desc := "(II)I" } : Jvm.MethodName)) ∈ TBL := tb6 238 rfl rfl
theorem m6_239 : (Jvm.Cond.selects "LittleMoreModel" ({ cls := "LittleMoreModel", name := "dare", desc := "(II)I" } : Jvm.MethodName) ({ cls := "LittleMoreModel", name := "dare", desc := "(II)I" } : Jvm.MethodName)) ∈ TBL := tb6 239 rfl rfl
theorem m7_0 : (Jvm.Cond.code ({ cls := "LittleMoreModel", name := "dare", desc := "(II)I" } : Jvm.MethodName) prog_14_method_57_code (7 : Nat) (Option.some Jvm.ClassFile.FieldType.int)) ∈ TBL := tb7 0 rfl rfl
theorem m7_1 : (Jvm.Cond.methodLink "LittleMoreModel" (317 : Nat) ({ cls := "LittleMoreModel", name := "again", desc := "()V" } : Jvm.MethodName)) ∈ TBL := tb7 1 rfl rfl
theorem m7_3 : (Jvm.Cond.instanceMethod ({ cls := "LittleMoreModel", name := "again", desc := "()V" } : Jvm.MethodName)) ∈ TBL := tb7 3 rfl rfl
theorem m7_4 : (Jvm.Cond.code ({ cls := "LittleMoreModel", name := "again", desc := "()V" } : Jvm.MethodName) prog_14_method_10_code (1 : Nat) (Option.none : Option Jvm.ClassFile.FieldType)) ∈ TBL := tb7 4 rfl rfl
theorem m7_5 : (Jvm.Cond.methodLink "LittleMoreLaw" (72 : Nat) ({ cls := "LittleMoreModel", name := "learnt", desc := "(II)I" } : Jvm.MethodName)) ∈ TBL := tb7 5 rfl rfl
theorem m7_6 : (Jvm.Cond.instanceMethod ({ cls := "LittleMoreModel", name := "learnt", desc := "(II)I" } : Jvm.MethodName)) ∈ TBL := tb7 6 rfl rfl
theorem m7_7 : (Jvm.Cond.selects "LittleMoreModel" ({ cls := "LittleMoreModel", name := "learnt", desc := "(II)I" } : Jvm.MethodName) ({ cls := "LittleMoreModel", name := "learnt", desc := "(II)I" } : Jvm.MethodName)) ∈ TBL := tb7 7 rfl rfl
theorem m7_8 : (Jvm.Cond.code ({ cls := "LittleMoreModel", name := "learnt", desc := "(II)I" } : Jvm.MethodName) prog_14_method_58_code (6 : Nat) (Option.some Jvm.ClassFile.FieldType.int)) ∈ TBL := tb7 8 rfl rfl
theorem m7_9 : (Jvm.Cond.methodLink "LittleMoreLaw" (76 : Nat) ({ cls := "LittleMoreModel", name := "nobody", desc := "()I" } : Jvm.MethodName)) ∈ TBL := tb7 9 rfl rfl
theorem m7_10 : (Jvm.Cond.instanceMethod ({ cls := "LittleMoreModel", name := "nobody", desc := "()I" } : Jvm.MethodName)) ∈ TBL := tb7 10 rfl rfl
theorem m7_11 : (Jvm.Cond.selects "LittleMoreModel" ({ cls := "LittleMoreModel", name := "nobody", desc := "()I" } : Jvm.MethodName) ({ cls := "LittleMoreModel", name := "nobody", desc := "()I" } : Jvm.MethodName)) ∈ TBL := tb7 11 rfl rfl
theorem m7_12 : (Jvm.Cond.code ({ cls := "LittleMoreModel", name := "nobody", desc := "()I" } : Jvm.MethodName) prog_14_method_60_code (3 : Nat) (Option.some Jvm.ClassFile.FieldType.int)) ∈ TBL := tb7 12 rfl rfl
theorem m7_13 : (Jvm.Cond.methodLink "LittleMoreModel" (320 : Nat) ({ cls := "LittleMoreModel", name := "nobodySaysNo", desc := "()Z" } : Jvm.MethodName)) ∈ TBL := tb7 13 rfl rfl
theorem m7_15 : (Jvm.Cond.instanceMethod ({ cls := "LittleMoreModel", name := "nobodySaysNo", desc := "()Z" } : Jvm.MethodName)) ∈ TBL := tb7 15 rfl rfl
theorem m7_16 : (Jvm.Cond.code ({ cls := "LittleMoreModel", name := "nobodySaysNo", desc := "()Z" } : Jvm.MethodName) prog_14_method_59_code (3 : Nat) (Option.some Jvm.ClassFile.FieldType.boolean)) ∈ TBL := tb7 16 rfl rfl
theorem m7_17 : (Jvm.Cond.methodLink "LittleMoreLaw" (80 : Nat) ({ cls := "LittleMoreModel", name := "lost", desc := "(I)I" } : Jvm.MethodName)) ∈ TBL := tb7 17 rfl rfl
theorem m7_18 : (Jvm.Cond.instanceMethod ({ cls := "LittleMoreModel", name := "lost", desc := "(I)I" } : Jvm.MethodName)) ∈ TBL := tb7 18 rfl rfl
theorem m7_19 : (Jvm.Cond.selects "LittleMoreModel" ({ cls := "LittleMoreModel", name := "lost", desc := "(I)I" } : Jvm.MethodName) ({ cls := "LittleMoreModel", name := "lost", desc := "(I)I" } : Jvm.MethodName)) ∈ TBL := tb7 19 rfl rfl
theorem m7_20 : (Jvm.Cond.code ({ cls := "LittleMoreModel", name := "lost", desc := "(I)I" } : Jvm.MethodName) prog_14_method_61_code (3 : Nat) (Option.some Jvm.ClassFile.FieldType.int)) ∈ TBL := tb7 20 rfl rfl
theorem m7_21 : (Jvm.Cond.methodLink "LittleMoreLaw" (84 : Nat) ({ cls := "LittleMoreModel", name := "over", desc := "(III)I" } : Jvm.MethodName)) ∈ TBL := tb7 21 rfl rfl
theorem m7_22 : (Jvm.Cond.instanceMethod ({ cls := "LittleMoreModel", name := "over", desc := "(III)I" } : Jvm.MethodName)) ∈ TBL := tb7 22 rfl rfl
theorem m7_23 : (Jvm.Cond.selects "LittleMoreModel" ({ cls := "LittleMoreModel", name := "over", desc := "(III)I" } : Jvm.MethodName) ({ cls := "LittleMoreModel", name := "over", desc := "(III)I" } : Jvm.MethodName)) ∈ TBL := tb7 23 rfl rfl
theorem m7_24 : (Jvm.Cond.code ({ cls := "LittleMoreModel", name := "over", desc := "(III)I" } : Jvm.MethodName) prog_14_method_62_code (5 : Nat) (Option.some Jvm.ClassFile.FieldType.int)) ∈ TBL := tb7 24 rfl rfl
theorem m7_25 : (Jvm.Cond.constant "LittleMoreModel" (324 : Nat) (-1000001 : Int32)) ∈ TBL := tb7 25 rfl rfl
theorem m7_26 : (Jvm.Cond.constant "LittleMoreModel" (325 : Nat) (-1000002 : Int32)) ∈ TBL := tb7 26 rfl rfl
theorem m7_27 : (Jvm.Cond.methodLink "LittleMoreLaw" (88 : Nat) ({ cls := "LittleMoreModel", name := "nearest", desc := "(I)I" } : Jvm.MethodName)) ∈ TBL := tb7 27 rfl rfl
theorem m7_28 : (Jvm.Cond.instanceMethod ({ cls := "LittleMoreModel", name := "nearest", desc := "(I)I" } : Jvm.MethodName)) ∈ TBL := tb7 28 rfl rfl
theorem m7_29 : (Jvm.Cond.selects "LittleMoreModel" ({ cls := "LittleMoreModel", name := "nearest", desc := "(I)I" } : Jvm.MethodName) ({ cls := "LittleMoreModel", name := "nearest", desc := "(I)I" } : Jvm.MethodName)) ∈ TBL := tb7 29 rfl rfl
theorem m7_30 : (Jvm.Cond.code ({ cls := "LittleMoreModel", name := "nearest", desc := "(I)I" } : Jvm.MethodName) prog_14_method_63_code (7 : Nat) (Option.some Jvm.ClassFile.FieldType.int)) ∈ TBL := tb7 30 rfl rfl
theorem m7_31 : (Jvm.Cond.methodLink "LittleMoreLaw" (92 : Nat) ({ cls := "LittleMoreModel", name := "see", desc := "(I)I" } : Jvm.MethodName)) ∈ TBL := tb7 31 rfl rfl
theorem m7_32 : (Jvm.Cond.instanceMethod ({ cls := "LittleMoreModel", name := "see", desc := "(I)I" } : Jvm.MethodName)) ∈ TBL := tb7 32 rfl rfl
theorem m7_33 : (Jvm.Cond.selects "LittleMoreModel" ({ cls := "LittleMoreModel", name := "see", desc := "(I)I" } : Jvm.MethodName) ({ cls := "LittleMoreModel", name := "see", desc := "(I)I" } : Jvm.MethodName)) ∈ TBL := tb7 33 rfl rfl
theorem m7_34 : (Jvm.Cond.code ({ cls := "LittleMoreModel", name := "see", desc := "(I)I" } : Jvm.MethodName) prog_14_method_64_code (2 : Nat) (Option.some Jvm.ClassFile.FieldType.int)) ∈ TBL := tb7 34 rfl rfl
theorem m7_35 : (Jvm.Cond.constantLong "LittleMoreModel" (326 : Nat) (999 : Int64)) ∈ TBL := tb7 35 rfl rfl
theorem m7_36 : (Jvm.Cond.methodLink "LittleMoreLaw" (96 : Nat) ({ cls := "LittleMoreModel", name := "who", desc := "()I" } : Jvm.MethodName)) ∈ TBL := tb7 36 rfl rfl
theorem m7_37 : (Jvm.Cond.instanceMethod ({ cls := "LittleMoreModel", name := "who", desc := "()I" } : Jvm.MethodName)) ∈ TBL := tb7 37 rfl rfl
theorem m7_38 : (Jvm.Cond.selects "LittleMoreModel" ({ cls := "LittleMoreModel", name := "who", desc := "()I" } : Jvm.MethodName) ({ cls := "LittleMoreModel", name := "who", desc := "()I" } : Jvm.MethodName)) ∈ TBL := tb7 38 rfl rfl
theorem m7_39 : (Jvm.Cond.code ({ cls := "LittleMoreModel", name := "who", desc := "()I" } : Jvm.MethodName) prog_14_method_66_code (3 : Nat) (Option.some Jvm.ClassFile.FieldType.int)) ∈ TBL := tb7 39 rfl rfl
theorem m7_40 : (Jvm.Cond.methodLink "LittleMoreModel" (328 : Nat) ({ cls := "LittleMoreModel", name := "areSeen", desc := "(I)Z" } : Jvm.MethodName)) ∈ TBL := tb7 40 rfl rfl
theorem m7_42 : (Jvm.Cond.instanceMethod ({ cls := "LittleMoreModel", name := "areSeen", desc := "(I)Z" } : Jvm.MethodName)) ∈ TBL := tb7 42 rfl rfl
theorem m7_43 : (Jvm.Cond.code ({ cls := "LittleMoreModel", name := "areSeen", desc := "(I)Z" } : Jvm.MethodName) prog_14_method_65_code (4 : Nat) (Option.some Jvm.ClassFile.FieldType.boolean)) ∈ TBL := tb7 43 rfl rfl
theorem m7_44 : (Jvm.Cond.methodLink "LittleMoreLaw" (100 : Nat) ({ cls := "LittleMoreModel", name := "offs", desc := "(II)I" } : Jvm.MethodName)) ∈ TBL := tb7 44 rfl rfl
theorem m7_45 : (Jvm.Cond.instanceMethod ({ cls := "LittleMoreModel", name := "offs", desc := "(II)I" } : Jvm.MethodName)) ∈ TBL := tb7 45 rfl rfl
theorem m7_46 : (Jvm.Cond.selects "LittleMoreModel" ({ cls := "LittleMoreModel", name := "offs", desc := "(II)I" } : Jvm.MethodName) ({ cls := "LittleMoreModel", name := "offs", desc := "(II)I" } : Jvm.MethodName)) ∈ TBL := tb7 46 rfl rfl
theorem m7_47 : (Jvm.Cond.code ({ cls := "LittleMoreModel", name := "offs", desc := "(II)I" } : Jvm.MethodName) prog_14_method_67_code (6 : Nat) (Option.some Jvm.ClassFile.FieldType.int)) ∈ TBL := tb7 47 rfl rfl
theorem m7_48 : (Jvm.Cond.methodLink "LittleMoreLaw" (105 : Nat) ({ cls := "LittleMoreModel", name := "odds", desc := "(II)J" } : Jvm.MethodName)) ∈ TBL := tb7 48 rfl rfl
theorem m7_49 : (Jvm.Cond.instanceMethod ({ cls := "LittleMoreModel", name := "odds", desc := "(II)J" } : Jvm.MethodName)) ∈ TBL := tb7 49 rfl rfl
theorem m7_50 : (Jvm.Cond.selects "LittleMoreModel" ({ cls := "LittleMoreModel", name := "odds", desc := "(II)J" } : Jvm.MethodName) ({ cls := "LittleMoreModel", name := "odds", desc := "(II)J" } : Jvm.MethodName)) ∈ TBL := tb7 50 rfl rfl
theorem m7_51 : (Jvm.Cond.code ({ cls := "LittleMoreModel", name := "odds", desc := "(II)J" } : Jvm.MethodName) prog_14_method_70_code (6 : Nat) (Option.some Jvm.ClassFile.FieldType.long)) ∈ TBL := tb7 51 rfl rfl
theorem m7_52 : (Jvm.Cond.constantLong "LittleMoreModel" (334 : Nat) (-9223372036854775808 : Int64)) ∈ TBL := tb7 52 rfl rfl
theorem m7_53 : (Jvm.Cond.methodLink "LittleMoreModel" (336 : Nat) ({ cls := "LittleMoreModel", name := "partOf", desc := "(III)J" } : Jvm.MethodName)) ∈ TBL := tb7 53 rfl rfl
theorem m7_54 : (Jvm.Cond.static ({ cls := "LittleMoreModel", name := "partOf", desc := "(III)J" } : Jvm.MethodName)) ∈ TBL := tb7 54 rfl rfl
theorem m7_55 : (Jvm.Cond.code ({ cls := "LittleMoreModel", name := "partOf", desc := "(III)J" } : Jvm.MethodName) prog_14_method_69_code (4 : Nat) (Option.some Jvm.ClassFile.FieldType.long)) ∈ TBL := tb7 55 rfl rfl
theorem m7_56 : (Jvm.Cond.methodLink "LittleMoreModel" (331 : Nat) ({ cls := "LittleMoreModel", name := "divisor", desc := "(II)I" } : Jvm.MethodName)) ∈ TBL := tb7 56 rfl rfl
theorem m7_57 : (Jvm.Cond.static ({ cls := "LittleMoreModel", name := "divisor", desc := "(II)I" } : Jvm.MethodName)) ∈ TBL := tb7 57 rfl rfl
theorem m7_58 : (Jvm.Cond.code ({ cls := "LittleMoreModel", name := "divisor", desc := "(II)I" } : Jvm.MethodName) prog_14_method_68_code (5 : Nat) (Option.some Jvm.ClassFile.FieldType.int)) ∈ TBL := tb7 58 rfl rfl
theorem m7_59 : (Jvm.Cond.methodLink "LittleMoreLaw" (109 : Nat) ({ cls := "LittleMoreModel", name := "mean", desc := "(II)J" } : Jvm.MethodName)) ∈ TBL := tb7 59 rfl rfl
theorem m7_60 : (Jvm.Cond.instanceMethod ({ cls := "LittleMoreModel", name := "mean", desc := "(II)J" } : Jvm.MethodName)) ∈ TBL := tb7 60 rfl rfl
theorem m7_61 : (Jvm.Cond.selects "LittleMoreModel" ({ cls := "LittleMoreModel", name := "mean", desc := "(II)J" } : Jvm.MethodName) ({ cls := "LittleMoreModel", name := "mean", desc := "(II)J" } : Jvm.MethodName)) ∈ TBL := tb7 61 rfl rfl
theorem m7_62 : (Jvm.Cond.code ({ cls := "LittleMoreModel", name := "mean", desc := "(II)J" } : Jvm.MethodName) prog_14_method_71_code (3 : Nat) (Option.some Jvm.ClassFile.FieldType.long)) ∈ TBL := tb7 62 rfl rfl
theorem m7_63 : (Jvm.Cond.methodLink "LittleMoreLaw" (113 : Nat) ({ cls := "LittleMoreModel", name := "book", desc := "(I)I" } : Jvm.MethodName)) ∈ TBL := tb7 63 rfl rfl
theorem m7_64 : (Jvm.Cond.instanceMethod ({ cls := "LittleMoreModel", name := "book", desc := "(I)I" } : Jvm.MethodName)) ∈ TBL := tb7 64 rfl rfl
theorem m7_65 : (Jvm.Cond.selects "LittleMoreModel" ({ cls := "LittleMoreModel", name := "book", desc := "(I)I" } : Jvm.MethodName) ({ cls := "LittleMoreModel", name := "book", desc := "(I)I" } : Jvm.MethodName)) ∈ TBL := tb7 65 rfl rfl
theorem m7_66 : (Jvm.Cond.code ({ cls := "LittleMoreModel", name := "book", desc := "(I)I" } : Jvm.MethodName) prog_14_method_72_code (2 : Nat) (Option.some Jvm.ClassFile.FieldType.int)) ∈ TBL := tb7 66 rfl rfl
theorem m7_67 : (Jvm.Cond.methodLink "LittleMoreLaw" (117 : Nat) ({ cls := "LittleMoreModel", name := "looked", desc := "()I" } : Jvm.MethodName)) ∈ TBL := tb7 67 rfl rfl
theorem m7_68 : (Jvm.Cond.instanceMethod ({ cls := "LittleMoreModel", name := "looked", desc := "()I" } : Jvm.MethodName)) ∈ TBL := tb7 68 rfl rfl
theorem m7_69 : (Jvm.Cond.selects "LittleMoreModel" ({ cls := "LittleMoreModel", name := "looked", desc := "()I" } : Jvm.MethodName) ({ cls := "LittleMoreModel", name := "looked", desc := "()I" } : Jvm.MethodName)) ∈ TBL := tb7 69 rfl rfl
theorem m7_70 : (Jvm.Cond.code ({ cls := "LittleMoreModel", name := "looked", desc := "()I" } : Jvm.MethodName) prog_14_method_73_code (4 : Nat) (Option.some Jvm.ClassFile.FieldType.int)) ∈ TBL := tb7 70 rfl rfl
theorem m7_71 : (Jvm.Cond.methodLink "LittleMoreLaw" (133 : Nat) ({ cls := "LittleMoreModel", name := "act", desc := "(III)I" } : Jvm.MethodName)) ∈ TBL := tb7 71 rfl rfl
theorem m7_72 : (Jvm.Cond.instanceMethod ({ cls := "LittleMoreModel", name := "act", desc := "(III)I" } : Jvm.MethodName)) ∈ TBL := tb7 72 rfl rfl
theorem m7_73 : (Jvm.Cond.selects "LittleMoreModel" ({ cls := "LittleMoreModel", name := "act", desc := "(III)I" } : Jvm.MethodName) ({ cls := "LittleMoreModel", name := "act", desc := "(III)I" } : Jvm.MethodName)) ∈ TBL := tb7 73 rfl rfl
theorem m7_74 : (Jvm.Cond.code ({ cls := "LittleMoreModel", name := "act", desc := "(III)I" } : Jvm.MethodName) prog_14_method_89_code (4 : Nat) (Option.some Jvm.ClassFile.FieldType.int)) ∈ TBL := tb7 74 rfl rfl
theorem m7_75 : (Jvm.Cond.constantLong "LittleMoreModel" (394 : Nat) (2 : Int64)) ∈ TBL := tb7 75 rfl rfl
theorem m7_76 : (Jvm.Cond.methodLink "LittleMoreModel" (367 : Nat) ({ cls := "LittleMoreModel", name := "asksBy", desc := "(I)I" } : Jvm.MethodName)) ∈ TBL := tb7 76 rfl rfl
theorem m7_78 : (Jvm.Cond.instanceMethod ({ cls := "LittleMoreModel", name := "asksBy", desc := "(I)I" } : Jvm.MethodName)) ∈ TBL := tb7 78 rfl rfl
theorem m7_79 : (Jvm.Cond.code ({ cls := "LittleMoreModel", name := "asksBy", desc := "(I)I" } : Jvm.MethodName) prog_14_method_79_code (2 : Nat) (Option.some Jvm.ClassFile.FieldType.int)) ∈ TBL := tb7 79 rfl rfl
theorem m7_80 : (Jvm.Cond.methodLink "LittleMoreModel" (358 : Nat) ({ cls := "LittleMoreModel", name := "asksGentle", desc := "(I)I" } : Jvm.MethodName)) ∈ TBL := tb7 80 rfl rfl
theorem m7_82 : (Jvm.Cond.instanceMethod ({ cls := "LittleMoreModel", name := "asksGentle", desc := "(I)I" } : Jvm.MethodName)) ∈ TBL := tb7 82 rfl rfl
theorem m7_83 : (Jvm.Cond.code ({ cls := "LittleMoreModel", name := "asksGentle", desc := "(I)I" } : Jvm.MethodName) prog_14_method_76_code (2 : Nat) (Option.some Jvm.ClassFile.FieldType.int)) ∈ TBL := tb7 83 rfl rfl
theorem m7_84 : (Jvm.Cond.methodLink "LittleMoreModel" (343 : Nat) ({ cls := "LittleMoreModel", name := "note", desc := "(I)V" } : Jvm.MethodName)) ∈ TBL := tb7 84 rfl rfl
theorem m7_86 : (Jvm.Cond.instanceMethod ({ cls := "LittleMoreModel", name := "note", desc := "(I)V" } : Jvm.MethodName)) ∈ TBL := tb7 86 rfl rfl
theorem m7_87 : (Jvm.Cond.code ({ cls := "LittleMoreModel", name := "note", desc := "(I)V" } : Jvm.MethodName) prog_14_method_74_code (2 : Nat) (Option.none : Option Jvm.ClassFile.FieldType)) ∈ TBL := tb7 87 rfl rfl
theorem m7_88 : (Jvm.Cond.methodLink "LittleMoreModel" (349 : Nat) ({ cls := "LittleMoreModel", name := "asksPlain", desc := "(I)I" } : Jvm.MethodName)) ∈ TBL := tb7 88 rfl rfl
theorem m7_90 : (Jvm.Cond.instanceMethod ({ cls := "LittleMoreModel", name := "asksPlain", desc := "(I)I" } : Jvm.MethodName)) ∈ TBL := tb7 90 rfl rfl
theorem m7_91 : (Jvm.Cond.code ({ cls := "LittleMoreModel", name := "asksPlain", desc := "(I)I" } : Jvm.MethodName) prog_14_method_75_code (2 : Nat) (Option.some Jvm.ClassFile.FieldType.int)) ∈ TBL := tb7 91 rfl rfl
theorem m7_92 : (Jvm.Cond.methodLink "LittleMoreModel" (361 : Nat) ({ cls := "LittleMoreModel", name := "asksCounting", desc := "(I)I" } : Jvm.MethodName)) ∈ TBL := tb7 92 rfl rfl
theorem m7_94 : (Jvm.Cond.instanceMethod ({ cls := "LittleMoreModel", name := "asksCounting", desc := "(I)I" } : Jvm.MethodName)) ∈ TBL := tb7 94 rfl rfl
theorem m7_95 : (Jvm.Cond.code ({ cls := "LittleMoreModel", name := "asksCounting", desc := "(I)I" } : Jvm.MethodName) prog_14_method_77_code (2 : Nat) (Option.some Jvm.ClassFile.FieldType.int)) ∈ TBL := tb7 95 rfl rfl
theorem m7_96 : (Jvm.Cond.methodLink "LittleMoreModel" (364 : Nat) ({ cls := "LittleMoreModel", name := "asksTold", desc := "(I)I" } : Jvm.MethodName)) ∈ TBL := tb7 96 rfl rfl
theorem m7_98 : (Jvm.Cond.instanceMethod ({ cls := "LittleMoreModel", name := "asksTold", desc := "(I)I" } : Jvm.MethodName)) ∈ TBL := tb7 98 rfl rfl
theorem m7_99 : (Jvm.Cond.code ({ cls := "LittleMoreModel", name := "asksTold", desc := "(I)I" } : Jvm.MethodName) prog_14_method_78_code (2 : Nat) (Option.some Jvm.ClassFile.FieldType.int)) ∈ TBL := tb7 99 rfl rfl
theorem m7_100 : (Jvm.Cond.methodLink "LittleMoreModel" (382 : Nat) ({ cls := "LittleMoreModel", name := "buysBy", desc := "(I)I" } : Jvm.MethodName)) ∈ TBL := tb7 100 rfl rfl
theorem m7_102 : (Jvm.Cond.instanceMethod ({ cls := "LittleMoreModel", name := "buysBy", desc := "(I)I" } : Jvm.MethodName)) ∈ TBL := tb7 102 rfl rfl
theorem m7_103 : (Jvm.Cond.code ({ cls := "LittleMoreModel", name := "buysBy", desc := "(I)I" } : Jvm.MethodName) prog_14_method_84_code (2 : Nat) (Option.some Jvm.ClassFile.FieldType.int)) ∈ TBL := tb7 103 rfl rfl
theorem m7_104 : (Jvm.Cond.methodLink "LittleMoreModel" (373 : Nat) ({ cls := "LittleMoreModel", name := "buysStrict", desc := "(I)I" } : Jvm.MethodName)) ∈ TBL := tb7 104 rfl rfl
theorem m7_106 : (Jvm.Cond.instanceMethod ({ cls := "LittleMoreModel", name := "buysStrict", desc := "(I)I" } : Jvm.MethodName)) ∈ TBL := tb7 106 rfl rfl
theorem m7_107 : (Jvm.Cond.code ({ cls := "LittleMoreModel", name := "buysStrict", desc := "(I)I" } : Jvm.MethodName) prog_14_method_81_code (2 : Nat) (Option.some Jvm.ClassFile.FieldType.int)) ∈ TBL := tb7 107 rfl rfl
theorem m7_108 : (Jvm.Cond.methodLink "LittleMoreModel" (370 : Nat) ({ cls := "LittleMoreModel", name := "buysPlain", desc := "(I)I" } : Jvm.MethodName)) ∈ TBL := tb7 108 rfl rfl
theorem m7_110 : (Jvm.Cond.instanceMethod ({ cls := "LittleMoreModel", name := "buysPlain", desc := "(I)I" } : Jvm.MethodName)) ∈ TBL := tb7 110 rfl rfl
theorem m7_111 : (Jvm.Cond.code ({ cls := "LittleMoreModel", name := "buysPlain", desc := "(I)I" } : Jvm.MethodName) prog_14_method_80_code (2 : Nat) (Option.some Jvm.ClassFile.FieldType.int)) ∈ TBL := tb7 111 rfl rfl
theorem m7_112 : (Jvm.Cond.methodLink "LittleMoreModel" (376 : Nat) ({ cls := "LittleMoreModel", name := "buysCounting", desc := "(I)I" } : Jvm.MethodName)) ∈ TBL := tb7 112 rfl rfl
theorem m7_114 : (Jvm.Cond.instanceMethod ({ cls := "LittleMoreModel", name := "buysCounting", desc := "(I)I" } : Jvm.MethodName)) ∈ TBL := tb7 114 rfl rfl
theorem m7_115 : (Jvm.Cond.code ({ cls := "LittleMoreModel", name := "buysCounting", desc := "(I)I" } : Jvm.MethodName) prog_14_method_82_code (2 : Nat) (Option.some Jvm.ClassFile.FieldType.int)) ∈ TBL := tb7 115 rfl rfl
theorem m7_116 : (Jvm.Cond.methodLink "LittleMoreModel" (379 : Nat) ({ cls := "LittleMoreModel", name := "buysTold", desc := "(I)I" } : Jvm.MethodName)) ∈ TBL := tb7 116 rfl rfl
theorem m7_118 : (Jvm.Cond.instanceMethod ({ cls := "LittleMoreModel", name := "buysTold", desc := "(I)I" } : Jvm.MethodName)) ∈ TBL := tb7 118 rfl rfl
theorem m7_119 : (Jvm.Cond.code ({ cls := "LittleMoreModel", name := "buysTold", desc := "(I)I" } : Jvm.MethodName) prog_14_method_83_code (3 : Nat) (Option.some Jvm.ClassFile.FieldType.int)) ∈ TBL := tb7 119 rfl rfl
theorem m7_120 : (Jvm.Cond.methodLink "LittleMoreModel" (396 : Nat) ({ cls := "LittleMoreModel", name := "tellsBy", desc := "(I)I" } : Jvm.MethodName)) ∈ TBL := tb7 120 rfl rfl
theorem m7_122 : (Jvm.Cond.instanceMethod ({ cls := "LittleMoreModel", name := "tellsBy", desc := "(I)I" } : Jvm.MethodName)) ∈ TBL := tb7 122 rfl rfl
theorem m7_123 : (Jvm.Cond.code ({ cls := "LittleMoreModel", name := "tellsBy", desc := "(I)I" } : Jvm.MethodName) prog_14_method_88_code (2 : Nat) (Option.some Jvm.ClassFile.FieldType.int)) ∈ TBL := tb7 123 rfl rfl
theorem m7_124 : (Jvm.Cond.methodLink "LittleMoreModel" (388 : Nat) ({ cls := "LittleMoreModel", name := "tellsChild", desc := "(I)I" } : Jvm.MethodName)) ∈ TBL := tb7 124 rfl rfl
theorem m7_126 : (Jvm.Cond.instanceMethod ({ cls := "LittleMoreModel", name := "tellsChild", desc := "(I)I" } : Jvm.MethodName)) ∈ TBL := tb7 126 rfl rfl
theorem m7_127 : (Jvm.Cond.code ({ cls := "LittleMoreModel", name := "tellsChild", desc := "(I)I" } : Jvm.MethodName) prog_14_method_86_code (3 : Nat) (Option.some Jvm.ClassFile.FieldType.int)) ∈ TBL := tb7 127 rfl rfl
theorem m7_128 : (Jvm.Cond.methodLink "LittleMoreModel" (385 : Nat) ({ cls := "LittleMoreModel", name := "tellsPlain", desc := "(I)I" } : Jvm.MethodName)) ∈ TBL := tb7 128 rfl rfl
theorem m7_130 : (Jvm.Cond.instanceMethod ({ cls := "LittleMoreModel", name := "tellsPlain", desc := "(I)I" } : Jvm.MethodName)) ∈ TBL := tb7 130 rfl rfl
theorem m7_131 : (Jvm.Cond.code ({ cls := "LittleMoreModel", name := "tellsPlain", desc := "(I)I" } : Jvm.MethodName) prog_14_method_85_code (2 : Nat) (Option.some Jvm.ClassFile.FieldType.int)) ∈ TBL := tb7 131 rfl rfl
theorem m7_132 : (Jvm.Cond.methodLink "LittleMoreModel" (391 : Nat) ({ cls := "LittleMoreModel", name := "tellsLeaving", desc := "(I)I" } : Jvm.MethodName)) ∈ TBL := tb7 132 rfl rfl
theorem m7_134 : (Jvm.Cond.instanceMethod ({ cls := "LittleMoreModel", name := "tellsLeaving", desc := "(I)I" } : Jvm.MethodName)) ∈ TBL := tb7 134 rfl rfl
theorem m7_135 : (Jvm.Cond.code ({ cls := "LittleMoreModel", name := "tellsLeaving", desc := "(I)I" } : Jvm.MethodName) prog_14_method_87_code (2 : Nat) (Option.some Jvm.ClassFile.FieldType.int)) ∈ TBL := tb7 135 rfl rfl
theorem m7_136 : (Jvm.Cond.methodLink "LittleMoreLaw" (137 : Nat) ({ cls := "LittleMoreModel", name := "trace", desc := "(I)I" } : Jvm.MethodName)) ∈ TBL := tb7 136 rfl rfl
theorem m7_137 : (Jvm.Cond.instanceMethod ({ cls := "LittleMoreModel", name := "trace", desc := "(I)I" } : Jvm.MethodName)) ∈ TBL := tb7 137 rfl rfl
theorem m7_138 : (Jvm.Cond.selects "LittleMoreModel" ({ cls := "LittleMoreModel", name := "trace", desc := "(I)I" } : Jvm.MethodName) ({ cls := "LittleMoreModel", name := "trace", desc := "(I)I" } : Jvm.MethodName)) ∈ TBL := tb7 138 rfl rfl
theorem m7_139 : (Jvm.Cond.code ({ cls := "LittleMoreModel", name := "trace", desc := "(I)I" } : Jvm.MethodName) prog_14_method_90_code (3 : Nat) (Option.some Jvm.ClassFile.FieldType.int)) ∈ TBL := tb7 139 rfl rfl
theorem m7_140 : (Jvm.Cond.methodLink "LittleMoreLaw" (141 : Nat) ({ cls := "LittleMoreModel", name := "taken", desc := "(II)I" } : Jvm.MethodName)) ∈ TBL := tb7 140 rfl rfl
theorem m7_141 : (Jvm.Cond.instanceMethod ({ cls := "LittleMoreModel", name := "taken", desc := "(II)I" } : Jvm.MethodName)) ∈ TBL := tb7 141 rfl rfl
theorem m7_142 : (Jvm.Cond.selects "LittleMoreModel" ({ cls := "LittleMoreModel", name := "taken", desc := "(II)I" } : Jvm.MethodName) ({ cls := "LittleMoreModel", name := "taken", desc := "(II)I" } : Jvm.MethodName)) ∈ TBL := tb7 142 rfl rfl
theorem m7_143 : (Jvm.Cond.code ({ cls := "LittleMoreModel", name := "taken", desc := "(II)I" } : Jvm.MethodName) prog_14_method_92_code (5 : Nat) (Option.some Jvm.ClassFile.FieldType.int)) ∈ TBL := tb7 143 rfl rfl
theorem m7_144 : (Jvm.Cond.methodLink "LittleMoreModel" (399 : Nat) ({ cls := "LittleMoreModel", name := "above", desc := "(I)I" } : Jvm.MethodName)) ∈ TBL := tb7 144 rfl rfl
theorem m7_145 : (Jvm.Cond.static ({ cls := "LittleMoreModel", name := "above", desc := "(I)I" } : Jvm.MethodName)) ∈ TBL := tb7 145 rfl rfl
theorem m7_146 : (Jvm.Cond.code ({ cls := "LittleMoreModel", name := "above", desc := "(I)I" } : Jvm.MethodName) prog_14_method_91_code (1 : Nat) (Option.some Jvm.ClassFile.FieldType.int)) ∈ TBL := tb7 146 rfl rfl
theorem m7_147 : (Jvm.Cond.methodLink "LittleMoreLaw" (145 : Nat) ({ cls := "LittleMoreModel", name := "count", desc := "(I)I" } : Jvm.MethodName)) ∈ TBL := tb7 147 rfl rfl
theorem m7_148 : (Jvm.Cond.instanceMethod ({ cls := "LittleMoreModel", name := "count", desc := "(I)I" } : Jvm.MethodName)) ∈ TBL := tb7 148 rfl rfl
theorem m7_149 : (Jvm.Cond.selects "LittleMoreModel" ({ cls := "LittleMoreModel", name := "count", desc := "(I)I" } : Jvm.MethodName) ({ cls := "LittleMoreModel", name := "count", desc := "(I)I" } : Jvm.MethodName)) ∈ TBL := tb7 149 rfl rfl
theorem m7_150 : (Jvm.Cond.code ({ cls := "LittleMoreModel", name := "count", desc := "(I)I" } : Jvm.MethodName) prog_14_method_93_code (2 : Nat) (Option.some Jvm.ClassFile.FieldType.int)) ∈ TBL := tb7 150 rfl rfl
theorem m7_151 : (Jvm.Cond.methodLink "LittleMoreLaw" (149 : Nat) ({ cls := "LittleMoreModel", name := "tape", desc := "(III)I" } : Jvm.MethodName)) ∈ TBL := tb7 151 rfl rfl
theorem m7_152 : (Jvm.Cond.instanceMethod ({ cls := "LittleMoreModel", name := "tape", desc := "(III)I" } : Jvm.MethodName)) ∈ TBL := tb7 152 rfl rfl
theorem m7_153 : (Jvm.Cond.selects "LittleMoreModel" ({ cls := "LittleMoreModel", name := "tape", desc := "(III)I" } : Jvm.MethodName) ({ cls := "LittleMoreModel", name := "tape", desc := "(III)I" } : Jvm.MethodName)) ∈ TBL := tb7 153 rfl rfl
theorem m7_154 : (Jvm.Cond.code ({ cls := "LittleMoreModel", name := "tape", desc := "(III)I" } : Jvm.MethodName) prog_14_method_95_code (5 : Nat) (Option.some Jvm.ClassFile.FieldType.int)) ∈ TBL := tb7 154 rfl rfl
theorem m7_155 : (Jvm.Cond.methodLink "LittleMoreModel" (404 : Nat) ({ cls := "LittleMoreModel", name := "isTape", desc := "(I)Z" } : Jvm.MethodName)) ∈ TBL := tb7 155 rfl rfl
theorem m7_157 : (Jvm.Cond.instanceMethod ({ cls := "LittleMoreModel", name := "isTape", desc := "(I)Z" } : Jvm.MethodName)) ∈ TBL := tb7 157 rfl rfl
theorem m7_158 : (Jvm.Cond.code ({ cls := "LittleMoreModel", name := "isTape", desc := "(I)Z" } : Jvm.MethodName) prog_14_method_94_code (2 : Nat) (Option.some Jvm.ClassFile.FieldType.boolean)) ∈ TBL := tb7 158 rfl rfl
theorem m7_159 : (Jvm.Cond.constantLong "LittleMoreModel" (402 : Nat) (5 : Int64)) ∈ TBL := tb7 159 rfl rfl
theorem m7_160 : (Jvm.Cond.constantLong "LittleMoreModel" (407 : Nat) (-1 : Int64)) ∈ TBL := tb7 160 rfl rfl
theorem m7_161 : (Jvm.Cond.methodLink "LittleMoreLaw" (156 : Nat) ({ cls := "LittleMoreModel", name := "item", desc := "(IIJ)I" } : Jvm.MethodName)) ∈ TBL := tb7 161 rfl rfl
theorem m7_162 : (Jvm.Cond.instanceMethod ({ cls := "LittleMoreModel", name := "item", desc := "(IIJ)I" } : Jvm.MethodName)) ∈ TBL := tb7 162 rfl rfl
theorem m7_163 : (Jvm.Cond.selects "LittleMoreModel" ({ cls := "LittleMoreModel", name := "item", desc := "(IIJ)I" } : Jvm.MethodName) ({ cls := "LittleMoreModel", name := "item", desc := "(IIJ)I" } : Jvm.MethodName)) ∈ TBL := tb7 163 rfl rfl
theorem m7_164 : (Jvm.Cond.code ({ cls := "LittleMoreModel", name := "item", desc := "(IIJ)I" } : Jvm.MethodName) prog_14_method_97_code (5 : Nat) (Option.some Jvm.ClassFile.FieldType.int)) ∈ TBL := tb7 164 rfl rfl
theorem m7_165 : (Jvm.Cond.methodLink "LittleMoreModel" (409 : Nat) ({ cls := "LittleMoreModel", name := "narrowed", desc := "(JI)J" } : Jvm.MethodName)) ∈ TBL := tb7 165 rfl rfl
theorem m7_166 : (Jvm.Cond.static ({ cls := "LittleMoreModel", name := "narrowed", desc := "(JI)J" } : Jvm.MethodName)) ∈ TBL := tb7 166 rfl rfl
theorem m7_167 : (Jvm.Cond.code ({ cls := "LittleMoreModel", name := "narrowed", desc := "(JI)J" } : Jvm.MethodName) prog_14_method_96_code (3 : Nat) (Option.some Jvm.ClassFile.FieldType.long)) ∈ TBL := tb7 167 rfl rfl
theorem m7_168 : (Jvm.Cond.methodLink "LittleMoreLaw" (160 : Nat) ({ cls := "LittleMoreModel", name := "read", desc := "(II)J" } : Jvm.MethodName)) ∈ TBL := tb7 168 rfl rfl
theorem m7_169 : (Jvm.Cond.instanceMethod ({ cls := "LittleMoreModel", name := "read", desc := "(II)J" } : Jvm.MethodName)) ∈ TBL := tb7 169 rfl rfl
theorem m7_170 : (Jvm.Cond.selects "LittleMoreModel" ({ cls := "LittleMoreModel", name := "read", desc := "(II)J" } : Jvm.MethodName) ({ cls := "LittleMoreModel", name := "read", desc := "(II)J" } : Jvm.MethodName)) ∈ TBL := tb7 170 rfl rfl
theorem m7_171 : (Jvm.Cond.code ({ cls := "LittleMoreModel", name := "read", desc := "(II)J" } : Jvm.MethodName) prog_14_method_98_code (3 : Nat) (Option.some Jvm.ClassFile.FieldType.long)) ∈ TBL := tb7 171 rfl rfl
theorem m7_172 : (Jvm.Cond.methodLink "LittleMoreLaw" (165 : Nat) ({ cls := "LittleMoreModel", name := "shift", desc := "(IIIII)I" } : Jvm.MethodName)) ∈ TBL := tb7 172 rfl rfl
theorem m7_173 : (Jvm.Cond.instanceMethod ({ cls := "LittleMoreModel", name := "shift", desc := "(IIIII)I" } : Jvm.MethodName)) ∈ TBL := tb7 173 rfl rfl
theorem m7_174 : (Jvm.Cond.selects "LittleMoreModel" ({ cls := "LittleMoreModel", name := "shift", desc := "(IIIII)I" } : Jvm.MethodName) ({ cls := "LittleMoreModel", name := "shift", desc := "(IIIII)I" } : Jvm.MethodName)) ∈ TBL := tb7 174 rfl rfl
theorem m7_175 : (Jvm.Cond.code ({ cls := "LittleMoreModel", name := "shift", desc := "(IIIII)I" } : Jvm.MethodName) prog_14_method_99_code (7 : Nat) (Option.some Jvm.ClassFile.FieldType.int)) ∈ TBL := tb7 175 rfl rfl
theorem m7_176 : (Jvm.Cond.methodLink "LittleMoreLaw" (121 : Nat) ({ cls := "LittleMoreModel", name := "judge", desc := "(II)I" } : Jvm.MethodName)) ∈ TBL := tb7 176 rfl rfl
theorem m7_177 : (Jvm.Cond.instanceMethod ({ cls := "LittleMoreModel", name := "judge", desc := "(II)I" } : Jvm.MethodName)) ∈ TBL := tb7 177 rfl rfl
theorem m7_178 : (Jvm.Cond.selects "LittleMoreModel" ({ cls := "LittleMoreModel", name := "judge", desc := "(II)I" } : Jvm.MethodName) ({ cls := "LittleMoreModel", name := "judge", desc := "(II)I" } : Jvm.MethodName)) ∈ TBL := tb7 178 rfl rfl
theorem m7_179 : (Jvm.Cond.code ({ cls := "LittleMoreModel", name := "judge", desc := "(II)I" } : Jvm.MethodName) prog_14_method_100_code (4 : Nat) (Option.some Jvm.ClassFile.FieldType.int)) ∈ TBL := tb7 179 rfl rfl
theorem m7_180 : (Jvm.Cond.constantLong "LittleMoreLaw" (150 : Nat) (4294967295 : Int64)) ∈ TBL := tb7 180 rfl rfl
theorem m7_181 : (Jvm.Cond.sameMethod "LittleMore$Strict" "LittleMore$Strict" "portion" "(LLittleMore$Customer;)I") ∈ TBL := tb7 181 rfl rfl
theorem m7_182 : (Jvm.Cond.sameMethod "LittleMore$Child" "LittleMore$Child" "portion" "(LLittleMore$Customer;)I") ∈ TBL := tb7 182 rfl rfl
theorem m7_183 : (Jvm.Cond.sameMethod "LittleMore$Strict" "LittleMore$Strict" "patience" "(LLittleMore$Customer;)I") ∈ TBL := tb7 183 rfl rfl
theorem m7_184 : (Jvm.Cond.sameMethod "LittleMore$Strict" "LittleMore$Strict" "buys" "(LLittleMore$Customer;ILjava/util/ArrayList;)I") ∈ TBL := tb7 184 rfl rfl
theorem l7_185 : (Jvm.Cond.castable "LittleMore$Counting" "LittleMore$Strict") ∈ lw_tbl := tl7 185 rfl
theorem l7_186 : (Jvm.Cond.castable "LittleMore$Leaving" "LittleMore$Gentle") ∈ lw_tbl := tl7 186 rfl
theorem l7_187 : (Jvm.Cond.castable "LittleMore$Told" "LittleMore$Child") ∈ lw_tbl := tl7 187 rfl
theorem l7_190 : (Jvm.Cond.castable "java/lang/Integer" "java/lang/Object") ∈ lw_tbl := tl7 190 rfl
theorem l7_204 : (Jvm.Cond.castable "LittleMore$Strict" "LittleMore$Kind") ∈ lw_tbl := tl7 204 rfl
theorem l7_205 : (Jvm.Cond.castable "LittleMore$Gentle" "LittleMore$Kind") ∈ lw_tbl := tl7 205 rfl
theorem l7_206 : (Jvm.Cond.castable "LittleMore$Child" "LittleMore$Kind") ∈ lw_tbl := tl7 206 rfl
theorem l7_207 : (Jvm.Cond.castable "LittleMore$Counting" "LittleMore$Kind") ∈ lw_tbl := tl7 207 rfl
theorem l7_208 : (Jvm.Cond.castable "LittleMore$Leaving" "LittleMore$Kind") ∈ lw_tbl := tl7 208 rfl
theorem l7_209 : (Jvm.Cond.castable "LittleMore$Told" "LittleMore$Kind") ∈ lw_tbl := tl7 209 rfl
theorem m7_211 : (Jvm.Cond.selects "[Ljava/lang/Object;" ({ cls := "java/lang/Object", name := "getClass", desc := "()Ljava/lang/Class;" } : Jvm.MethodName) ({ cls := "java/lang/Object", name := "getClass", desc := "()Ljava/lang/Class;" } : Jvm.MethodName)) ∈ TBL := tb7 211 rfl rfl
theorem l7_212 : (Jvm.Cond.declares ({ cls := "java/lang/Object", name := "getClass", desc := "()Ljava/lang/Class;" } : Jvm.MethodName)) ∈ lw_tbl := tl7 212 rfl
theorem m7_221 : (Jvm.Cond.fieldLink "java/lang/String" (9 : Nat) "java/lang/String" "value" "[B") ∈ TBL := tb7 221 rfl rfl
theorem m7_222 : (Jvm.Cond.fieldLink "java/lang/String" (15 : Nat) "java/lang/String" "coder" "B") ∈ TBL := tb7 222 rfl rfl
theorem inkJ6 : ∀ k : Nat, k < 1 → u_lay RJ6 TJ6 k ∈ TBL
  | 0, _ => m4_146
  | n + 1, hk => absurd hk (by omega)
theorem inJ6 : ∀ w ∈ u_ws RJ6 TJ6 1, w ∈ TBL := fun w h => by
  obtain ⟨k, hk, rfl⟩ := List.mem_map.mp h
  exact inkJ6 k (List.mem_range.mp hk)
theorem inkJx4a65c : ∀ k : Nat, k < 3 → u_lay RJx4a65c TJx4a65c k ∈ TBL
  | 0, _ => m2_61
  | 1, _ => m2_57
  | 2, _ => m2_59
  | n + 3, hk => absurd hk (by omega)
theorem inJx4a65c : ∀ w ∈ u_ws RJx4a65c TJx4a65c 3, w ∈ TBL := fun w h => by
  obtain ⟨k, hk, rfl⟩ := List.mem_map.mp h
  exact inkJx4a65c k (List.mem_range.mp hk)
theorem inkX0 : ∀ k : Nat, k < 1 → u_lay RX0 TX0 k ∈ TBL
  | 0, _ => m1_73
  | n + 1, hk => absurd hk (by omega)
theorem inX0 : ∀ w ∈ u_ws RX0 TX0 1, w ∈ TBL := fun w h => by
  obtain ⟨k, hk, rfl⟩ := List.mem_map.mp h
  exact inkX0 k (List.mem_range.mp hk)
theorem inkX1 : ∀ k : Nat, k < 4 → u_lay RX1 TX1 k ∈ TBL
  | 0, _ => m1_120
  | 1, _ => m1_122
  | 2, _ => m1_124
  | 3, _ => m1_126
  | n + 4, hk => absurd hk (by omega)
theorem inX1 : ∀ w ∈ u_ws RX1 TX1 4, w ∈ TBL := fun w h => by
  obtain ⟨k, hk, rfl⟩ := List.mem_map.mp h
  exact inkX1 k (List.mem_range.mp hk)
theorem inkX2 : ∀ k : Nat, k < 1 → u_lay RX2 TX2 k ∈ TBL
  | 0, _ => m1_81
  | n + 1, hk => absurd hk (by omega)
theorem inX2 : ∀ w ∈ u_ws RX2 TX2 1, w ∈ TBL := fun w h => by
  obtain ⟨k, hk, rfl⟩ := List.mem_map.mp h
  exact inkX2 k (List.mem_range.mp hk)
theorem inkX3 : ∀ k : Nat, k < 10 → u_lay RX3 TX3 k ∈ TBL
  | 0, _ => m1_181
  | 1, _ => m1_183
  | 2, _ => m1_185
  | 3, _ => m1_187
  | 4, _ => m1_189
  | 5, _ => m1_191
  | 6, _ => m1_193
  | 7, _ => m1_195
  | 8, _ => m1_197
  | 9, _ => m1_199
  | n + 10, hk => absurd hk (by omega)
theorem inX3 : ∀ w ∈ u_ws RX3 TX3 10, w ∈ TBL := fun w h => by
  obtain ⟨k, hk, rfl⟩ := List.mem_map.mp h
  exact inkX3 k (List.mem_range.mp hk)
theorem inkX4 : ∀ k : Nat, k < 1 → u_lay RX4 TX4 k ∈ TBL
  | 0, _ => m1_65
  | n + 1, hk => absurd hk (by omega)
theorem inX4 : ∀ w ∈ u_ws RX4 TX4 1, w ∈ TBL := fun w h => by
  obtain ⟨k, hk, rfl⟩ := List.mem_map.mp h
  exact inkX4 k (List.mem_range.mp hk)
theorem inkX5 : ∀ k : Nat, k < 1 → u_lay RX5 TX5 k ∈ TBL
  | 0, _ => m1_48
  | n + 1, hk => absurd hk (by omega)
theorem inX5 : ∀ w ∈ u_ws RX5 TX5 1, w ∈ TBL := fun w h => by
  obtain ⟨k, hk, rfl⟩ := List.mem_map.mp h
  exact inkX5 k (List.mem_range.mp hk)
theorem inkX6 : ∀ k : Nat, k < 1 → u_lay RX6 TX6 k ∈ TBL
  | 0, _ => m1_89
  | n + 1, hk => absurd hk (by omega)
theorem inX6 : ∀ w ∈ u_ws RX6 TX6 1, w ∈ TBL := fun w h => by
  obtain ⟨k, hk, rfl⟩ := List.mem_map.mp h
  exact inkX6 k (List.mem_range.mp hk)
theorem inkX7 : ∀ k : Nat, k < 8 → u_lay RX7 TX7 k ∈ TBL
  | 0, _ => m1_218
  | 1, _ => m1_220
  | 2, _ => m1_222
  | 3, _ => m1_224
  | 4, _ => m1_226
  | 5, _ => m1_228
  | 6, _ => m1_230
  | 7, _ => m1_232
  | n + 8, hk => absurd hk (by omega)
theorem inX7 : ∀ w ∈ u_ws RX7 TX7 8, w ∈ TBL := fun w h => by
  obtain ⟨k, hk, rfl⟩ := List.mem_map.mp h
  exact inkX7 k (List.mem_range.mp hk)
theorem inkX8 : ∀ k : Nat, k < 1 → u_lay RX8 TX8 k ∈ TBL
  | 0, _ => m1_57
  | n + 1, hk => absurd hk (by omega)
theorem inX8 : ∀ w ∈ u_ws RX8 TX8 1, w ∈ TBL := fun w h => by
  obtain ⟨k, hk, rfl⟩ := List.mem_map.mp h
  exact inkX8 k (List.mem_range.mp hk)
theorem inkX9 : ∀ k : Nat, k < 9 → u_lay RX9 TX9 k ∈ TBL
  | 0, _ => m2_18
  | 1, _ => m2_20
  | 2, _ => m2_22
  | 3, _ => m2_24
  | 4, _ => m2_26
  | 5, _ => m2_28
  | 6, _ => m2_30
  | 7, _ => m2_32
  | 8, _ => m2_34
  | n + 9, hk => absurd hk (by omega)
theorem inX9 : ∀ w ∈ u_ws RX9 TX9 9, w ∈ TBL := fun w h => by
  obtain ⟨k, hk, rfl⟩ := List.mem_map.mp h
  exact inkX9 k (List.mem_range.mp hk)
theorem inkX10 : ∀ k : Nat, k < 1 → u_lay RX10 TX10 k ∈ TBL
  | 0, _ => m1_97
  | n + 1, hk => absurd hk (by omega)
theorem inX10 : ∀ w ∈ u_ws RX10 TX10 1, w ∈ TBL := fun w h => by
  obtain ⟨k, hk, rfl⟩ := List.mem_map.mp h
  exact inkX10 k (List.mem_range.mp hk)
theorem inkX11 : ∀ k : Nat, k < 11 → u_lay RX11 TX11 k ∈ TBL
  | 0, _ => m2_80
  | 1, _ => m2_82
  | 2, _ => m2_84
  | 3, _ => m2_86
  | 4, _ => m2_88
  | 5, _ => m2_90
  | 6, _ => m2_92
  | 7, _ => m2_94
  | 8, _ => m2_96
  | 9, _ => m2_98
  | 10, _ => m2_100
  | n + 11, hk => absurd hk (by omega)
theorem inX11 : ∀ w ∈ u_ws RX11 TX11 11, w ∈ TBL := fun w h => by
  obtain ⟨k, hk, rfl⟩ := List.mem_map.mp h
  exact inkX11 k (List.mem_range.mp hk)
theorem inkX12 : ∀ k : Nat, k < 49 → u_lay RX12 TX12 k ∈ TBL
  | 0, _ => m5_150
  | 1, _ => m5_152
  | 2, _ => m5_154
  | 3, _ => m5_156
  | 4, _ => m5_158
  | 5, _ => m5_160
  | 6, _ => m5_162
  | 7, _ => m5_164
  | 8, _ => m5_166
  | 9, _ => m5_168
  | 10, _ => m5_170
  | 11, _ => m5_172
  | 12, _ => m5_174
  | 13, _ => m5_176
  | 14, _ => m5_178
  | 15, _ => m5_180
  | 16, _ => m5_182
  | 17, _ => m5_184
  | 18, _ => m5_186
  | 19, _ => m5_188
  | 20, _ => m5_190
  | 21, _ => m5_192
  | 22, _ => m5_194
  | 23, _ => m5_196
  | 24, _ => m5_198
  | 25, _ => m5_200
  | 26, _ => m5_202
  | 27, _ => m5_204
  | 28, _ => m5_206
  | 29, _ => m5_208
  | 30, _ => m5_210
  | 31, _ => m5_212
  | 32, _ => m5_214
  | 33, _ => m5_216
  | 34, _ => m5_218
  | 35, _ => m5_220
  | 36, _ => m5_222
  | 37, _ => m5_224
  | 38, _ => m5_226
  | 39, _ => m5_228
  | 40, _ => m5_230
  | 41, _ => m5_232
  | 42, _ => m5_234
  | 43, _ => m5_236
  | 44, _ => m5_238
  | 45, _ => m6_0
  | 46, _ => m6_2
  | 47, _ => m6_4
  | 48, _ => m6_6
  | n + 49, hk => absurd hk (by omega)
theorem inX12 : ∀ w ∈ u_ws RX12 TX12 49, w ∈ TBL := fun w h => by
  obtain ⟨k, hk, rfl⟩ := List.mem_map.mp h
  exact inkX12 k (List.mem_range.mp hk)
