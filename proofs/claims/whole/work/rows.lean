section
/-- a private method of a class that the tables say can be made, by its rows of tables_1 -/
def lw_okq (q : MethodName × Nat) : Prop := (q.1.cls ≠ "java/lang/invoke/MethodHandle" ∧ q.1.cls ≠ "java/lang/invoke/VarHandle") ∧ Cond.instantiable q.1.cls q.2 ∈ tables_1 ∧ Cond.privateMethod q.1 ∈ tables_1 ∧ Cond.instanceMethod q.1 ∈ tables_1
theorem lw_p0 : lw_okq (⟨"IceRun", "standardNow", "()I"⟩, 8) := ⟨⟨by decide +kernel, by decide +kernel⟩, List.mem_of_getElem? (i := 25) (by decide +kernel), List.mem_of_getElem? (i := 404) (by decide +kernel), List.mem_of_getElem? (i := 405) (by decide +kernel)⟩
theorem lw_p1 : lw_okq (⟨"IceRun", "timeInCell", "(IIII)I"⟩, 8) := ⟨⟨by decide +kernel, by decide +kernel⟩, List.mem_of_getElem? (i := 25) (by decide +kernel), List.mem_of_getElem? (i := 408) (by decide +kernel), List.mem_of_getElem? (i := 409) (by decide +kernel)⟩
theorem lw_p2 : lw_okq (⟨"IceRun$LawReader", "advance", "(LIceRun$Tape;)V"⟩, 5) := ⟨⟨by decide +kernel, by decide +kernel⟩, List.mem_of_getElem? (i := 142) (by decide +kernel), List.mem_of_getElem? (i := 464) (by decide +kernel), List.mem_of_getElem? (i := 465) (by decide +kernel)⟩
theorem lw_p3 : lw_okq (⟨"IceRun$LawReader", "readLaw", "(LIceRun$Tape;)V"⟩, 5) := ⟨⟨by decide +kernel, by decide +kernel⟩, List.mem_of_getElem? (i := 142) (by decide +kernel), List.mem_of_getElem? (i := 481) (by decide +kernel), List.mem_of_getElem? (i := 482) (by decide +kernel)⟩
theorem lw_p4 : lw_okq (⟨"IceRun$LawReader", "wordAtHand", "(LIceRun$Tape;)LIceRun$Word;"⟩, 5) := ⟨⟨by decide +kernel, by decide +kernel⟩, List.mem_of_getElem? (i := 142) (by decide +kernel), List.mem_of_getElem? (i := 485) (by decide +kernel), List.mem_of_getElem? (i := 486) (by decide +kernel)⟩
theorem lw_p5 : lw_okq (⟨"IceRun$LawReader", "spells", "(LIceRun$Tape;Ljava/lang/String;)Z"⟩, 5) := ⟨⟨by decide +kernel, by decide +kernel⟩, List.mem_of_getElem? (i := 142) (by decide +kernel), List.mem_of_getElem? (i := 491) (by decide +kernel), List.mem_of_getElem? (i := 492) (by decide +kernel)⟩
theorem lw_p6 : lw_okq (⟨"IceRun$LawReader", "readNumber", "(LIceRun$Tape;II)I"⟩, 5) := ⟨⟨by decide +kernel, by decide +kernel⟩, List.mem_of_getElem? (i := 142) (by decide +kernel), List.mem_of_getElem? (i := 543) (by decide +kernel), List.mem_of_getElem? (i := 544) (by decide +kernel)⟩
theorem lw_p7 : lw_okq (⟨"IceRun", "beginFirst", "(I)I"⟩, 8) := ⟨⟨by decide +kernel, by decide +kernel⟩, List.mem_of_getElem? (i := 25) (by decide +kernel), List.mem_of_getElem? (i := 570) (by decide +kernel), List.mem_of_getElem? (i := 571) (by decide +kernel)⟩
theorem lw_p8 : lw_okq (⟨"IceRun", "beginLater", "()I"⟩, 8) := ⟨⟨by decide +kernel, by decide +kernel⟩, List.mem_of_getElem? (i := 25) (by decide +kernel), List.mem_of_getElem? (i := 592) (by decide +kernel), List.mem_of_getElem? (i := 593) (by decide +kernel)⟩
theorem lw_p9 : lw_okq (⟨"IceRun$Standing", "recallSum", "(LIceRun$Race;II)V"⟩, 3) := ⟨⟨by decide +kernel, by decide +kernel⟩, List.mem_of_getElem? (i := 272) (by decide +kernel), List.mem_of_getElem? (i := 600) (by decide +kernel), List.mem_of_getElem? (i := 601) (by decide +kernel)⟩
theorem lw_p10 : lw_okq (⟨"IceRun$Standing", "manyBelow", "(I)I"⟩, 3) := ⟨⟨by decide +kernel, by decide +kernel⟩, List.mem_of_getElem? (i := 272) (by decide +kernel), List.mem_of_getElem? (i := 629) (by decide +kernel), List.mem_of_getElem? (i := 630) (by decide +kernel)⟩
theorem lw_p11 : lw_okq (⟨"IceRun", "comeDown", "(II)V"⟩, 8) := ⟨⟨by decide +kernel, by decide +kernel⟩, List.mem_of_getElem? (i := 25) (by decide +kernel), List.mem_of_getElem? (i := 669) (by decide +kernel), List.mem_of_getElem? (i := 670) (by decide +kernel)⟩
theorem lw_p12 : lw_okq (⟨"IceRun", "ride", "(III)I"⟩, 8) := ⟨⟨by decide +kernel, by decide +kernel⟩, List.mem_of_getElem? (i := 25) (by decide +kernel), List.mem_of_getElem? (i := 684) (by decide +kernel), List.mem_of_getElem? (i := 685) (by decide +kernel)⟩
theorem lw_p13 : lw_okq (⟨"IceRun$Sheet", "isTimed", "(III)Z"⟩, 5) := ⟨⟨by decide +kernel, by decide +kernel⟩, List.mem_of_getElem? (i := 188) (by decide +kernel), List.mem_of_getElem? (i := 709) (by decide +kernel), List.mem_of_getElem? (i := 710) (by decide +kernel)⟩
theorem lw_p14 : lw_okq (⟨"IceRun", "isShown", "(III)Z"⟩, 8) := ⟨⟨by decide +kernel, by decide +kernel⟩, List.mem_of_getElem? (i := 25) (by decide +kernel), List.mem_of_getElem? (i := 744) (by decide +kernel), List.mem_of_getElem? (i := 745) (by decide +kernel)⟩
theorem lw_p15 : lw_okq (⟨"IceRun$Sheet", "leastBetween", "(IIII)I"⟩, 5) := ⟨⟨by decide +kernel, by decide +kernel⟩, List.mem_of_getElem? (i := 188) (by decide +kernel), List.mem_of_getElem? (i := 785) (by decide +kernel), List.mem_of_getElem? (i := 786) (by decide +kernel)⟩
def lw_privs_1 : List (MethodName × Nat) := [(⟨"IceRun", "standardNow", "()I"⟩, 8), (⟨"IceRun", "timeInCell", "(IIII)I"⟩, 8), (⟨"IceRun$LawReader", "advance", "(LIceRun$Tape;)V"⟩, 5), (⟨"IceRun$LawReader", "readLaw", "(LIceRun$Tape;)V"⟩, 5), (⟨"IceRun$LawReader", "wordAtHand", "(LIceRun$Tape;)LIceRun$Word;"⟩, 5), (⟨"IceRun$LawReader", "spells", "(LIceRun$Tape;Ljava/lang/String;)Z"⟩, 5), (⟨"IceRun$LawReader", "readNumber", "(LIceRun$Tape;II)I"⟩, 5), (⟨"IceRun", "beginFirst", "(I)I"⟩, 8), (⟨"IceRun", "beginLater", "()I"⟩, 8), (⟨"IceRun$Standing", "recallSum", "(LIceRun$Race;II)V"⟩, 3), (⟨"IceRun$Standing", "manyBelow", "(I)I"⟩, 3), (⟨"IceRun", "comeDown", "(II)V"⟩, 8), (⟨"IceRun", "ride", "(III)I"⟩, 8), (⟨"IceRun$Sheet", "isTimed", "(III)Z"⟩, 5), (⟨"IceRun", "isShown", "(III)Z"⟩, 8), (⟨"IceRun$Sheet", "leastBetween", "(IIII)I"⟩, 5)]
theorem lw_r1 : ∀ q ∈ lw_privs_1, lw_okq q := List.forall_mem_cons.mpr ⟨lw_p0, List.forall_mem_cons.mpr ⟨lw_p1, List.forall_mem_cons.mpr ⟨lw_p2, List.forall_mem_cons.mpr ⟨lw_p3, List.forall_mem_cons.mpr ⟨lw_p4, List.forall_mem_cons.mpr ⟨lw_p5, List.forall_mem_cons.mpr ⟨lw_p6, List.forall_mem_cons.mpr ⟨lw_p7, List.forall_mem_cons.mpr ⟨lw_p8, List.forall_mem_cons.mpr ⟨lw_p9, List.forall_mem_cons.mpr ⟨lw_p10, List.forall_mem_cons.mpr ⟨lw_p11, List.forall_mem_cons.mpr ⟨lw_p12, List.forall_mem_cons.mpr ⟨lw_p13, List.forall_mem_cons.mpr ⟨lw_p14, List.forall_mem_cons.mpr ⟨lw_p15, fun _ h => absurd h List.not_mem_nil⟩⟩⟩⟩⟩⟩⟩⟩⟩⟩⟩⟩⟩⟩⟩⟩
theorem lw_p16 : lw_okq (⟨"IceRun", "givePoints", "()I"⟩, 8) := ⟨⟨by decide +kernel, by decide +kernel⟩, List.mem_of_getElem? (i := 25) (by decide +kernel), List.mem_of_getElem? (i := 795) (by decide +kernel), List.mem_of_getElem? (i := 796) (by decide +kernel)⟩
theorem lw_p17 : lw_okq (⟨"java/lang/Throwable", "fillInStackTrace", "(I)Ljava/lang/Throwable;"⟩, 6) := ⟨⟨by decide +kernel, by decide +kernel⟩, List.mem_of_getElem? (i := 873) (by decide +kernel), List.mem_of_getElem? (i := 871) (by decide +kernel), List.mem_of_getElem? (i := 872) (by decide +kernel)⟩
theorem lw_p18 : lw_okq (⟨"IceRunModel", "normal", "()V"⟩, 42) := ⟨⟨by decide +kernel, by decide +kernel⟩, List.mem_of_getElem? (i := 914) (by decide +kernel), List.mem_of_getElem? (i := 920) (by decide +kernel), List.mem_of_getElem? (i := 921) (by decide +kernel)⟩
theorem lw_p19 : lw_okq (⟨"IceRunModel", "takes", "()V"⟩, 42) := ⟨⟨by decide +kernel, by decide +kernel⟩, List.mem_of_getElem? (i := 914) (by decide +kernel), List.mem_of_getElem? (i := 924) (by decide +kernel), List.mem_of_getElem? (i := 925) (by decide +kernel)⟩
theorem lw_p20 : lw_okq (⟨"IceRunModel", "isCell", "(I)Z"⟩, 42) := ⟨⟨by decide +kernel, by decide +kernel⟩, List.mem_of_getElem? (i := 914) (by decide +kernel), List.mem_of_getElem? (i := 1070) (by decide +kernel), List.mem_of_getElem? (i := 1071) (by decide +kernel)⟩
theorem lw_p21 : lw_okq (⟨"IceRunModel", "isOn", "()Z"⟩, 42) := ⟨⟨by decide +kernel, by decide +kernel⟩, List.mem_of_getElem? (i := 914) (by decide +kernel), List.mem_of_getElem? (i := 1074) (by decide +kernel), List.mem_of_getElem? (i := 1075) (by decide +kernel)⟩
theorem lw_p22 : lw_okq (⟨"IceRunModel", "glideOf", "(II)I"⟩, 42) := ⟨⟨by decide +kernel, by decide +kernel⟩, List.mem_of_getElem? (i := 914) (by decide +kernel), List.mem_of_getElem? (i := 1109) (by decide +kernel), List.mem_of_getElem? (i := 1110) (by decide +kernel)⟩
theorem lw_p23 : lw_okq (⟨"IceRunModel", "timeOf", "(IIII)I"⟩, 42) := ⟨⟨by decide +kernel, by decide +kernel⟩, List.mem_of_getElem? (i := 914) (by decide +kernel), List.mem_of_getElem? (i := 1121) (by decide +kernel), List.mem_of_getElem? (i := 1122) (by decide +kernel)⟩
theorem lw_p24 : lw_okq (⟨"IceRunModel", "token", "()V"⟩, 42) := ⟨⟨by decide +kernel, by decide +kernel⟩, List.mem_of_getElem? (i := 914) (by decide +kernel), List.mem_of_getElem? (i := 1137) (by decide +kernel), List.mem_of_getElem? (i := 1138) (by decide +kernel)⟩
theorem lw_p25 : lw_okq (⟨"IceRunModel", "byteAt", "(I)I"⟩, 42) := ⟨⟨by decide +kernel, by decide +kernel⟩, List.mem_of_getElem? (i := 914) (by decide +kernel), List.mem_of_getElem? (i := 1141) (by decide +kernel), List.mem_of_getElem? (i := 1142) (by decide +kernel)⟩
theorem lw_p26 : lw_okq (⟨"IceRunModel", "one", "()I"⟩, 42) := ⟨⟨by decide +kernel, by decide +kernel⟩, List.mem_of_getElem? (i := 914) (by decide +kernel), List.mem_of_getElem? (i := 1151) (by decide +kernel), List.mem_of_getElem? (i := 1152) (by decide +kernel)⟩
theorem lw_p27 : lw_okq (⟨"IceRunModel", "lawAtHand", "()I"⟩, 42) := ⟨⟨by decide +kernel, by decide +kernel⟩, List.mem_of_getElem? (i := 914) (by decide +kernel), List.mem_of_getElem? (i := 1155) (by decide +kernel), List.mem_of_getElem? (i := 1156) (by decide +kernel)⟩
theorem lw_p28 : lw_okq (⟨"IceRunModel", "is", "(Ljava/lang/String;)Z"⟩, 42) := ⟨⟨by decide +kernel, by decide +kernel⟩, List.mem_of_getElem? (i := 914) (by decide +kernel), List.mem_of_getElem? (i := 1160) (by decide +kernel), List.mem_of_getElem? (i := 1161) (by decide +kernel)⟩
theorem lw_p29 : lw_okq (⟨"IceRunModel", "fault", "(I)I"⟩, 42) := ⟨⟨by decide +kernel, by decide +kernel⟩, List.mem_of_getElem? (i := 914) (by decide +kernel), List.mem_of_getElem? (i := 1172) (by decide +kernel), List.mem_of_getElem? (i := 1173) (by decide +kernel)⟩
theorem lw_p30 : lw_okq (⟨"IceRunModel", "clears", "()V"⟩, 42) := ⟨⟨by decide +kernel, by decide +kernel⟩, List.mem_of_getElem? (i := 914) (by decide +kernel), List.mem_of_getElem? (i := 1195) (by decide +kernel), List.mem_of_getElem? (i := 1196) (by decide +kernel)⟩
theorem lw_p31 : lw_okq (⟨"IceRunModel", "rankOf", "(II)I"⟩, 42) := ⟨⟨by decide +kernel, by decide +kernel⟩, List.mem_of_getElem? (i := 914) (by decide +kernel), List.mem_of_getElem? (i := 1203) (by decide +kernel), List.mem_of_getElem? (i := 1204) (by decide +kernel)⟩
def lw_privs_2 : List (MethodName × Nat) := [(⟨"IceRun", "givePoints", "()I"⟩, 8), (⟨"java/lang/Throwable", "fillInStackTrace", "(I)Ljava/lang/Throwable;"⟩, 6), (⟨"IceRunModel", "normal", "()V"⟩, 42), (⟨"IceRunModel", "takes", "()V"⟩, 42), (⟨"IceRunModel", "isCell", "(I)Z"⟩, 42), (⟨"IceRunModel", "isOn", "()Z"⟩, 42), (⟨"IceRunModel", "glideOf", "(II)I"⟩, 42), (⟨"IceRunModel", "timeOf", "(IIII)I"⟩, 42), (⟨"IceRunModel", "token", "()V"⟩, 42), (⟨"IceRunModel", "byteAt", "(I)I"⟩, 42), (⟨"IceRunModel", "one", "()I"⟩, 42), (⟨"IceRunModel", "lawAtHand", "()I"⟩, 42), (⟨"IceRunModel", "is", "(Ljava/lang/String;)Z"⟩, 42), (⟨"IceRunModel", "fault", "(I)I"⟩, 42), (⟨"IceRunModel", "clears", "()V"⟩, 42), (⟨"IceRunModel", "rankOf", "(II)I"⟩, 42)]
theorem lw_r2 : ∀ q ∈ lw_privs_2, lw_okq q := List.forall_mem_cons.mpr ⟨lw_p16, List.forall_mem_cons.mpr ⟨lw_p17, List.forall_mem_cons.mpr ⟨lw_p18, List.forall_mem_cons.mpr ⟨lw_p19, List.forall_mem_cons.mpr ⟨lw_p20, List.forall_mem_cons.mpr ⟨lw_p21, List.forall_mem_cons.mpr ⟨lw_p22, List.forall_mem_cons.mpr ⟨lw_p23, List.forall_mem_cons.mpr ⟨lw_p24, List.forall_mem_cons.mpr ⟨lw_p25, List.forall_mem_cons.mpr ⟨lw_p26, List.forall_mem_cons.mpr ⟨lw_p27, List.forall_mem_cons.mpr ⟨lw_p28, List.forall_mem_cons.mpr ⟨lw_p29, List.forall_mem_cons.mpr ⟨lw_p30, List.forall_mem_cons.mpr ⟨lw_p31, fun _ h => absurd h List.not_mem_nil⟩⟩⟩⟩⟩⟩⟩⟩⟩⟩⟩⟩⟩⟩⟩⟩
theorem lw_p32 : lw_okq (⟨"IceRunModel", "isRanked", "(II)Z"⟩, 42) := ⟨⟨by decide +kernel, by decide +kernel⟩, List.mem_of_getElem? (i := 914) (by decide +kernel), List.mem_of_getElem? (i := 1207) (by decide +kernel), List.mem_of_getElem? (i := 1208) (by decide +kernel)⟩
theorem lw_p33 : lw_okq (⟨"IceRunModel", "isEntered", "(I)Z"⟩, 42) := ⟨⟨by decide +kernel, by decide +kernel⟩, List.mem_of_getElem? (i := 914) (by decide +kernel), List.mem_of_getElem? (i := 1211) (by decide +kernel), List.mem_of_getElem? (i := 1212) (by decide +kernel)⟩
theorem lw_p34 : lw_okq (⟨"IceRunModel", "isStruck", "(II)Z"⟩, 42) := ⟨⟨by decide +kernel, by decide +kernel⟩, List.mem_of_getElem? (i := 914) (by decide +kernel), List.mem_of_getElem? (i := 1215) (by decide +kernel), List.mem_of_getElem? (i := 1216) (by decide +kernel)⟩
theorem lw_p35 : lw_okq (⟨"IceRunModel", "sumOf", "(II)I"⟩, 42) := ⟨⟨by decide +kernel, by decide +kernel⟩, List.mem_of_getElem? (i := 914) (by decide +kernel), List.mem_of_getElem? (i := 1219) (by decide +kernel), List.mem_of_getElem? (i := 1220) (by decide +kernel)⟩
theorem lw_p36 : lw_okq (⟨"IceRunModel", "draws", "(II)V"⟩, 42) := ⟨⟨by decide +kernel, by decide +kernel⟩, List.mem_of_getElem? (i := 914) (by decide +kernel), List.mem_of_getElem? (i := 1223) (by decide +kernel), List.mem_of_getElem? (i := 1224) (by decide +kernel)⟩
theorem lw_p37 : lw_okq (⟨"IceRunModel", "turns", "(I)V"⟩, 42) := ⟨⟨by decide +kernel, by decide +kernel⟩, List.mem_of_getElem? (i := 914) (by decide +kernel), List.mem_of_getElem? (i := 1228) (by decide +kernel), List.mem_of_getElem? (i := 1229) (by decide +kernel)⟩
theorem lw_p38 : lw_okq (⟨"IceRunModel", "passes", "(III)V"⟩, 42) := ⟨⟨by decide +kernel, by decide +kernel⟩, List.mem_of_getElem? (i := 914) (by decide +kernel), List.mem_of_getElem? (i := 1241) (by decide +kernel), List.mem_of_getElem? (i := 1242) (by decide +kernel)⟩
theorem lw_p39 : lw_okq (⟨"IceRunModel", "hasCome", "(II)Z"⟩, 42) := ⟨⟨by decide +kernel, by decide +kernel⟩, List.mem_of_getElem? (i := 914) (by decide +kernel), List.mem_of_getElem? (i := 1258) (by decide +kernel), List.mem_of_getElem? (i := 1259) (by decide +kernel)⟩
theorem lw_p40 : lw_okq (⟨"IceRunModel", "timeAt", "(III)I"⟩, 42) := ⟨⟨by decide +kernel, by decide +kernel⟩, List.mem_of_getElem? (i := 914) (by decide +kernel), List.mem_of_getElem? (i := 1282) (by decide +kernel), List.mem_of_getElem? (i := 1283) (by decide +kernel)⟩
def lw_privs_3 : List (MethodName × Nat) := [(⟨"IceRunModel", "isRanked", "(II)Z"⟩, 42), (⟨"IceRunModel", "isEntered", "(I)Z"⟩, 42), (⟨"IceRunModel", "isStruck", "(II)Z"⟩, 42), (⟨"IceRunModel", "sumOf", "(II)I"⟩, 42), (⟨"IceRunModel", "draws", "(II)V"⟩, 42), (⟨"IceRunModel", "turns", "(I)V"⟩, 42), (⟨"IceRunModel", "passes", "(III)V"⟩, 42), (⟨"IceRunModel", "hasCome", "(II)Z"⟩, 42), (⟨"IceRunModel", "timeAt", "(III)I"⟩, 42)]
theorem lw_r3 : ∀ q ∈ lw_privs_3, lw_okq q := List.forall_mem_cons.mpr ⟨lw_p32, List.forall_mem_cons.mpr ⟨lw_p33, List.forall_mem_cons.mpr ⟨lw_p34, List.forall_mem_cons.mpr ⟨lw_p35, List.forall_mem_cons.mpr ⟨lw_p36, List.forall_mem_cons.mpr ⟨lw_p37, List.forall_mem_cons.mpr ⟨lw_p38, List.forall_mem_cons.mpr ⟨lw_p39, List.forall_mem_cons.mpr ⟨lw_p40, fun _ h => absurd h List.not_mem_nil⟩⟩⟩⟩⟩⟩⟩⟩⟩
def lw_privs : List (MethodName × Nat) := lw_privs_1 ++ (lw_privs_2 ++ (lw_privs_3))
def lw_tbl : List Cond := k2_sels lw_privs ++ tables_1
theorem lw_privs_ok : ∀ q ∈ lw_privs, lw_okq q := by
  show ∀ q ∈ lw_privs_1 ++ (lw_privs_2 ++ (lw_privs_3)), lw_okq q
  exact List.forall_mem_append.mpr ⟨lw_r1, List.forall_mem_append.mpr ⟨lw_r2, lw_r3⟩⟩
end
section
def RX0 : String := "IceRun$LawBook"
def TX0 : u_T := fun k => match k with
  | 0 => ("IceRun$LawBook", "reader", "LIceRun$LawReader;", true)
  | 1 => ("IceRun$LawBook", "values", "[I", true)
  | _ => ("IceRun$LawBook", "place", "I", false)
def tyX0 : Nat → FieldType := fun k => match k with
  | 0 => .object "IceRun$LawReader"
  | 1 => .array .int
  | _ => .int
abbrev wsX00 : List Cond := u_ws RX0 TX0 3
theorem nmX0 : ∀ a, a < 3 → ∀ b, b < 3 → a ≠ b → (TX0 a).2.1 ≠ (TX0 b).2.1 := by decide +kernel
theorem tyX0_ok : ∀ k, k < 3 → parseFieldDescriptor (TX0 k).2.2.1 = some (tyX0 k) := by decide +kernel
abbrev cX0_init : ByteArray := prog_2_method_1_code
def yX0_init : MethodName := ⟨RX0, "<init>", "()V"⟩
abbrev cX0_take : ByteArray := prog_2_method_2_code
def yX0_take : MethodName := ⟨RX0, "take", "(LIceRun$Tape;)I"⟩
abbrev cX0_inForce : ByteArray := prog_2_method_3_code
def yX0_inForce : MethodName := ⟨RX0, "inForce", "(I)I"⟩
def RX1 : String := "IceRun$LawReader"
def TX1 : u_T := fun k => match k with
  | 0 => ("IceRun$LawReader", "found", "[I", true)
  | 1 => ("IceRun$LawReader", "token", "I", false)
  | 2 => ("IceRun$LawReader", "first", "I", false)
  | 3 => ("IceRun$LawReader", "behind", "I", false)
  | _ => ("IceRun$LawReader", "fault", "I", false)
def tyX1 : Nat → FieldType := fun k => match k with
  | 0 => .array .int
  | 1 => .int
  | 2 => .int
  | 3 => .int
  | _ => .int
abbrev wsX10 : List Cond := u_ws RX1 TX1 5
theorem nmX1 : ∀ a, a < 5 → ∀ b, b < 5 → a ≠ b → (TX1 a).2.1 ≠ (TX1 b).2.1 := by decide +kernel
theorem tyX1_ok : ∀ k, k < 5 → parseFieldDescriptor (TX1 k).2.2.1 = some (tyX1 k) := by decide +kernel
abbrev cX1_init : ByteArray := prog_3_method_1_code
def yX1_init : MethodName := ⟨RX1, "<init>", "()V"⟩
abbrev cX1_read : ByteArray := prog_3_method_2_code
def yX1_read : MethodName := ⟨RX1, "read", "(LIceRun$Tape;)I"⟩
abbrev cX1_readLaw : ByteArray := prog_3_method_3_code
def yX1_readLaw : MethodName := ⟨RX1, "readLaw", "(LIceRun$Tape;)V"⟩
abbrev cX1_readNumber : ByteArray := prog_3_method_4_code
def yX1_readNumber : MethodName := ⟨RX1, "readNumber", "(LIceRun$Tape;II)I"⟩
abbrev cX1_wordAtHand : ByteArray := prog_3_method_5_code
def yX1_wordAtHand : MethodName := ⟨RX1, "wordAtHand", "(LIceRun$Tape;)LIceRun$Word;"⟩
abbrev cX1_spells : ByteArray := prog_3_method_6_code
def yX1_spells : MethodName := ⟨RX1, "spells", "(LIceRun$Tape;Ljava/lang/String;)Z"⟩
abbrev cX1_advance : ByteArray := prog_3_method_7_code
def yX1_advance : MethodName := ⟨RX1, "advance", "(LIceRun$Tape;)V"⟩
abbrev cX1_isBlank : ByteArray := prog_3_method_8_code
def yX1_isBlank : MethodName := ⟨RX1, "isBlank", "(I)Z"⟩
abbrev cX1_isLetter : ByteArray := prog_3_method_9_code
def yX1_isLetter : MethodName := ⟨RX1, "isLetter", "(I)Z"⟩
abbrev cX1_isDigit : ByteArray := prog_3_method_10_code
def yX1_isDigit : MethodName := ⟨RX1, "isDigit", "(I)Z"⟩
def RX2 : String := "IceRun$Race"
def TX2 : u_T := fun k => match k with
  | 0 => ("IceRun$Race", "on", "Z", false)
  | 1 => ("IceRun$Race", "next", "I", false)
  | 2 => ("IceRun$Race", "going", "I", false)
  | 3 => ("IceRun$Race", "ordered", "I", false)
  | 4 => ("IceRun$Race", "down", "I", false)
  | 5 => ("IceRun$Race", "events", "I", false)
  | 6 => ("IceRun$Race", "wholes", "I", false)
  | 7 => ("IceRun$Race", "entries", "I", false)
  | 8 => ("IceRun$Race", "order", "[I", true)
  | 9 => ("IceRun$Race", "pool", "[I", true)
  | 10 => ("IceRun$Race", "entered", "[Z", true)
  | 11 => ("IceRun$Race", "struckAt", "[I", true)
  | 12 => ("IceRun$Race", "wholeAt", "[I", true)
  | _ => ("IceRun$Race", "sheet", "LIceRun$Sheet;", true)
def tyX2 : Nat → FieldType := fun k => match k with
  | 0 => .boolean
  | 1 => .int
  | 2 => .int
  | 3 => .int
  | 4 => .int
  | 5 => .int
  | 6 => .int
  | 7 => .int
  | 8 => .array .int
  | 9 => .array .int
  | 10 => .array .boolean
  | 11 => .array .int
  | 12 => .array .int
  | _ => .object "IceRun$Sheet"
abbrev wsX20 : List Cond := u_ws RX2 TX2 14
theorem nmX2 : ∀ a, a < 14 → ∀ b, b < 14 → a ≠ b → (TX2 a).2.1 ≠ (TX2 b).2.1 := by decide +kernel
theorem tyX2_ok : ∀ k, k < 14 → parseFieldDescriptor (TX2 k).2.2.1 = some (tyX2 k) := by decide +kernel
abbrev cX2_init : ByteArray := prog_4_method_1_code
def yX2_init : MethodName := ⟨RX2, "<init>", "()V"⟩
abbrev cX2_forget : ByteArray := prog_4_method_2_code
def yX2_forget : MethodName := ⟨RX2, "forget", "()V"⟩
abbrev cX2_enter : ByteArray := prog_4_method_3_code
def yX2_enter : MethodName := ⟨RX2, "enter", "(I)V"⟩
abbrev cX2_drawOrder : ByteArray := prog_4_method_4_code
def yX2_drawOrder : MethodName := ⟨RX2, "drawOrder", "(II)V"⟩
abbrev cX2_turnOrder : ByteArray := prog_4_method_5_code
def yX2_turnOrder : MethodName := ⟨RX2, "turnOrder", "(II)V"⟩
abbrev cX2_beginRun : ByteArray := prog_4_method_6_code
def yX2_beginRun : MethodName := ⟨RX2, "beginRun", "()I"⟩
abbrev cX2_orderAt : ByteArray := prog_4_method_7_code
def yX2_orderAt : MethodName := ⟨RX2, "orderAt", "(I)I"⟩
abbrev cX2_nextSled : ByteArray := prog_4_method_8_code
def yX2_nextSled : MethodName := ⟨RX2, "nextSled", "()I"⟩
abbrev cX2_countDown : ByteArray := prog_4_method_9_code
def yX2_countDown : MethodName := ⟨RX2, "countDown", "()V"⟩
abbrev cX2_shutRun : ByteArray := prog_4_method_10_code
def yX2_shutRun : MethodName := ⟨RX2, "shutRun", "()I"⟩
abbrev cX2_hasEntered : ByteArray := prog_4_method_11_code
def yX2_hasEntered : MethodName := ⟨RX2, "hasEntered", "(I)Z"⟩
abbrev cX2_strike : ByteArray := prog_4_method_12_code
def yX2_strike : MethodName := ⟨RX2, "strike", "(I)Z"⟩
abbrev cX2_isWhole : ByteArray := prog_4_method_13_code
def yX2_isWhole : MethodName := ⟨RX2, "isWhole", "(I)Z"⟩
abbrev cX2_isWholeBy : ByteArray := prog_4_method_14_code
def yX2_isWholeBy : MethodName := ⟨RX2, "isWholeBy", "(II)Z"⟩
abbrev cX2_isInBy : ByteArray := prog_4_method_15_code
def yX2_isInBy : MethodName := ⟨RX2, "isInBy", "(II)Z"⟩
def RX3 : String := "IceRun$Rows"
def TX3 : u_T := fun k => match k with
  | 0 => ("IceRun$Rows", "sorts", "[I", true)
  | 1 => ("IceRun$Rows", "lengths", "[I", true)
  | _ => ("IceRun$Rows", "entries", "[[I", true)
def tyX3 : Nat → FieldType := fun k => match k with
  | 0 => .array .int
  | 1 => .array .int
  | _ => .array (.array .int)
abbrev wsX30 : List Cond := u_ws RX3 TX3 3
theorem nmX3 : ∀ a, a < 3 → ∀ b, b < 3 → a ≠ b → (TX3 a).2.1 ≠ (TX3 b).2.1 := by decide +kernel
theorem tyX3_ok : ∀ k, k < 3 → parseFieldDescriptor (TX3 k).2.2.1 = some (tyX3 k) := by decide +kernel
abbrev cX3_init : ByteArray := prog_5_method_1_code
def yX3_init : MethodName := ⟨RX3, "<init>", "()V"⟩
abbrev cX3_makeRow : ByteArray := prog_5_method_2_code
def yX3_makeRow : MethodName := ⟨RX3, "makeRow", "(IIIII)V"⟩
abbrev cX3_cutTo : ByteArray := prog_5_method_3_code
def yX3_cutTo : MethodName := ⟨RX3, "cutTo", "(II)I"⟩
abbrev cX3_isAbsent : ByteArray := prog_5_method_4_code
def yX3_isAbsent : MethodName := ⟨RX3, "isAbsent", "(I)Z"⟩
abbrev cX3_alike : ByteArray := prog_5_method_5_code
def yX3_alike : MethodName := ⟨RX3, "alike", "(II)Z"⟩
abbrev cX3_holds : ByteArray := prog_5_method_6_code
def yX3_holds : MethodName := ⟨RX3, "holds", "(III)Z"⟩
abbrev cX3_carry : ByteArray := prog_5_method_7_code
def yX3_carry : MethodName := ⟨RX3, "carry", "(IIIII)V"⟩
abbrev cX3_glideOf : ByteArray := prog_5_method_8_code
def yX3_glideOf : MethodName := ⟨RX3, "glideOf", "(II)I"⟩
def RX4 : String := "IceRun$Sheet"
def TX4 : u_T := fun k => match k with
  | 0 => ("IceRun$Sheet", "came", "[Z", true)
  | 1 => ("IceRun$Sheet", "totals", "[I", true)
  | 2 => ("IceRun$Sheet", "standards", "[I", true)
  | 3 => ("IceRun$Sheet", "times", "[I", true)
  | _ => ("IceRun$Sheet", "doubles", "[I", true)
def tyX4 : Nat → FieldType := fun k => match k with
  | 0 => .array .boolean
  | 1 => .array .int
  | 2 => .array .int
  | 3 => .array .int
  | _ => .array .int
abbrev wsX40 : List Cond := u_ws RX4 TX4 5
theorem nmX4 : ∀ a, a < 5 → ∀ b, b < 5 → a ≠ b → (TX4 a).2.1 ≠ (TX4 b).2.1 := by decide +kernel
theorem tyX4_ok : ∀ k, k < 5 → parseFieldDescriptor (TX4 k).2.2.1 = some (tyX4 k) := by decide +kernel
abbrev cX4_init : ByteArray := prog_6_method_1_code
def yX4_init : MethodName := ⟨RX4, "<init>", "()V"⟩
abbrev cX4_forgetAll : ByteArray := prog_6_method_2_code
def yX4_forgetAll : MethodName := ⟨RX4, "forgetAll", "()V"⟩
abbrev cX4_line : ByteArray := prog_6_method_3_code
def yX4_line : MethodName := ⟨RX4, "line", "(II)I"⟩
abbrev cX4_spot : ByteArray := prog_6_method_4_code
def yX4_spot : MethodName := ⟨RX4, "spot", "(III)I"⟩
abbrev cX4_open : ByteArray := prog_6_method_5_code
def yX4_open : MethodName := ⟨RX4, "open", "(III)V"⟩
abbrev cX4_write : ByteArray := prog_6_method_6_code
def yX4_write : MethodName := ⟨RX4, "write", "(IIIII)V"⟩
abbrev cX4_addUp : ByteArray := prog_6_method_7_code
def yX4_addUp : MethodName := ⟨RX4, "addUp", "(III)V"⟩
abbrev cX4_hasDown : ByteArray := prog_6_method_8_code
def yX4_hasDown : MethodName := ⟨RX4, "hasDown", "(II)Z"⟩
abbrev cX4_timeAt : ByteArray := prog_6_method_9_code
def yX4_timeAt : MethodName := ⟨RX4, "timeAt", "(III)I"⟩
abbrev cX4_doubleAt : ByteArray := prog_6_method_10_code
def yX4_doubleAt : MethodName := ⟨RX4, "doubleAt", "(III)I"⟩
abbrev cX4_totalOf : ByteArray := prog_6_method_11_code
def yX4_totalOf : MethodName := ⟨RX4, "totalOf", "(II)I"⟩
abbrev cX4_iceOf : ByteArray := prog_6_method_12_code
def yX4_iceOf : MethodName := ⟨RX4, "iceOf", "(II)I"⟩
abbrev cX4_lostIn : ByteArray := prog_6_method_13_code
def yX4_lostIn : MethodName := ⟨RX4, "lostIn", "(IIII)I"⟩
abbrev cX4_leastBetween : ByteArray := prog_6_method_14_code
def yX4_leastBetween : MethodName := ⟨RX4, "leastBetween", "(IIII)I"⟩
abbrev cX4_isTimed : ByteArray := prog_6_method_15_code
def yX4_isTimed : MethodName := ⟨RX4, "isTimed", "(III)Z"⟩
def RX5 : String := "IceRun$Sleds"
def TX5 : u_T := fun k => match k with
  | 0 => ("IceRun$Sleds", "many", "I", false)
  | 1 => ("IceRun$Sleds", "team", "[I", true)
  | 2 => ("IceRun$Sleds", "weight", "[I", true)
  | 3 => ("IceRun$Sleds", "kind", "[I", true)
  | 4 => ("IceRun$Sleds", "skill", "[I", true)
  | _ => ("IceRun$Sleds", "points", "[I", true)
def tyX5 : Nat → FieldType := fun k => match k with
  | 0 => .int
  | 1 => .array .int
  | 2 => .array .int
  | 3 => .array .int
  | 4 => .array .int
  | _ => .array .int
abbrev wsX50 : List Cond := u_ws RX5 TX5 6
theorem nmX5 : ∀ a, a < 6 → ∀ b, b < 6 → a ≠ b → (TX5 a).2.1 ≠ (TX5 b).2.1 := by decide +kernel
theorem tyX5_ok : ∀ k, k < 6 → parseFieldDescriptor (TX5 k).2.2.1 = some (tyX5 k) := by decide +kernel
abbrev cX5_init : ByteArray := prog_7_method_1_code
def yX5_init : MethodName := ⟨RX5, "<init>", "()V"⟩
abbrev cX5_add : ByteArray := prog_7_method_2_code
def yX5_add : MethodName := ⟨RX5, "add", "(IIII)I"⟩
abbrev cX5_has : ByteArray := prog_7_method_3_code
def yX5_has : MethodName := ⟨RX5, "has", "(I)Z"⟩
abbrev cX5_listUpTo : ByteArray := prog_7_method_4_code
def yX5_listUpTo : MethodName := ⟨RX5, "listUpTo", "(I[I)I"⟩
abbrev cX5_pointsOfTeam : ByteArray := prog_7_method_5_code
def yX5_pointsOfTeam : MethodName := ⟨RX5, "pointsOfTeam", "(I)I"⟩
def RX6 : String := "IceRun$Standing"
def TX6 : u_T := fun k => match k with
  | 0 => ("IceRun$Standing", "ranked", "[Z", true)
  | 1 => ("IceRun$Standing", "sums", "[I", true)
  | _ => ("IceRun$Standing", "ranks", "[I", true)
def tyX6 : Nat → FieldType := fun k => match k with
  | 0 => .array .boolean
  | 1 => .array .int
  | _ => .array .int
abbrev wsX60 : List Cond := u_ws RX6 TX6 3
theorem nmX6 : ∀ a, a < 3 → ∀ b, b < 3 → a ≠ b → (TX6 a).2.1 ≠ (TX6 b).2.1 := by decide +kernel
theorem tyX6_ok : ∀ k, k < 3 → parseFieldDescriptor (TX6 k).2.2.1 = some (tyX6 k) := by decide +kernel
abbrev cX6_init : ByteArray := prog_8_method_1_code
def yX6_init : MethodName := ⟨RX6, "<init>", "()V"⟩
abbrev cX6_recall : ByteArray := prog_8_method_2_code
def yX6_recall : MethodName := ⟨RX6, "recall", "(LIceRun$Race;I)V"⟩
abbrev cX6_recallSum : ByteArray := prog_8_method_3_code
def yX6_recallSum : MethodName := ⟨RX6, "recallSum", "(LIceRun$Race;II)V"⟩
abbrev cX6_manyBelow : ByteArray := prog_8_method_4_code
def yX6_manyBelow : MethodName := ⟨RX6, "manyBelow", "(I)I"⟩
abbrev cX6_isRanked : ByteArray := prog_8_method_5_code
def yX6_isRanked : MethodName := ⟨RX6, "isRanked", "(I)Z"⟩
abbrev cX6_sumOf : ByteArray := prog_8_method_6_code
def yX6_sumOf : MethodName := ⟨RX6, "sumOf", "(I)I"⟩
abbrev cX6_rankOf : ByteArray := prog_8_method_7_code
def yX6_rankOf : MethodName := ⟨RX6, "rankOf", "(I)I"⟩
abbrev cX6_manyAt : ByteArray := prog_8_method_8_code
def yX6_manyAt : MethodName := ⟨RX6, "manyAt", "(I)I"⟩
abbrev cX6_listByRank : ByteArray := prog_8_method_9_code
def yX6_listByRank : MethodName := ⟨RX6, "listByRank", "([I)I"⟩
def RX7 : String := "IceRun$Tape"
def TX7 : u_T := fun k => match k with
  | 0 => ("IceRun$Tape", "size", "I", false)
  | _ => ("IceRun$Tape", "bytes", "[B", true)
def tyX7 : Nat → FieldType := fun k => match k with
  | 0 => .int
  | _ => .array .byte
abbrev wsX70 : List Cond := u_ws RX7 TX7 2
theorem nmX7 : ∀ a, a < 2 → ∀ b, b < 2 → a ≠ b → (TX7 a).2.1 ≠ (TX7 b).2.1 := by decide +kernel
theorem tyX7_ok : ∀ k, k < 2 → parseFieldDescriptor (TX7 k).2.2.1 = some (tyX7 k) := by decide +kernel
abbrev cX7_init : ByteArray := prog_9_method_1_code
def yX7_init : MethodName := ⟨RX7, "<init>", "()V"⟩
abbrev cX7_append : ByteArray := prog_9_method_2_code
def yX7_append : MethodName := ⟨RX7, "append", "(I)V"⟩
abbrev cX7_byteAt : ByteArray := prog_9_method_3_code
def yX7_byteAt : MethodName := ⟨RX7, "byteAt", "(I)I"⟩
def RX8 : String := "IceRun$Track"
def TX8 : u_T := fun k => match k with
  | 0 => ("IceRun$Track", "cells", "I", false)
  | 1 => ("IceRun$Track", "gates", "I", false)
  | 2 => ("IceRun$Track", "bend", "[I", true)
  | 3 => ("IceRun$Track", "sharp", "[I", true)
  | 4 => ("IceRun$Track", "sun", "[I", true)
  | 5 => ("IceRun$Track", "hardness", "[I", true)
  | 6 => ("IceRun$Track", "rut", "[I", true)
  | 7 => ("IceRun$Track", "gateCell", "[I", true)
  | _ => ("IceRun$Track", "errors", "[I", true)
def tyX8 : Nat → FieldType := fun k => match k with
  | 0 => .int
  | 1 => .int
  | 2 => .array .int
  | 3 => .array .int
  | 4 => .array .int
  | 5 => .array .int
  | 6 => .array .int
  | 7 => .array .int
  | _ => .array .int
abbrev wsX80 : List Cond := u_ws RX8 TX8 9
theorem nmX8 : ∀ a, a < 9 → ∀ b, b < 9 → a ≠ b → (TX8 a).2.1 ≠ (TX8 b).2.1 := by decide +kernel
theorem tyX8_ok : ∀ k, k < 9 → parseFieldDescriptor (TX8 k).2.2.1 = some (tyX8 k) := by decide +kernel
abbrev cX8_init : ByteArray := prog_10_method_1_code
def yX8_init : MethodName := ⟨RX8, "<init>", "()V"⟩
abbrev cX8_makeAnew : ByteArray := prog_10_method_2_code
def yX8_makeAnew : MethodName := ⟨RX8, "makeAnew", "(II)V"⟩
abbrev cX8_hasCell : ByteArray := prog_10_method_3_code
def yX8_hasCell : MethodName := ⟨RX8, "hasCell", "(I)Z"⟩
abbrev cX8_shape : ByteArray := prog_10_method_4_code
def yX8_shape : MethodName := ⟨RX8, "shape", "(IIII)V"⟩
abbrev cX8_look : ByteArray := prog_10_method_5_code
def yX8_look : MethodName := ⟨RX8, "look", "(II)I"⟩
abbrev cX8_soften : ByteArray := prog_10_method_6_code
def yX8_soften : MethodName := ⟨RX8, "soften", "(III)V"⟩
abbrev cX8_pour : ByteArray := prog_10_method_7_code
def yX8_pour : MethodName := ⟨RX8, "pour", "(II)V"⟩
abbrev cX8_wear : ByteArray := prog_10_method_8_code
def yX8_wear : MethodName := ⟨RX8, "wear", "(II)V"⟩
abbrev cX8_timeOf : ByteArray := prog_10_method_9_code
def yX8_timeOf : MethodName := ⟨RX8, "timeOf", "(IIII)I"⟩
abbrev cX8_setEye : ByteArray := prog_10_method_10_code
def yX8_setEye : MethodName := ⟨RX8, "setEye", "(III)V"⟩
abbrev cX8_timeAtGate : ByteArray := prog_10_method_11_code
def yX8_timeAtGate : MethodName := ⟨RX8, "timeAtGate", "(II)I"⟩
abbrev cX8_doubleAtGate : ByteArray := prog_10_method_12_code
def yX8_doubleAtGate : MethodName := ⟨RX8, "doubleAtGate", "(I)I"⟩
def RX9 : String := "IceRun$Word"
def TX9 : u_T := fun k => match k with
  | _ => ("", "", "", false)
def tyX9 : Nat → FieldType := fun k => match k with
  | _ => .int
abbrev wsX90 : List Cond := u_ws RX9 TX9 0
theorem nmX9 : ∀ a, a < 0 → ∀ b, b < 0 → a ≠ b → (TX9 a).2.1 ≠ (TX9 b).2.1 := by decide +kernel
theorem tyX9_ok : ∀ k, k < 0 → parseFieldDescriptor (TX9 k).2.2.1 = some (tyX9 k) := by decide +kernel
def RX10 : String := "IceRun"
def TX10 : u_T := fun k => match k with
  | 0 => ("IceRun", "track", "LIceRun$Track;", true)
  | 1 => ("IceRun", "rows", "LIceRun$Rows;", true)
  | 2 => ("IceRun", "sleds", "LIceRun$Sleds;", true)
  | 3 => ("IceRun", "tape", "LIceRun$Tape;", true)
  | 4 => ("IceRun", "book", "LIceRun$LawBook;", true)
  | 5 => ("IceRun", "race", "LIceRun$Race;", true)
  | 6 => ("IceRun", "standing", "LIceRun$Standing;", true)
  | _ => ("IceRun", "racesClosed", "I", false)
def tyX10 : Nat → FieldType := fun k => match k with
  | 0 => .object "IceRun$Track"
  | 1 => .object "IceRun$Rows"
  | 2 => .object "IceRun$Sleds"
  | 3 => .object "IceRun$Tape"
  | 4 => .object "IceRun$LawBook"
  | 5 => .object "IceRun$Race"
  | 6 => .object "IceRun$Standing"
  | _ => .int
abbrev wsX100 : List Cond := u_ws RX10 TX10 8
theorem nmX10 : ∀ a, a < 8 → ∀ b, b < 8 → a ≠ b → (TX10 a).2.1 ≠ (TX10 b).2.1 := by decide +kernel
theorem tyX10_ok : ∀ k, k < 8 → parseFieldDescriptor (TX10 k).2.2.1 = some (tyX10 k) := by decide +kernel
abbrev cX10_init : ByteArray := prog_1_method_1_code
def yX10_init : MethodName := ⟨RX10, "<init>", "()V"⟩
abbrev cX10_track : ByteArray := prog_1_method_2_code
def yX10_track : MethodName := ⟨RX10, "track", "(II)Z"⟩
abbrev cX10_bend : ByteArray := prog_1_method_3_code
def yX10_bend : MethodName := ⟨RX10, "bend", "(IIII)Z"⟩
abbrev cX10_runners : ByteArray := prog_1_method_4_code
def yX10_runners : MethodName := ⟨RX10, "runners", "(IIIII)Z"⟩
abbrev cX10_copy : ByteArray := prog_1_method_5_code
def yX10_copy : MethodName := ⟨RX10, "copy", "(IIIII)I"⟩
abbrev cX10_glide : ByteArray := prog_1_method_6_code
def yX10_glide : MethodName := ⟨RX10, "glide", "(II)I"⟩
abbrev cX10_weather : ByteArray := prog_1_method_7_code
def yX10_weather : MethodName := ⟨RX10, "weather", "(III)Z"⟩
abbrev cX10_water : ByteArray := prog_1_method_8_code
def yX10_water : MethodName := ⟨RX10, "water", "(II)Z"⟩
abbrev cX10_cell : ByteArray := prog_1_method_9_code
def yX10_cell : MethodName := ⟨RX10, "cell", "(II)I"⟩
abbrev cX10_standard : ByteArray := prog_1_method_10_code
def yX10_standard : MethodName := ⟨RX10, "standard", "()I"⟩
abbrev cX10_eye : ByteArray := prog_1_method_11_code
def yX10_eye : MethodName := ⟨RX10, "eye", "(III)Z"⟩
abbrev cX10_sled : ByteArray := prog_1_method_12_code
def yX10_sled : MethodName := ⟨RX10, "sled", "(IIII)I"⟩
abbrev cX10_feed : ByteArray := prog_1_method_13_code
def yX10_feed : MethodName := ⟨RX10, "feed", "(IIIII)I"⟩
abbrev cX10_end : ByteArray := prog_1_method_14_code
def yX10_end : MethodName := ⟨RX10, "end", "(I)I"⟩
abbrev cX10_laws : ByteArray := prog_1_method_15_code
def yX10_laws : MethodName := ⟨RX10, "laws", "()I"⟩
abbrev cX10_place : ByteArray := prog_1_method_16_code
def yX10_place : MethodName := ⟨RX10, "place", "()I"⟩
abbrev cX10_law : ByteArray := prog_1_method_17_code
def yX10_law : MethodName := ⟨RX10, "law", "(I)I"⟩
abbrev cX10_race : ByteArray := prog_1_method_18_code
def yX10_race : MethodName := ⟨RX10, "race", "()Z"⟩
abbrev cX10_begin : ByteArray := prog_1_method_19_code
def yX10_begin : MethodName := ⟨RX10, "begin", "(I)I"⟩
abbrev cX10_order : ByteArray := prog_1_method_20_code
def yX10_order : MethodName := ⟨RX10, "order", "(I)I"⟩
abbrev cX10_start : ByteArray := prog_1_method_21_code
def yX10_start : MethodName := ⟨RX10, "start", "()I"⟩
abbrev cX10_shut : ByteArray := prog_1_method_22_code
def yX10_shut : MethodName := ⟨RX10, "shut", "()I"⟩
abbrev cX10_touch : ByteArray := prog_1_method_23_code
def yX10_touch : MethodName := ⟨RX10, "touch", "(II)Z"⟩
abbrev cX10_time : ByteArray := prog_1_method_24_code
def yX10_time : MethodName := ⟨RX10, "time", "(III)I"⟩
abbrev cX10_twice : ByteArray := prog_1_method_25_code
def yX10_twice : MethodName := ⟨RX10, "twice", "(III)I"⟩
abbrev cX10_sum : ByteArray := prog_1_method_26_code
def yX10_sum : MethodName := ⟨RX10, "sum", "(II)I"⟩
abbrev cX10_rank : ByteArray := prog_1_method_27_code
def yX10_rank : MethodName := ⟨RX10, "rank", "(II)I"⟩
abbrev cX10_ice : ByteArray := prog_1_method_28_code
def yX10_ice : MethodName := ⟨RX10, "ice", "(II)I"⟩
abbrev cX10_lost : ByteArray := prog_1_method_29_code
def yX10_lost : MethodName := ⟨RX10, "lost", "(III)I"⟩
abbrev cX10_close : ByteArray := prog_1_method_30_code
def yX10_close : MethodName := ⟨RX10, "close", "()I"⟩
abbrev cX10_points : ByteArray := prog_1_method_31_code
def yX10_points : MethodName := ⟨RX10, "points", "(II)I"⟩
abbrev cX10_count : ByteArray := prog_1_method_32_code
def yX10_count : MethodName := ⟨RX10, "count", "(I)I"⟩
abbrev cX10_within : ByteArray := prog_1_method_33_code
def yX10_within : MethodName := ⟨RX10, "within", "(III)Z"⟩
abbrev cX10_isShown : ByteArray := prog_1_method_34_code
def yX10_isShown : MethodName := ⟨RX10, "isShown", "(III)Z"⟩
abbrev cX10_timeInCell : ByteArray := prog_1_method_35_code
def yX10_timeInCell : MethodName := ⟨RX10, "timeInCell", "(IIII)I"⟩
abbrev cX10_standardNow : ByteArray := prog_1_method_36_code
def yX10_standardNow : MethodName := ⟨RX10, "standardNow", "()I"⟩
abbrev cX10_beginFirst : ByteArray := prog_1_method_37_code
def yX10_beginFirst : MethodName := ⟨RX10, "beginFirst", "(I)I"⟩
abbrev cX10_beginLater : ByteArray := prog_1_method_38_code
def yX10_beginLater : MethodName := ⟨RX10, "beginLater", "()I"⟩
abbrev cX10_comeDown : ByteArray := prog_1_method_39_code
def yX10_comeDown : MethodName := ⟨RX10, "comeDown", "(II)V"⟩
abbrev cX10_ride : ByteArray := prog_1_method_40_code
def yX10_ride : MethodName := ⟨RX10, "ride", "(III)I"⟩
abbrev cX10_givePoints : ByteArray := prog_1_method_41_code
def yX10_givePoints : MethodName := ⟨RX10, "givePoints", "()I"⟩
abbrev cX10_sharedPoints : ByteArray := prog_1_method_42_code
def yX10_sharedPoints : MethodName := ⟨RX10, "sharedPoints", "(II)I"⟩
abbrev cX10_pointsOfPlace : ByteArray := prog_1_method_43_code
def yX10_pointsOfPlace : MethodName := ⟨RX10, "pointsOfPlace", "(I)I"⟩
def RX11 : String := "IceRunModel"
def TX11 : u_T := fun k => match k with
  | 0 => ("IceRunModel", "thrown", "I", false)
  | 1 => ("IceRunModel", "cells", "I", false)
  | 2 => ("IceRunModel", "gates", "I", false)
  | 3 => ("IceRunModel", "bend", "[I", true)
  | 4 => ("IceRunModel", "sharp", "[I", true)
  | 5 => ("IceRunModel", "sun", "[I", true)
  | 6 => ("IceRunModel", "hard", "[I", true)
  | 7 => ("IceRunModel", "rut", "[I", true)
  | 8 => ("IceRunModel", "gateAt", "[I", true)
  | 9 => ("IceRunModel", "error", "[I", true)
  | 10 => ("IceRunModel", "rowSort", "[I", true)
  | 11 => ("IceRunModel", "rowMany", "[I", true)
  | 12 => ("IceRunModel", "row", "[I", true)
  | 13 => ("IceRunModel", "sleds", "I", false)
  | 14 => ("IceRunModel", "team", "[I", true)
  | 15 => ("IceRunModel", "weight", "[I", true)
  | 16 => ("IceRunModel", "kindOf", "[I", true)
  | 17 => ("IceRunModel", "skill", "[I", true)
  | 18 => ("IceRunModel", "points", "[I", true)
  | 19 => ("IceRunModel", "law", "[I", true)
  | 20 => ("IceRunModel", "told", "[I", true)
  | 21 => ("IceRunModel", "tape", "[B", true)
  | 22 => ("IceRunModel", "taped", "I", false)
  | 23 => ("IceRunModel", "place", "I", false)
  | 24 => ("IceRunModel", "at", "I", false)
  | 25 => ("IceRunModel", "over", "I", false)
  | 26 => ("IceRunModel", "isRace", "Z", false)
  | 27 => ("IceRunModel", "runs", "I", false)
  | 28 => ("IceRunModel", "state", "[I", true)
  | 29 => ("IceRunModel", "order", "[I", true)
  | 30 => ("IceRunModel", "orderMany", "I", false)
  | 31 => ("IceRunModel", "came", "I", false)
  | 32 => ("IceRunModel", "entered", "[Z", true)
  | 33 => ("IceRunModel", "isDown", "[Z", true)
  | 34 => ("IceRunModel", "times", "[I", true)
  | 35 => ("IceRunModel", "doubles", "[I", true)
  | 36 => ("IceRunModel", "total", "[I", true)
  | 37 => ("IceRunModel", "standardOf", "[I", true)
  | 38 => ("IceRunModel", "event", "[I", true)
  | 39 => ("IceRunModel", "events", "I", false)
  | 40 => ("IceRunModel", "closed", "I", false)
  | _ => ("IceRunModel", "left", "[I", true)
def tyX11 : Nat → FieldType := fun k => match k with
  | 0 => .int
  | 1 => .int
  | 2 => .int
  | 3 => .array .int
  | 4 => .array .int
  | 5 => .array .int
  | 6 => .array .int
  | 7 => .array .int
  | 8 => .array .int
  | 9 => .array .int
  | 10 => .array .int
  | 11 => .array .int
  | 12 => .array .int
  | 13 => .int
  | 14 => .array .int
  | 15 => .array .int
  | 16 => .array .int
  | 17 => .array .int
  | 18 => .array .int
  | 19 => .array .int
  | 20 => .array .int
  | 21 => .array .byte
  | 22 => .int
  | 23 => .int
  | 24 => .int
  | 25 => .int
  | 26 => .boolean
  | 27 => .int
  | 28 => .array .int
  | 29 => .array .int
  | 30 => .int
  | 31 => .int
  | 32 => .array .boolean
  | 33 => .array .boolean
  | 34 => .array .int
  | 35 => .array .int
  | 36 => .array .int
  | 37 => .array .int
  | 38 => .array .int
  | 39 => .int
  | 40 => .int
  | _ => .array .int
abbrev wsX110 : List Cond := u_ws RX11 TX11 42
theorem nmX11 : ∀ a, a < 42 → ∀ b, b < 42 → a ≠ b → (TX11 a).2.1 ≠ (TX11 b).2.1 := by decide +kernel
theorem tyX11_ok : ∀ k, k < 42 → parseFieldDescriptor (TX11 k).2.2.1 = some (tyX11 k) := by decide +kernel
abbrev cX11_init : ByteArray := prog_13_method_1_code
def yX11_init : MethodName := ⟨RX11, "<init>", "()V"⟩
abbrev cX11_thrown : ByteArray := prog_13_method_2_code
def yX11_thrown : MethodName := ⟨RX11, "thrown", "()I"⟩
abbrev cX11_within : ByteArray := prog_13_method_3_code
def yX11_within : MethodName := ⟨RX11, "within", "(III)Z"⟩
abbrev cX11_track : ByteArray := prog_13_method_4_code
def yX11_track : MethodName := ⟨RX11, "track", "(II)Z"⟩
abbrev cX11_isCell : ByteArray := prog_13_method_5_code
def yX11_isCell : MethodName := ⟨RX11, "isCell", "(I)Z"⟩
abbrev cX11_bend : ByteArray := prog_13_method_6_code
def yX11_bend : MethodName := ⟨RX11, "bend", "(IIII)Z"⟩
abbrev cX11_bounded : ByteArray := prog_13_method_7_code
def yX11_bounded : MethodName := ⟨RX11, "bounded", "(III)I"⟩
abbrev cX11_weather : ByteArray := prog_13_method_8_code
def yX11_weather : MethodName := ⟨RX11, "weather", "(III)Z"⟩
abbrev cX11_water : ByteArray := prog_13_method_9_code
def yX11_water : MethodName := ⟨RX11, "water", "(II)Z"⟩
abbrev cX11_cell : ByteArray := prog_13_method_10_code
def yX11_cell : MethodName := ⟨RX11, "cell", "(II)I"⟩
abbrev cX11_eye : ByteArray := prog_13_method_11_code
def yX11_eye : MethodName := ⟨RX11, "eye", "(III)Z"⟩
abbrev cX11_runners : ByteArray := prog_13_method_12_code
def yX11_runners : MethodName := ⟨RX11, "runners", "(IIIII)Z"⟩
abbrev cX11_copy : ByteArray := prog_13_method_13_code
def yX11_copy : MethodName := ⟨RX11, "copy", "(IIIII)I"⟩
abbrev cX11_glideOf : ByteArray := prog_13_method_14_code
def yX11_glideOf : MethodName := ⟨RX11, "glideOf", "(II)I"⟩
abbrev cX11_glide : ByteArray := prog_13_method_15_code
def yX11_glide : MethodName := ⟨RX11, "glide", "(II)I"⟩
abbrev cX11_sled : ByteArray := prog_13_method_16_code
def yX11_sled : MethodName := ⟨RX11, "sled", "(IIII)I"⟩
abbrev cX11_timeOf : ByteArray := prog_13_method_17_code
def yX11_timeOf : MethodName := ⟨RX11, "timeOf", "(IIII)I"⟩
abbrev cX11_standard : ByteArray := prog_13_method_18_code
def yX11_standard : MethodName := ⟨RX11, "standard", "()I"⟩
abbrev cX11_normal : ByteArray := prog_13_method_19_code
def yX11_normal : MethodName := ⟨RX11, "normal", "()V"⟩
abbrev cX11_takes : ByteArray := prog_13_method_20_code
def yX11_takes : MethodName := ⟨RX11, "takes", "()V"⟩
abbrev cX11_feed : ByteArray := prog_13_method_21_code
def yX11_feed : MethodName := ⟨RX11, "feed", "(IIIII)I"⟩
abbrev cX11_end : ByteArray := prog_13_method_22_code
def yX11_end : MethodName := ⟨RX11, "end", "(I)I"⟩
abbrev cX11_byteAt : ByteArray := prog_13_method_23_code
def yX11_byteAt : MethodName := ⟨RX11, "byteAt", "(I)I"⟩
abbrev cX11_isSmall : ByteArray := prog_13_method_24_code
def yX11_isSmall : MethodName := ⟨RX11, "isSmall", "(I)Z"⟩
abbrev cX11_isDigit : ByteArray := prog_13_method_25_code
def yX11_isDigit : MethodName := ⟨RX11, "isDigit", "(I)Z"⟩
abbrev cX11_token : ByteArray := prog_13_method_26_code
def yX11_token : MethodName := ⟨RX11, "token", "()V"⟩
abbrev cX11_is : ByteArray := prog_13_method_27_code
def yX11_is : MethodName := ⟨RX11, "is", "(Ljava/lang/String;)Z"⟩
abbrev cX11_fault : ByteArray := prog_13_method_28_code
def yX11_fault : MethodName := ⟨RX11, "fault", "(I)I"⟩
abbrev cX11_lawAtHand : ByteArray := prog_13_method_29_code
def yX11_lawAtHand : MethodName := ⟨RX11, "lawAtHand", "()I"⟩
abbrev cX11_least : ByteArray := prog_13_method_30_code
def yX11_least : MethodName := ⟨RX11, "least", "(I)I"⟩
abbrev cX11_most : ByteArray := prog_13_method_31_code
def yX11_most : MethodName := ⟨RX11, "most", "(I)I"⟩
abbrev cX11_one : ByteArray := prog_13_method_32_code
def yX11_one : MethodName := ⟨RX11, "one", "()I"⟩
abbrev cX11_laws : ByteArray := prog_13_method_33_code
def yX11_laws : MethodName := ⟨RX11, "laws", "()I"⟩
abbrev cX11_place : ByteArray := prog_13_method_34_code
def yX11_place : MethodName := ⟨RX11, "place", "()I"⟩
abbrev cX11_law : ByteArray := prog_13_method_35_code
def yX11_law : MethodName := ⟨RX11, "law", "(I)I"⟩
abbrev cX11_isOn : ByteArray := prog_13_method_36_code
def yX11_isOn : MethodName := ⟨RX11, "isOn", "()Z"⟩
abbrev cX11_race : ByteArray := prog_13_method_37_code
def yX11_race : MethodName := ⟨RX11, "race", "()Z"⟩
abbrev cX11_clears : ByteArray := prog_13_method_38_code
def yX11_clears : MethodName := ⟨RX11, "clears", "()V"⟩
abbrev cX11_isEntered : ByteArray := prog_13_method_39_code
def yX11_isEntered : MethodName := ⟨RX11, "isEntered", "(I)Z"⟩
abbrev cX11_begin : ByteArray := prog_13_method_40_code
def yX11_begin : MethodName := ⟨RX11, "begin", "(I)I"⟩
abbrev cX11_draws : ByteArray := prog_13_method_41_code
def yX11_draws : MethodName := ⟨RX11, "draws", "(II)V"⟩
abbrev cX11_turns : ByteArray := prog_13_method_42_code
def yX11_turns : MethodName := ⟨RX11, "turns", "(I)V"⟩
abbrev cX11_order : ByteArray := prog_13_method_43_code
def yX11_order : MethodName := ⟨RX11, "order", "(I)I"⟩
abbrev cX11_start : ByteArray := prog_13_method_44_code
def yX11_start : MethodName := ⟨RX11, "start", "()I"⟩
abbrev cX11_passes : ByteArray := prog_13_method_45_code
def yX11_passes : MethodName := ⟨RX11, "passes", "(III)V"⟩
abbrev cX11_shut : ByteArray := prog_13_method_46_code
def yX11_shut : MethodName := ⟨RX11, "shut", "()I"⟩
abbrev cX11_touch : ByteArray := prog_13_method_47_code
def yX11_touch : MethodName := ⟨RX11, "touch", "(II)Z"⟩
abbrev cX11_isStruck : ByteArray := prog_13_method_48_code
def yX11_isStruck : MethodName := ⟨RX11, "isStruck", "(II)Z"⟩
abbrev cX11_hasCome : ByteArray := prog_13_method_49_code
def yX11_hasCome : MethodName := ⟨RX11, "hasCome", "(II)Z"⟩
abbrev cX11_time : ByteArray := prog_13_method_50_code
def yX11_time : MethodName := ⟨RX11, "time", "(III)I"⟩
abbrev cX11_twice : ByteArray := prog_13_method_51_code
def yX11_twice : MethodName := ⟨RX11, "twice", "(III)I"⟩
abbrev cX11_sumOf : ByteArray := prog_13_method_52_code
def yX11_sumOf : MethodName := ⟨RX11, "sumOf", "(II)I"⟩
abbrev cX11_isRanked : ByteArray := prog_13_method_53_code
def yX11_isRanked : MethodName := ⟨RX11, "isRanked", "(II)Z"⟩
abbrev cX11_rankOf : ByteArray := prog_13_method_54_code
def yX11_rankOf : MethodName := ⟨RX11, "rankOf", "(II)I"⟩
abbrev cX11_sum : ByteArray := prog_13_method_55_code
def yX11_sum : MethodName := ⟨RX11, "sum", "(II)I"⟩
abbrev cX11_rank : ByteArray := prog_13_method_56_code
def yX11_rank : MethodName := ⟨RX11, "rank", "(II)I"⟩
abbrev cX11_ice : ByteArray := prog_13_method_57_code
def yX11_ice : MethodName := ⟨RX11, "ice", "(II)I"⟩
abbrev cX11_timeAt : ByteArray := prog_13_method_58_code
def yX11_timeAt : MethodName := ⟨RX11, "timeAt", "(III)I"⟩
abbrev cX11_lost : ByteArray := prog_13_method_59_code
def yX11_lost : MethodName := ⟨RX11, "lost", "(III)I"⟩
abbrev cX11_pointsOf : ByteArray := prog_13_method_60_code
def yX11_pointsOf : MethodName := ⟨RX11, "pointsOf", "(I)I"⟩
abbrev cX11_close : ByteArray := prog_13_method_61_code
def yX11_close : MethodName := ⟨RX11, "close", "()I"⟩
abbrev cX11_points : ByteArray := prog_13_method_62_code
def yX11_points : MethodName := ⟨RX11, "points", "(II)I"⟩
abbrev cX11_count : ByteArray := prog_13_method_63_code
def yX11_count : MethodName := ⟨RX11, "count", "(I)I"⟩
def RJx29ce0 : String := "java/lang/Enum"
def TJx29ce0 : u_T := fun k => match k with
  | _ => ("", "", "", false)
def tyJx29ce0 : Nat → FieldType := fun k => match k with
  | _ => .int
abbrev wsJx29ce00 : List Cond := u_ws RJx29ce0 TJx29ce0 0
theorem nmJx29ce0 : ∀ a, a < 0 → ∀ b, b < 0 → a ≠ b → (TJx29ce0 a).2.1 ≠ (TJx29ce0 b).2.1 := by decide +kernel
theorem tyJx29ce0_ok : ∀ k, k < 0 → parseFieldDescriptor (TJx29ce0 k).2.2.1 = some (tyJx29ce0 k) := by decide +kernel
def RJ9 : String := "java/lang/Math"
def TJ9 : u_T := fun k => match k with
  | _ => ("", "", "", false)
def tyJ9 : Nat → FieldType := fun k => match k with
  | _ => .int
abbrev wsJ90 : List Cond := u_ws RJ9 TJ9 0
theorem nmJ9 : ∀ a, a < 0 → ∀ b, b < 0 → a ≠ b → (TJ9 a).2.1 ≠ (TJ9 b).2.1 := by decide +kernel
theorem tyJ9_ok : ∀ k, k < 0 → parseFieldDescriptor (TJ9 k).2.2.1 = some (tyJ9 k) := by decide +kernel
abbrev cJ9_abs_0f7a4 : ByteArray := prog_16_method_59_code
def yJ9_abs_0f7a4 : MethodName := ⟨RJ9, "abs", "(I)I"⟩
abbrev cJ9_max_7cf53 : ByteArray := prog_16_method_65_code
def yJ9_max_7cf53 : MethodName := ⟨RJ9, "max", "(II)I"⟩
abbrev cJ9_min_7cf53 : ByteArray := prog_16_method_69_code
def yJ9_min_7cf53 : MethodName := ⟨RJ9, "min", "(II)I"⟩
def RJ0 : String := "java/lang/String"
def TJ0 : u_T := fun k => match k with
  | _ => ("", "", "", false)
def tyJ0 : Nat → FieldType := fun k => match k with
  | _ => .int
abbrev wsJ00 : List Cond := u_ws RJ0 TJ0 0
theorem nmJ0 : ∀ a, a < 0 → ∀ b, b < 0 → a ≠ b → (TJ0 a).2.1 ≠ (TJ0 b).2.1 := by decide +kernel
theorem tyJ0_ok : ∀ k, k < 0 → parseFieldDescriptor (TJ0 k).2.2.1 = some (tyJ0 k) := by decide +kernel
abbrev cJ0_length_8abf5 : ByteArray := prog_18_method_54_code
def yJ0_length_8abf5 : MethodName := ⟨RJ0, "length", "()I"⟩
abbrev cJ0_charAt_5068e : ByteArray := prog_18_method_56_code
def yJ0_charAt_5068e : MethodName := ⟨RJ0, "charAt", "(I)C"⟩
abbrev cJ0_coder_7d493 : ByteArray := prog_18_method_152_code
def yJ0_coder_7d493 : MethodName := ⟨RJ0, "coder", "()B"⟩
abbrev cJ0_isLatin1_aae02 : ByteArray := prog_18_method_154_code
def yJ0_isLatin1_aae02 : MethodName := ⟨RJ0, "isLatin1", "()Z"⟩
abbrev cJ0_checkIndex_df160 : ByteArray := prog_18_method_155_code
def yJ0_checkIndex_df160 : MethodName := ⟨RJ0, "checkIndex", "(II)V"⟩
def RJ1 : String := "java/lang/StringLatin1"
def TJ1 : u_T := fun k => match k with
  | _ => ("", "", "", false)
def tyJ1 : Nat → FieldType := fun k => match k with
  | _ => .int
abbrev wsJ10 : List Cond := u_ws RJ1 TJ1 0
theorem nmJ1 : ∀ a, a < 0 → ∀ b, b < 0 → a ≠ b → (TJ1 a).2.1 ≠ (TJ1 b).2.1 := by decide +kernel
theorem tyJ1_ok : ∀ k, k < 0 → parseFieldDescriptor (TJ1 k).2.2.1 = some (tyJ1 k) := by decide +kernel
abbrev cJ1_charAt_3b067 : ByteArray := prog_19_method_2_code
def yJ1_charAt_3b067 : MethodName := ⟨RJ1, "charAt", "([BI)C"⟩
def RJ2 : String := "java/lang/StringUTF16"
def TJ2 : u_T := fun k => match k with
  | _ => ("", "", "", false)
def tyJ2 : Nat → FieldType := fun k => match k with
  | _ => .int
abbrev wsJ20 : List Cond := u_ws RJ2 TJ2 0
theorem nmJ2 : ∀ a, a < 0 → ∀ b, b < 0 → a ≠ b → (TJ2 a).2.1 ≠ (TJ2 b).2.1 := by decide +kernel
theorem tyJ2_ok : ∀ k, k < 0 → parseFieldDescriptor (TJ2 k).2.2.1 = some (tyJ2 k) := by decide +kernel
abbrev cJ2_getChar_3b067 : ByteArray := prog_20_method_5_code
def yJ2_getChar_3b067 : MethodName := ⟨RJ2, "getChar", "([BI)C"⟩
abbrev cJ2_length_9d52b : ByteArray := prog_20_method_6_code
def yJ2_length_9d52b : MethodName := ⟨RJ2, "length", "([B)I"⟩
abbrev cJ2_charAt_3b067 : ByteArray := prog_20_method_83_code
def yJ2_charAt_3b067 : MethodName := ⟨RJ2, "charAt", "([BI)C"⟩
abbrev cJ2_checkIndex_2214a : ByteArray := prog_20_method_91_code
def yJ2_checkIndex_2214a : MethodName := ⟨RJ2, "checkIndex", "(I[B)V"⟩
def RJ10 : String := "java/lang/System"
def TJ10 : u_T := fun k => match k with
  | _ => ("", "", "", false)
def tyJ10 : Nat → FieldType := fun k => match k with
  | _ => .int
abbrev wsJ100 : List Cond := u_ws RJ10 TJ10 0
theorem nmJ10 : ∀ a, a < 0 → ∀ b, b < 0 → a ≠ b → (TJ10 a).2.1 ≠ (TJ10 b).2.1 := by decide +kernel
theorem tyJ10_ok : ∀ k, k < 0 → parseFieldDescriptor (TJ10 k).2.2.1 = some (tyJ10 k) := by decide +kernel
def RJ3 : String := "jdk/internal/util/Preconditions"
def TJ3 : u_T := fun k => match k with
  | _ => ("", "", "", false)
def tyJ3 : Nat → FieldType := fun k => match k with
  | _ => .int
abbrev wsJ30 : List Cond := u_ws RJ3 TJ3 0
theorem nmJ3 : ∀ a, a < 0 → ∀ b, b < 0 → a ≠ b → (TJ3 a).2.1 ≠ (TJ3 b).2.1 := by decide +kernel
theorem tyJ3_ok : ∀ k, k < 0 → parseFieldDescriptor (TJ3 k).2.2.1 = some (tyJ3 k) := by decide +kernel
abbrev cJ3_checkIndex_8e157 : ByteArray := prog_24_method_11_code
def yJ3_checkIndex_8e157 : MethodName := ⟨RJ3, "checkIndex", "(IILjava/util/function/BiFunction;)I"⟩
def RL : String := "IceRunLaw"
abbrev cL_glide : ByteArray := method_3_code
def yL_glide : MethodName := ⟨RL, "glide", "(LIceRun;II[J)I"⟩
abbrev cL_ice : ByteArray := method_4_code
def yL_ice : MethodName := ⟨RL, "ice", "(LIceRun;II[J)I"⟩
abbrev cL_law : ByteArray := code
def yL_law : MethodName := ⟨RL, "law", "([I)Z"⟩
abbrev vwCl : List vw_C := [(RX0, TX0, 3), (RX1, TX1, 5), (RX2, TX2, 14), (RX3, TX3, 3), (RX4, TX4, 5), (RX5, TX5, 6), (RX6, TX6, 3), (RX7, TX7, 2), (RX8, TX8, 9), (RX10, TX10, 8), (RX11, TX11, 42)]
end
section
/-! ===== BEGIN exceptions that leave a method, and their catching by the caller (launches without stack traces) ===== -/
section VXA
/-! The laws vx_back, vx_callV, vx_callS, vx_callSW, vx_throw0, vx_throwS follow proofs of the library, with one case more: JvmDerived/Free/Laws.lean (Back.of_free), Shelf42/LK1.lean (callV, callS), Shelf/KitTraced.lean (throwNew0V, throwNewS). -/
/-- where a method has thrown q: the class by its name, the cell, what was written, the world -/
def vx_T (XC : String → State → State → Prop) (st : State) (q : Addr) (t : State) (mc ms : Nat) (free : Addr → Prop) : Prop :=
  ∃ (E : String) (ce : Cell) (L : List Loc), XC E st t ∧ t.heap[q]? = some ce ∧ ce.vm = .none ∧ st.vm.findClass E = some ce.cls ∧ st.WarmedH t.vm ∧ st.sameButNew ({ t with vm := st.vm } : State) L mc ms ∧ ∀ z ∈ L, free z.base
def vx_Q (Qc : Array Value → State → Outcome → State → Prop) (XC : String → State → State → Prop) (mc ms : Nat) (free : Addr → Prop) : Array Value → State → Outcome → State → Prop := fun a st o t =>
  (Qc a st o t ∧ ∃ L, FrameEnd st o t L mc ms ∧ ∀ q ∈ L, free q.base) ∨ ∃ q, o = .threw q ∧ vx_T XC st q t mc ms free
/-- a callee that returns or throws -/
def vx_Met (l : Launch) (y : MethodName) (ws : List Cond) (rm : Room) (Pc : Array Value → State → Prop) (Qc : Array Value → State → Outcome → State → Prop) (XC : String → State → State → Prop) (mc ms : Nat) (free : Addr → Prop) : Prop :=
  MetFree l y (headSpec ws rm) Pc (fun _ _ _ _ _ => True) (vx_Q Qc XC mc ms free)
def vx_Post (XC : String → State → State → Prop) (mc ms : Nat) (free : Addr → Prop) : Pt → Array Value → Addr → Pt → Prop := fun A a q B =>
  ∃ (g : JFrame) (mk : MethodId) (t : State) (L : List Loc) (E : String) (ce : Cell), B.U.heap = t.heap ∧ B.U.vm = t.vm ∧ XC E (A.U.calling g mk a) t ∧ t.heap[q]? = some ce ∧ ce.vm = .none ∧ A.U.vm.findClass E = some ce.cls ∧ B.locs = A.locs ++ L ∧ (∀ z ∈ L, free z.base) ∧ B.cells = A.cells + mc ∧ B.slots = A.slots + ms
def vx_Back (l : Launch) (R : Room) (p : Program) (e : Env) (below : List Frame) (s : State) (sargs : Array Value) (y : MethodName) (len W9 : Nat)
    (Pre : Pt → Array Value → Prop) (Post : Pt → Array Value → Option Value → Pt → Prop) (PostX : Pt → Array Value → Addr → Pt → Prop) : Prop :=
  ∀ (m : MethodId) (meth : Method) (c : Code) (A : Pt) (g : JFrame) (ig : Instr) (mk : MethodId) (a : Array Value),
    Stand p l e R s m sargs below meth c A.U A.locs A.cells A.slots → g.method = m → g.locals.size = c.maxLocals → decode c.code g.pc = .ok (ig, len) →
    2 * g.monitorRoom + (g.stack.map fun v => v.category).sum ≤ W9 → A.U.methodNamed? y = some mk → Pre A a →
    (∃ (v : Option Value) (B : Pt), Stand p l e R s m sargs below meth c B.U B.locs B.cells B.slots ∧ Post A a v B ∧
      Steps p.tables e below (doInvoke e (A.U.setTop g) [] mk a).1 (B.U.setTop { g with pc := g.pc + len, stack := v.toList ++ g.stack })) ∨
    (∃ (q : Addr) (B : Pt), Stand p l e R s m sargs below meth c B.U B.locs B.cells B.slots ∧ PostX A a q B ∧
      Steps p.tables e below (doInvoke e (A.U.setTop g) [] mk a).1 ((B.U.setTop g).pushFrame (.throwing q)))
section Payer
variable {l : Launch} {R : Room} {p : Program} {e : Env} {below : List Frame} {s : State} {sargs : Array Value} {y : MethodName} {len W9 : Nat}
theorem vx_back {ws : List Cond} {rm : Room} {Pc : Array Value → State → Prop} {Qc : Array Value → State → Outcome → State → Prop} {XC : String → State → State → Prop} {mc ms : Nat} {free : Addr → Prop} {bytes : ByteArray} {maxL : Nat} {ret : Option FieldType}
    (hM : vx_Met l y ws rm Pc Qc XC mc ms free) (hblind : FrameBlind Pc) (hrc : rm.cells = mc) (hrs : rm.slots = ms)
    (hframes : rm.frames + 1 ≤ R.frames) (hlocals : W9 + (maxL + 11) + rm.locals ≤ R.locals)
    (hws : ∀ w ∈ ws, ∀ a' U, s.WarmedH U.vm → w.before a' U = true) (hcode : Cond.code y bytes maxL ret ∈ ws) (hinit : ∀ a' U, s.WarmedH U.vm → (Cond.initialized y.cls).before a' U = true) :
    vx_Back l R p e below s sargs y len W9 (PreOf R mc ms Pc) (PostOf Qc mc ms free) (vx_Post XC mc ms free) := by
  intro m meth c A g ig mk a X hg hsize hdg hW hn hp
  have h1 : (headSpec ws rm).pre.before a A.U = true := atoms_intro fun w hw => hws w hw _ _ X.warmed
  have h2 : (Cond.code y bytes maxL ret).before a A.U = true := hws _ hcode _ _ X.warmed
  have h3 : (Cond.initialized y.cls).before a A.U = true := hinit _ _ X.warmed
  have h4 : A.cells + (headSpec ws rm).room.cells ≤ R.cells := by rw [show (headSpec ws rm).room.cells = mc from hrc]; exact hp.1
  have h5 : A.slots + (headSpec ws rm).room.slots ≤ R.slots := by rw [show (headSpec ws rm).room.slots = ms from hrs]; exact hp.2.1
  have hPc : Pc a (A.U.calling g mk a) := hblind _ _ _ _ hp.2.2
  obtain ⟨U, Ls, c0, s0⟩ := A
  dsimp only [Pt.U, Pt.locs, Pt.cells, Pt.slots] at h1 h2 h3 h4 h5 X hn hPc ⊢
  obtain ⟨methY, cY, hmY, hcY, -, hlY, -, -, -, -⟩ := Cond.code_spec hn h2
  obtain ⟨kY, hkY, -⟩ := className_of_methodNamed hn
  have hinitY : kY.init = .initialized := Cond.initialized_spec (findClass_of_methodNamed hn) hkY h3
  have h : At U g.method c below := by rw [hg]; exact X.here
  have hlocals9 : W9 + (maxL + 11) + (headSpec ws rm).room.locals ≤ R.locals := hlocals
  have happ : (headSpec ws rm).appliesLoose y e.platform (U.calling g mk a) = true :=
    Spec.appliesLoose_calling (g := g) h hdg hn hkY hinitY
      (X.room_calling (g := g) (R' := (headSpec ws rm).room) hsize hmY hcY hframes (by rw [hlY]; omega) h4 h5) h1
  obtain ⟨mid, hmid⟩ := h.above
  have hfr : (U.setTop g).frames = (.java g :: mid) ++ below := by rw [State.frames_setTop' g h.top, hmid]; rfl
  obtain ⟨o, s₂, hsteps, -, hend, hq⟩ := Steps.callFree hM p X.admits X.cas X.clock (acts := []) hfr happ hPc trivial
  have hq' : vx_Q Qc XC mc ms free a (U.calling g mk a) o s₂ := hq
  rw [State.frames_setTop' g h.top] at hend
  obtain ⟨g₀, hg0⟩ := Option.isSome_iff_exists.mp h.top
  obtain ⟨r, hr⟩ := State.topJava?_eq_some.mp hg0
  have hr' : (({ U with heap := s₂.heap, slotsUsed := s₂.slotsUsed } : State).setVm s₂.vm).frames = .java g₀ :: r := hr
  rcases hq' with ⟨hqc, L, hfe, hL⟩ | ⟨q, rfl, E, ce, L, hx, hce, hcv, hcl, hW₂, hsm, hL⟩
  · obtain ⟨⟨v, rfl⟩, hW₂, e2, q2, q3, q4, q5, q6⟩ := id hfe
    have e3 : s₂ = ({ (U.calling g mk a).setFrames s₂.frames with heap := s₂.heap, slotsUsed := s₂.slotsUsed } : State).setVm s₂.vm := by
      have : s₂ = ({ s₂ with vm := (U.calling g mk a).vm } : State).setVm s₂.vm := rfl
      rw [e2] at this
      exact this
    obtain ⟨c₂, i₂, len₂, hc₂, hd₂, hf₂⟩ := hend
    have hW' : U.WarmedH s₂.vm := hW₂
    have hcc : c₂ = c := by
      have h1 : s₂.code? g.method = U.code? g.method := by
        rw [State.code?_eq, State.code?_eq, hW'.alike.method?]
      exact Option.some.inj (hc₂.symm.trans (h1.trans h.code))
    subst hcc
    have hlen : len₂ = len := by rw [hdg] at hd₂; cases hd₂; rfl
    subst hlen
    have hs₂ : s₂ = (({ U with heap := s₂.heap, slotsUsed := s₂.slotsUsed } : State).setVm s₂.vm).setTop { g with pc := g.pc + len₂, stack := v.toList ++ g.stack } := by
      refine e3.trans ?_
      rw [hf₂, State.calling_eq h.top, State.setFrames_setFrames, State.setTop_of_frames _ hr', hr]
      rfl
    have hsame : U.sameButNew ({ U with heap := s₂.heap, slotsUsed := s₂.slotsUsed } : State) L mc ms := by
      refine ⟨?_, q2, q3, q4, q5, q6⟩
      obtain ⟨t, ht, -⟩ := State.frames_cons hr
      show ({ U with heap := s₂.heap, slotsUsed := s₂.slotsUsed } : State) = { U.setFrames U.frames with heap := s₂.heap, slotsUsed := s₂.slotsUsed }
      rw [State.setFrames_self ht]
    subst hg
    refine Or.inl ⟨v, ⟨(({ U with heap := s₂.heap, slotsUsed := s₂.slotsUsed } : State).setVm s₂.vm), Ls ++ L, c0 + mc, s0 + ms⟩,
      ⟨X.admits, X.cas, X.clock, X.frames, X.room, X.hears, X.method, X.code, (X.here.setHeapUsed s₂.heap s₂.slotsUsed).setVm hW'.alike, X.tail, State.WarmedH.trans X.warmed hW', X.limits, X.bytes, X.same.trans (hsame.setVm s.vm)⟩,
      ⟨g, mk, s₂, L, rfl, rfl, hqc, rfl, hL, rfl, rfl⟩, ?_⟩
    show Steps p.tables e below _ ((({ U with heap := s₂.heap, slotsUsed := s₂.slotsUsed } : State).setVm s₂.vm).setTop { g with pc := g.pc + len₂, stack := v.toList ++ g.stack })
    rw [← hs₂]
    exact hsteps
  · obtain ⟨e2, q2, q3, q4, q5, q6⟩ := id hsm
    have e3 : s₂ = ({ (U.calling g mk a).setFrames s₂.frames with heap := s₂.heap, slotsUsed := s₂.slotsUsed } : State).setVm s₂.vm := by
      have : s₂ = ({ s₂ with vm := (U.calling g mk a).vm } : State).setVm s₂.vm := rfl
      rw [e2] at this
      exact this
    have hf₂ : s₂.frames = .throwing q :: .java g :: U.frames.tail := hend
    have hW' : U.WarmedH s₂.vm := hW₂
    have hs₂ : s₂ = ((({ U with heap := s₂.heap, slotsUsed := s₂.slotsUsed } : State).setVm s₂.vm).setTop g).pushFrame (.throwing q) := by
      refine e3.trans ?_
      rw [hf₂, State.calling_eq h.top, State.setFrames_setFrames, State.pushFrame, State.frames_setTop _ hr', State.setTop_of_frames _ hr', State.setFrames_setFrames, hr]
      rfl
    have hsame : U.sameButNew ({ U with heap := s₂.heap, slotsUsed := s₂.slotsUsed } : State) L mc ms := by
      refine ⟨?_, q2, q3, q4, q5, q6⟩
      obtain ⟨t, ht, -⟩ := State.frames_cons hr
      show ({ U with heap := s₂.heap, slotsUsed := s₂.slotsUsed } : State) = { U.setFrames U.frames with heap := s₂.heap, slotsUsed := s₂.slotsUsed }
      rw [State.setFrames_self ht]
    subst hg
    refine Or.inr ⟨q, ⟨(({ U with heap := s₂.heap, slotsUsed := s₂.slotsUsed } : State).setVm s₂.vm), Ls ++ L, c0 + mc, s0 + ms⟩,
      ⟨X.admits, X.cas, X.clock, X.frames, X.room, X.hears, X.method, X.code, (X.here.setHeapUsed s₂.heap s₂.slotsUsed).setVm hW'.alike, X.tail, State.WarmedH.trans X.warmed hW', X.limits, X.bytes, X.same.trans (hsame.setVm s.vm)⟩,
      ⟨g, mk, s₂, L, E, ce, rfl, rfl, hx, hce, hcv, hcl, rfl, hL, rfl, rfl⟩, ?_⟩
    show Steps p.tables e below _ (((({ U with heap := s₂.heap, slotsUsed := s₂.slotsUsed } : State).setVm s₂.vm).setTop g).pushFrame (.throwing q))
    rw [← hs₂]
    exact hsteps
end Payer
section Calls
variable {p : Program} {l : Launch} {e : Env} {R : Room} {s : State} {m : MethodId} {args : Array Value} {below : List Frame} {meth : Method} {c : Code} {T : State} {locs : List Loc} {cells slots : Nat}
theorem vx_callV (X : Stand p l e R s m args below meth c T locs cells slots) (hexec : p.tables.exec = Jvm.exec) {own C : String} {index : Nat} {y : MethodName} {bytes : ByteArray} {maxL : Nat} {ret : Option FieldType}
    (hown : s.vm.findClass own = some m.cls) (hlink : (Cond.methodLink own index y).before args s = true) (hinst : (Cond.instanceMethod y).before args s = true) (hsel : (Cond.selects C y y).before args s = true)
    (hcode : (Cond.code y bytes maxL ret).before args s = true) (hy : y.cls ≠ "java/lang/invoke/MethodHandle" ∧ y.cls ≠ "java/lang/invoke/VarHandle")
    {W9 : Nat} {Pre : Pt → Array Value → Prop} {Post : Pt → Array Value → Option Value → Pt → Prop} {PostX : Pt → Array Value → Addr → Pt → Prop} (hK : vx_Back l R p e below s args y 3 W9 Pre Post PostX)
    {b : Addr} {cellB : Cell} (hcell : T.heap[b]? = some cellB) (hobj : cellB.vm.isStatics = false) (hcls : s.vm.findClass C = some cellB.cls)
    {g : JFrame} (hg : g.method = m) (hsize : g.locals.size = c.maxLocals) {argsL rest : List Value} (hlen : ∀ sig, parseMethodDescriptor y.desc = some sig → argsL.length = sig.parameters.length)
    (hstack : g.stack = argsL.reverse ++ .ref b :: rest) (hW : 2 * g.monitorRoom + (rest.map fun v => v.category).sum ≤ W9) (hdg : decode c.code g.pc = .ok (.invokevirtual index, 3))
    (hpre : ∀ vm₁, s.WarmedH vm₁ → Pre ⟨T.setVm vm₁, locs, cells, slots⟩ (Value.ref b :: argsL).toArray) :
    (∃ (v : Option Value) (vm₁ : Vm) (B : Pt), s.WarmedH vm₁ ∧ Stand p l e R s m args below meth c B.U B.locs B.cells B.slots ∧ Post ⟨T.setVm vm₁, locs, cells, slots⟩ (Value.ref b :: argsL).toArray v B ∧
      ∀ target, Steps p.tables e below (B.U.setTop { g with pc := g.pc + 3, stack := v.toList ++ rest }) target → Steps p.tables e below (T.setTop g) target) ∨
    (∃ (q : Addr) (vm₁ : Vm) (B : Pt), s.WarmedH vm₁ ∧ Stand p l e R s m args below meth c B.U B.locs B.cells B.slots ∧ PostX ⟨T.setVm vm₁, locs, cells, slots⟩ (Value.ref b :: argsL).toArray q B ∧
      Steps p.tables e below (T.setTop g) ((B.U.setTop { g with stack := rest }).pushFrame (.throwing q))) := by
  obtain ⟨mk, methM, hnamed, hmethM, hstM, habM⟩ := Cond.instanceMethod_spec hinst
  obtain ⟨methM', cM, hmethM', -, -, -, -, -, -, hsigM⟩ := Cond.code_spec hnamed hcode
  cases hmethM.symm.trans hmethM'
  obtain ⟨c2, r2, m2, q1, q2, q3, q4, kP, hkP, hkPi⟩ := Cond.selects_spec hsel
  cases hcls.symm.trans q1
  cases (State.methodFound?_of_named hnamed hy).symm.trans q2
  cases hnamed.symm.trans q3
  have hselP : selectMethod e.platform s.vm cellB.cls mk = .method mk := by rw [Launch.admits_selectMethod X.admits]; exact q4
  obtain ⟨vm₁, X₁, hstep₁⟩ := X.invokevirtual hexec hown hlink hnamed hmethM hstM hkP hkPi hy (a := b) (cell := cellB) hcell
    (fun z h => by rw [h] at hobj; cases hobj) hselP hmethM habM hkP hkPi (g := g) hg (argsL := argsL) (rest := rest) (hlen _ hsigM) hstack hdg
  rcases hK m meth c ⟨T.setVm vm₁, locs, cells, slots⟩ { g with stack := rest } (.invokevirtual index) mk (Value.ref b :: argsL).toArray X₁ hg hsize hdg hW (X₁.named hnamed) (hpre vm₁ X₁.warmed) with ⟨v, B, X', hpost, hsteps⟩ | ⟨q, B, X', hpost, hsteps⟩
  · exact Or.inl ⟨v, vm₁, B, X₁.warmed, X', hpost, fun target h => hstep₁ _ fun acts => by rw [doInvoke_state]; exact hsteps.trans h⟩
  · exact Or.inr ⟨q, vm₁, B, X₁.warmed, X', hpost, hstep₁ _ fun acts => by rw [doInvoke_state]; exact hsteps⟩
theorem vx_callS (X : Stand p l e R s m args below meth c T locs cells slots) (hexec : p.tables.exec = Jvm.exec) {own : String} {index : Nat} {y : MethodName} {bytes : ByteArray} {maxL : Nat} {ret : Option FieldType}
    (hown : s.vm.findClass own = some m.cls) (hlink : (Cond.methodLink own index y).before args s = true) (hstat : (Cond.static y).before args s = true) (hinit : (Cond.initialized y.cls).before args s = true)
    (hcode : (Cond.code y bytes maxL ret).before args s = true) (hy : y.cls ≠ "java/lang/invoke/MethodHandle" ∧ y.cls ≠ "java/lang/invoke/VarHandle")
    {W9 : Nat} {Pre : Pt → Array Value → Prop} {Post : Pt → Array Value → Option Value → Pt → Prop} {PostX : Pt → Array Value → Addr → Pt → Prop} (hK : vx_Back l R p e below s args y 3 W9 Pre Post PostX)
    {g : JFrame} (hg : g.method = m) (hsize : g.locals.size = c.maxLocals) {argsL rest : List Value} (hlen : ∀ sig, parseMethodDescriptor y.desc = some sig → argsL.length = sig.parameters.length)
    (hstack : g.stack = argsL.reverse ++ rest) (hW : 2 * g.monitorRoom + (rest.map fun v => v.category).sum ≤ W9) (hdg : decode c.code g.pc = .ok (.invokestatic index, 3))
    (hpre : ∀ vm₁, s.WarmedH vm₁ → Pre ⟨T.setVm vm₁, locs, cells, slots⟩ argsL.toArray) :
    (∃ (v : Option Value) (vm₁ : Vm) (B : Pt), s.WarmedH vm₁ ∧ Stand p l e R s m args below meth c B.U B.locs B.cells B.slots ∧ Post ⟨T.setVm vm₁, locs, cells, slots⟩ argsL.toArray v B ∧
      ∀ target, Steps p.tables e below (B.U.setTop { g with pc := g.pc + 3, stack := v.toList ++ rest }) target → Steps p.tables e below (T.setTop g) target) ∨
    (∃ (q : Addr) (vm₁ : Vm) (B : Pt), s.WarmedH vm₁ ∧ Stand p l e R s m args below meth c B.U B.locs B.cells B.slots ∧ PostX ⟨T.setVm vm₁, locs, cells, slots⟩ argsL.toArray q B ∧
      Steps p.tables e below (T.setTop g) ((B.U.setTop { g with stack := rest }).pushFrame (.throwing q))) := by
  obtain ⟨mk, hnamed⟩ := Cond.code_named hcode
  obtain ⟨methM, cM, hmethM, -, -, -, -, -, -, hsigM⟩ := Cond.code_spec hnamed hcode
  have hstatic : methM.isStatic = true := Cond.static_spec hnamed hmethM hstat
  obtain ⟨kP, hkP, -⟩ := className_of_methodNamed hnamed
  have hinitP : kP.init = .initialized := Cond.initialized_spec (findClass_of_methodNamed hnamed) hkP hinit
  obtain ⟨vm₁, X₁, hstep₁⟩ := X.invokestatic hexec hown hlink hnamed hmethM hstatic hkP hinitP hy (g := g) hg (argsL := argsL) (rest := rest) (hlen _ hsigM) hstack hdg
  rcases hK m meth c ⟨T.setVm vm₁, locs, cells, slots⟩ { g with stack := rest } (.invokestatic index) mk argsL.toArray X₁ hg hsize hdg hW (X₁.named hnamed) (hpre vm₁ X₁.warmed) with ⟨v, B, X', hpost, hsteps⟩ | ⟨q, B, X', hpost, hsteps⟩
  · exact Or.inl ⟨v, vm₁, B, X₁.warmed, X', hpost, fun target h => hstep₁ _ fun acts => by rw [doInvoke_state]; exact hsteps.trans h⟩
  · exact Or.inr ⟨q, vm₁, B, X₁.warmed, X', hpost, hstep₁ _ fun acts => by rw [doInvoke_state]; exact hsteps⟩
end Calls
theorem vx_cls {s : State} {T : State} {vm₁ : Vm} {E : String} {k : ClassId} (hW : s.WarmedH vm₁) (h : (T.setVm vm₁).vm.findClass E = some k) : s.vm.findClass E = some k := by
  have h1 : vm₁.findClass E = some k := h
  rw [hW.alike.findClass] at h1
  exact h1
/-- the method's frame g, with q thrown over it -/
def vx_W (p : Program) (l : Launch) (e : Env) (R : Room) (s : State) (m : MethodId) (args : Array Value) (below : List Frame) (meth : Method) (c : Code) (H : Heap) (locs : List Loc) (cells slots : Nat) (Q : State → Prop) (g : JFrame) (q : Addr) : Prop :=
  ∀ T : State, T.heap = H → Stand p l e R s m args below meth c T locs cells slots → ∃ t, Steps p.tables e below ((T.setTop g).pushFrame (.throwing q)) t ∧ Q t
def vx_Run (p : Program) (l : Launch) (e : Env) (R : Room) (s : State) (m : MethodId) (args : Array Value) (below : List Frame) (meth : Method) (c : Code) (H : Heap) (locs : List Loc) (cells slots mc ms : Nat) (g : JFrame) (rest : List Value) (Qa : State → Outcome → State → Prop) (XC : String → State → State → Prop) (free : Addr → Prop) : Prop :=
  ∀ T : State, T.heap = H → Stand p l e R s m args below meth c T locs cells slots →
    (∃ (v : Option Value) (st₀ t T' : State) (L : List Loc), st₀.heap = H ∧ Stand p l e R s m args below meth c T' (locs ++ L) (cells + mc) (slots + ms) ∧ (∀ q ∈ L, free q.base) ∧ T'.heap = t.heap ∧ T'.vm = t.vm ∧ Qa st₀ (.returned v) t ∧
      Goes p e below T g T' { g with pc := g.pc + 3, stack := v.toList ++ rest }) ∨
    (∃ (q : Addr) (st₀ t T' : State) (L : List Loc) (E : String) (ce : Cell), st₀.heap = H ∧ Stand p l e R s m args below meth c T' (locs ++ L) (cells + mc) (slots + ms) ∧ (∀ z ∈ L, free z.base) ∧ T'.heap = t.heap ∧ T'.vm = t.vm ∧ XC E st₀ t ∧ t.heap[q]? = some ce ∧ ce.vm = .none ∧ s.vm.findClass E = some ce.cls ∧
      Steps p.tables e below (T.setTop g) ((T'.setTop { g with stack := rest }).pushFrame (.throwing q)))
def vx_X {S : Type} (px : S → Prop) (B : String → S → State → Prop) (A : Nat → Prop) : String → State → State → Prop := fun E st t => ∃ u : S, px u ∧ B E u t ∧ va_F A st t
section Runs
variable {p : Program} {l : Launch} {e : Env} {R : Room} {s : State} {m : MethodId} {args : Array Value} {below : List Frame} {meth : Method} {c : Code} {H : Heap} {locs : List Loc} {cells slots : Nat}
variable {y : MethodName} {bytes cc : ByteArray} {maxL nL mc ms n index : Nat} {ret : Option FieldType} {ws : List Cond} {rm : Room} {Pc : Array Value → State → Prop} {Qc : Array Value → State → Outcome → State → Prop} {XC : String → State → State → Prop} {free : Addr → Prop} {Ts : List Cond} {own C : String} {b : Addr} {As rest : List Value} {g : JFrame}
theorem vx_callBack (cb : CallB R s args own index y bytes maxL ret ws rm mc ms n) (hM : vx_Met l y ws rm Pc Qc XC mc ms free) (hbl : FrameBlind Pc) : vx_Back l R p e below s args y 3 8 (PreOf R mc ms Pc) (PostOf Qc mc ms free) (vx_Post XC mc ms free) := by
  obtain ⟨hrc, hrs, hfr, hlo, hws, hcw, -, hini, -⟩ := cb
  exact vx_back (bytes := bytes) (maxL := maxL) (ret := ret) hM hbl hrc hrs hfr hlo hws hcw (fun a' U hW => word_at hW (Or.inl (by first | rfl | simp [Cond.onTables, Cond.keeps, Cond.steady])) hini)
theorem vx_runV (S : CallFix p m c cc nL s args Ts own) (hM : vx_Met l y ws rm Pc Qc XC mc ms free) (cw : CallW R s args own C index y bytes maxL ret ws rm mc ms n) (hp : PreV s H C b Pc As)
    (hg : g.method = m) (hn : As.length = n) (hsize : g.locals.size = nL) (hstack : g.stack = As.reverse ++ .ref b :: rest) (hW : 2 * g.monitorRoom + (rest.map fun v => v.category).sum ≤ 8) (hdg : decode cc g.pc = .ok (.invokevirtual index, 3)) (hf : cells + mc ≤ R.cells ∧ slots + ms ≤ R.slots) :
    vx_Run p l e R s m args below meth c H locs cells slots mc ms g rest (Qc (Value.ref b :: As).toArray) XC free := by
  have hK : vx_Back l R p e below s args y 3 8 (PreOf R mc ms Pc) (PostOf Qc mc ms free) (vx_Post XC mc ms free) := vx_callBack cw.1 hM hp.1
  obtain ⟨⟨-, -, -, -, -, -, hcode, -, hy, hlen, hl⟩, hin, hse⟩ := cw
  obtain ⟨hx, hb, hml, ho, -⟩ := S
  obtain ⟨-, ⟨cellB, hcB, hoB, hclB⟩, hPc⟩ := hp
  intro T hT X
  rcases vx_callV X hx (C := C) (bytes := bytes) (maxL := maxL) (ret := ret) ho hl hin hse hcode hy hK (by rw [hT]; exact hcB) hoB hclB hg (hsize.trans hml.symm) (argsL := As) (rest := rest) (fun sig h => hn.trans (hlen sig h)) hstack hW (by rw [hb]; exact hdg)
    (fun vm₁ hW₁ => ⟨hf.1, hf.2, hPc (T.setVm vm₁) hT hW₁⟩) with ⟨v, vm₁, ⟨U', l2, c2, s2⟩, hW₁, X', ⟨g', mk, t, L, e1, e2, hq, h1, hL, h2, h3⟩, st⟩ | ⟨q, vm₁, ⟨U', l2, c2, s2⟩, hW₁, X', ⟨g', mk, t, L, E, ce, e1, e2, hq, hce, hcv, hcl, h1, hL, h2, h3⟩, st⟩
  · dsimp only [Pt.U, Pt.locs, Pt.cells, Pt.slots] at X' e1 e2 h1 h2 h3 st
    subst h1; subst h2; subst h3
    exact Or.inl ⟨v, (T.setVm vm₁).calling g' mk (Value.ref b :: As).toArray, t, U', L, hT, X', hL, e1, e2, hq, st⟩
  · dsimp only [Pt.U, Pt.locs, Pt.cells, Pt.slots] at X' e1 e2 h1 h2 h3 st hcl
    subst h1; subst h2; subst h3
    exact Or.inr ⟨q, (T.setVm vm₁).calling g' mk (Value.ref b :: As).toArray, t, U', L, E, ce, hT, X', hL, e1, e2, hq, hce, hcv, vx_cls hW₁ hcl, st⟩
theorem vx_runS (S : CallFix p m c cc nL s args Ts own) (hM : vx_Met l y ws rm Pc Qc XC mc ms free) (cw : CallB R s args own index y bytes maxL ret ws rm mc ms n ∧ (Cond.static y).before args s = true) (hp : PreS s H Pc As)
    (hg : g.method = m) (hn : As.length = n) (hsize : g.locals.size = nL) (hstack : g.stack = As.reverse ++ rest) (hW : 2 * g.monitorRoom + (rest.map fun v => v.category).sum ≤ 8) (hdg : decode cc g.pc = .ok (.invokestatic index, 3)) (hf : cells + mc ≤ R.cells ∧ slots + ms ≤ R.slots) :
    vx_Run p l e R s m args below meth c H locs cells slots mc ms g rest (Qc As.toArray) XC free := by
  have hK : vx_Back l R p e below s args y 3 8 (PreOf R mc ms Pc) (PostOf Qc mc ms free) (vx_Post XC mc ms free) := vx_callBack cw.1 hM hp.1
  obtain ⟨⟨-, -, -, -, -, -, hcode, hini, hy, hlen, hl⟩, hstt⟩ := cw
  obtain ⟨hx, hb, hml, ho, -⟩ := S
  intro T hT X
  rcases vx_callS X hx (bytes := bytes) (maxL := maxL) (ret := ret) ho hl hstt hini hcode hy hK hg (hsize.trans hml.symm) (argsL := As) (rest := rest) (fun sig h => hn.trans (hlen sig h)) hstack hW (by rw [hb]; exact hdg)
    (fun vm₁ hW₁ => ⟨hf.1, hf.2, hp.2 (T.setVm vm₁) hT hW₁⟩) with ⟨v, vm₁, ⟨U', l2, c2, s2⟩, hW₁, X', ⟨g', mk, t, L, e1, e2, hq, h1, hL, h2, h3⟩, st⟩ | ⟨q, vm₁, ⟨U', l2, c2, s2⟩, hW₁, X', ⟨g', mk, t, L, E, ce, e1, e2, hq, hce, hcv, hcl, h1, hL, h2, h3⟩, st⟩
  · dsimp only [Pt.U, Pt.locs, Pt.cells, Pt.slots] at X' e1 e2 h1 h2 h3 st
    subst h1; subst h2; subst h3
    exact Or.inl ⟨v, (T.setVm vm₁).calling g' mk As.toArray, t, U', L, hT, X', hL, e1, e2, hq, st⟩
  · dsimp only [Pt.U, Pt.locs, Pt.cells, Pt.slots] at X' e1 e2 h1 h2 h3 st hcl
    subst h1; subst h2; subst h3
    exact Or.inr ⟨q, (T.setVm vm₁).calling g' mk As.toArray, t, U', L, E, ce, hT, X', hL, e1, e2, hq, hce, hcv, vx_cls hW₁ hcl, st⟩
end Runs
section Rows
variable {p : Program} {l : Launch} {e : Env} {R : Room} {s : State} {m : MethodId} {args : Array Value} {below : List Frame} {meth : Method} {c : Code} {H : Heap} {locs : List Loc} {cells slots : Nat} {Q : State → Prop}
variable {mc ms : Nat} {free : Addr → Prop} {A0 A1 : Nat → Prop} {H0 : Heap} {a : Array Value} {pc : Nat} {ls : Array Slot} {st0 rest : List Value}
theorem vx_keep {st₀ t T' : State} {L : List Loc} (h0 : st₀.heap = H) (e1 : T'.heap = t.heap) (hS : va_S A0 H0 H locs) (hA : ∀ q, q < H.size → A1 q → A0 q) (hf : ∀ q, free q → A0 q) (hL : ∀ q ∈ L, free q.base) (hF : va_F A1 st₀ t) :
    H.size ≤ T'.heap.size ∧ (∀ q : Nat, q < H.size → ¬ A1 q → T'.heap[q]? = H[q]?) ∧ va_S A0 H0 T'.heap (locs ++ L) := by
  obtain ⟨hz, hk⟩ := hF
  rw [h0] at hz hk
  exact ⟨by rw [e1]; exact hz, fun q h1 h2 => by rw [e1]; exact hk q h1 h2,
    ⟨Nat.le_trans hS.1 (by rw [e1]; exact hz), fun q h1 h2 => by rw [e1, hk q (Nat.lt_of_lt_of_le h1 hS.1) (fun z => h2 (hA q (Nat.lt_of_lt_of_le h1 hS.1) z))]; exact hS.2.1 q h1 h2, fun q hq => by
      rcases List.mem_append.mp hq with h | h
      · exact hS.2.2 q h
      · exact hf _ (hL q h)⟩⟩
theorem vx_calli {S SX : Type} {post : Int32 → S → Prop} {px : SX → Prop} {B : S → State → Prop} {BX : String → SX → State → Prop} {AX : Nat → Prop} (hr : vx_Run p l e R s m args below meth c H locs cells slots mc ms (F0 m pc ls st0) rest (va_Qi post B A1 a) (vx_X px BX AX) free) (hS : va_S A0 H0 H locs) (hA : ∀ q, q < H.size → A1 q → A0 q) (hf : ∀ q, free q → A0 q) (hAX : ∀ q, q < H.size → AX q → A0 q)
    (kx : ∀ (E : String) (ce : Cell) (q9 : Addr) (u : SX) (t : State) (H1 : Heap) (locs1 : List Loc), t.heap = H1 → s.vm.Alike t.vm → px u → BX E u t → H.size ≤ H1.size → (∀ q : Nat, q < H.size → ¬ AX q → H1[q]? = H[q]?) → va_S A0 H0 H1 locs1 → H1[q9]? = some ce → ce.vm = .none → s.vm.findClass E = some ce.cls → vx_W p l e R s m args below meth c H1 locs1 (cells + mc) (slots + ms) Q (F0 m pc ls rest) q9)
    (kk : ∀ (r : Int32) (u : S) (t : State) (H1 : Heap) (locs1 : List Loc), t.heap = H1 → s.vm.Alike t.vm → post r u → B u t → H.size ≤ H1.size → (∀ q : Nat, q < H.size → ¬ A1 q → H1[q]? = H[q]?) → va_S A0 H0 H1 locs1 → W p l e R s m args below meth c H1 locs1 (cells + mc) (slots + ms) Q (F0 m (pc + 3) ls (.int r :: rest))) : W p l e R s m args below meth c H locs cells slots Q (F0 m pc ls st0) := by
  intro T hT X
  rcases hr T hT X with ⟨v, st₀, t, T', L, h0, X', hL, e1, e2, ⟨⟨r, u, hv, hp, hb⟩, hF⟩, st⟩ | ⟨q, st₀, t, T', L, E, ce, h0, X', hL, e1, e2, ⟨u, hp, hb, hF⟩, hce, hcv, hcl, st⟩
  · cases hv
    obtain ⟨k1, k2, k3⟩ := vx_keep h0 e1 hS hA hf hL hF
    obtain ⟨t2, a1, b1⟩ := kk r u t T'.heap (locs ++ L) e1.symm (by rw [← e2]; exact X'.warmed.alike) hp hb k1 k2 k3 T' rfl X'
    exact ⟨t2, st t2 a1, b1⟩
  · obtain ⟨k1, k2, k3⟩ := vx_keep h0 e1 hS hAX hf hL hF
    obtain ⟨t2, a1, b1⟩ := kx E ce q u t T'.heap (locs ++ L) e1.symm (by rw [← e2]; exact X'.warmed.alike) hp hb k1 k2 k3 (by rw [e1]; exact hce) hcv hcl T' rfl X'
    exact ⟨t2, st.trans a1, b1⟩
theorem vx_calll {S SX : Type} {post : Int64 → S → Prop} {px : SX → Prop} {B : S → State → Prop} {BX : String → SX → State → Prop} {AX : Nat → Prop} (hr : vx_Run p l e R s m args below meth c H locs cells slots mc ms (F0 m pc ls st0) rest (va_Ql post B A1 a) (vx_X px BX AX) free) (hS : va_S A0 H0 H locs) (hA : ∀ q, q < H.size → A1 q → A0 q) (hf : ∀ q, free q → A0 q) (hAX : ∀ q, q < H.size → AX q → A0 q)
    (kx : ∀ (E : String) (ce : Cell) (q9 : Addr) (u : SX) (t : State) (H1 : Heap) (locs1 : List Loc), t.heap = H1 → s.vm.Alike t.vm → px u → BX E u t → H.size ≤ H1.size → (∀ q : Nat, q < H.size → ¬ AX q → H1[q]? = H[q]?) → va_S A0 H0 H1 locs1 → H1[q9]? = some ce → ce.vm = .none → s.vm.findClass E = some ce.cls → vx_W p l e R s m args below meth c H1 locs1 (cells + mc) (slots + ms) Q (F0 m pc ls rest) q9)
    (kk : ∀ (r : Int64) (u : S) (t : State) (H1 : Heap) (locs1 : List Loc), t.heap = H1 → s.vm.Alike t.vm → post r u → B u t → H.size ≤ H1.size → (∀ q : Nat, q < H.size → ¬ A1 q → H1[q]? = H[q]?) → va_S A0 H0 H1 locs1 → W p l e R s m args below meth c H1 locs1 (cells + mc) (slots + ms) Q (F0 m (pc + 3) ls (.long r :: rest))) : W p l e R s m args below meth c H locs cells slots Q (F0 m pc ls st0) := by
  intro T hT X
  rcases hr T hT X with ⟨v, st₀, t, T', L, h0, X', hL, e1, e2, ⟨⟨r, u, hv, hp, hb⟩, hF⟩, st⟩ | ⟨q, st₀, t, T', L, E, ce, h0, X', hL, e1, e2, ⟨u, hp, hb, hF⟩, hce, hcv, hcl, st⟩
  · cases hv
    obtain ⟨k1, k2, k3⟩ := vx_keep h0 e1 hS hA hf hL hF
    obtain ⟨t2, a1, b1⟩ := kk r u t T'.heap (locs ++ L) e1.symm (by rw [← e2]; exact X'.warmed.alike) hp hb k1 k2 k3 T' rfl X'
    exact ⟨t2, st t2 a1, b1⟩
  · obtain ⟨k1, k2, k3⟩ := vx_keep h0 e1 hS hAX hf hL hF
    obtain ⟨t2, a1, b1⟩ := kx E ce q u t T'.heap (locs ++ L) e1.symm (by rw [← e2]; exact X'.warmed.alike) hp hb k1 k2 k3 (by rw [e1]; exact hce) hcv hcl T' rfl X'
    exact ⟨t2, st.trans a1, b1⟩
theorem vx_callf {S SX : Type} {post : UInt32 → S → Prop} {px : SX → Prop} {B : S → State → Prop} {BX : String → SX → State → Prop} {AX : Nat → Prop} (hr : vx_Run p l e R s m args below meth c H locs cells slots mc ms (F0 m pc ls st0) rest (va_Qf post B A1 a) (vx_X px BX AX) free) (hS : va_S A0 H0 H locs) (hA : ∀ q, q < H.size → A1 q → A0 q) (hf : ∀ q, free q → A0 q) (hAX : ∀ q, q < H.size → AX q → A0 q)
    (kx : ∀ (E : String) (ce : Cell) (q9 : Addr) (u : SX) (t : State) (H1 : Heap) (locs1 : List Loc), t.heap = H1 → s.vm.Alike t.vm → px u → BX E u t → H.size ≤ H1.size → (∀ q : Nat, q < H.size → ¬ AX q → H1[q]? = H[q]?) → va_S A0 H0 H1 locs1 → H1[q9]? = some ce → ce.vm = .none → s.vm.findClass E = some ce.cls → vx_W p l e R s m args below meth c H1 locs1 (cells + mc) (slots + ms) Q (F0 m pc ls rest) q9)
    (kk : ∀ (r : UInt32) (u : S) (t : State) (H1 : Heap) (locs1 : List Loc), t.heap = H1 → s.vm.Alike t.vm → post r u → B u t → H.size ≤ H1.size → (∀ q : Nat, q < H.size → ¬ A1 q → H1[q]? = H[q]?) → va_S A0 H0 H1 locs1 → W p l e R s m args below meth c H1 locs1 (cells + mc) (slots + ms) Q (F0 m (pc + 3) ls (.float r :: rest))) : W p l e R s m args below meth c H locs cells slots Q (F0 m pc ls st0) := by
  intro T hT X
  rcases hr T hT X with ⟨v, st₀, t, T', L, h0, X', hL, e1, e2, ⟨⟨r, u, hv, hp, hb⟩, hF⟩, st⟩ | ⟨q, st₀, t, T', L, E, ce, h0, X', hL, e1, e2, ⟨u, hp, hb, hF⟩, hce, hcv, hcl, st⟩
  · cases hv
    obtain ⟨k1, k2, k3⟩ := vx_keep h0 e1 hS hA hf hL hF
    obtain ⟨t2, a1, b1⟩ := kk r u t T'.heap (locs ++ L) e1.symm (by rw [← e2]; exact X'.warmed.alike) hp hb k1 k2 k3 T' rfl X'
    exact ⟨t2, st t2 a1, b1⟩
  · obtain ⟨k1, k2, k3⟩ := vx_keep h0 e1 hS hAX hf hL hF
    obtain ⟨t2, a1, b1⟩ := kx E ce q u t T'.heap (locs ++ L) e1.symm (by rw [← e2]; exact X'.warmed.alike) hp hb k1 k2 k3 (by rw [e1]; exact hce) hcv hcl T' rfl X'
    exact ⟨t2, st.trans a1, b1⟩
theorem vx_calld {S SX : Type} {post : UInt64 → S → Prop} {px : SX → Prop} {B : S → State → Prop} {BX : String → SX → State → Prop} {AX : Nat → Prop} (hr : vx_Run p l e R s m args below meth c H locs cells slots mc ms (F0 m pc ls st0) rest (va_Qd post B A1 a) (vx_X px BX AX) free) (hS : va_S A0 H0 H locs) (hA : ∀ q, q < H.size → A1 q → A0 q) (hf : ∀ q, free q → A0 q) (hAX : ∀ q, q < H.size → AX q → A0 q)
    (kx : ∀ (E : String) (ce : Cell) (q9 : Addr) (u : SX) (t : State) (H1 : Heap) (locs1 : List Loc), t.heap = H1 → s.vm.Alike t.vm → px u → BX E u t → H.size ≤ H1.size → (∀ q : Nat, q < H.size → ¬ AX q → H1[q]? = H[q]?) → va_S A0 H0 H1 locs1 → H1[q9]? = some ce → ce.vm = .none → s.vm.findClass E = some ce.cls → vx_W p l e R s m args below meth c H1 locs1 (cells + mc) (slots + ms) Q (F0 m pc ls rest) q9)
    (kk : ∀ (r : UInt64) (u : S) (t : State) (H1 : Heap) (locs1 : List Loc), t.heap = H1 → s.vm.Alike t.vm → post r u → B u t → H.size ≤ H1.size → (∀ q : Nat, q < H.size → ¬ A1 q → H1[q]? = H[q]?) → va_S A0 H0 H1 locs1 → W p l e R s m args below meth c H1 locs1 (cells + mc) (slots + ms) Q (F0 m (pc + 3) ls (.double r :: rest))) : W p l e R s m args below meth c H locs cells slots Q (F0 m pc ls st0) := by
  intro T hT X
  rcases hr T hT X with ⟨v, st₀, t, T', L, h0, X', hL, e1, e2, ⟨⟨r, u, hv, hp, hb⟩, hF⟩, st⟩ | ⟨q, st₀, t, T', L, E, ce, h0, X', hL, e1, e2, ⟨u, hp, hb, hF⟩, hce, hcv, hcl, st⟩
  · cases hv
    obtain ⟨k1, k2, k3⟩ := vx_keep h0 e1 hS hA hf hL hF
    obtain ⟨t2, a1, b1⟩ := kk r u t T'.heap (locs ++ L) e1.symm (by rw [← e2]; exact X'.warmed.alike) hp hb k1 k2 k3 T' rfl X'
    exact ⟨t2, st t2 a1, b1⟩
  · obtain ⟨k1, k2, k3⟩ := vx_keep h0 e1 hS hAX hf hL hF
    obtain ⟨t2, a1, b1⟩ := kx E ce q u t T'.heap (locs ++ L) e1.symm (by rw [← e2]; exact X'.warmed.alike) hp hb k1 k2 k3 (by rw [e1]; exact hce) hcv hcl T' rfl X'
    exact ⟨t2, st.trans a1, b1⟩
theorem vx_callv {S SX : Type} {post : S → Prop} {px : SX → Prop} {B : S → State → Prop} {BX : String → SX → State → Prop} {AX : Nat → Prop} (hr : vx_Run p l e R s m args below meth c H locs cells slots mc ms (F0 m pc ls st0) rest (va_Qv post B A1 a) (vx_X px BX AX) free) (hS : va_S A0 H0 H locs) (hA : ∀ q, q < H.size → A1 q → A0 q) (hf : ∀ q, free q → A0 q) (hAX : ∀ q, q < H.size → AX q → A0 q)
    (kx : ∀ (E : String) (ce : Cell) (q9 : Addr) (u : SX) (t : State) (H1 : Heap) (locs1 : List Loc), t.heap = H1 → s.vm.Alike t.vm → px u → BX E u t → H.size ≤ H1.size → (∀ q : Nat, q < H.size → ¬ AX q → H1[q]? = H[q]?) → va_S A0 H0 H1 locs1 → H1[q9]? = some ce → ce.vm = .none → s.vm.findClass E = some ce.cls → vx_W p l e R s m args below meth c H1 locs1 (cells + mc) (slots + ms) Q (F0 m pc ls rest) q9)
    (kk : ∀ (u : S) (t : State) (H1 : Heap) (locs1 : List Loc), t.heap = H1 → s.vm.Alike t.vm → post u → B u t → H.size ≤ H1.size → (∀ q : Nat, q < H.size → ¬ A1 q → H1[q]? = H[q]?) → va_S A0 H0 H1 locs1 → W p l e R s m args below meth c H1 locs1 (cells + mc) (slots + ms) Q (F0 m (pc + 3) ls (rest))) : W p l e R s m args below meth c H locs cells slots Q (F0 m pc ls st0) := by
  intro T hT X
  rcases hr T hT X with ⟨v, st₀, t, T', L, h0, X', hL, e1, e2, ⟨⟨u, hv, hp, hb⟩, hF⟩, st⟩ | ⟨q, st₀, t, T', L, E, ce, h0, X', hL, e1, e2, ⟨u, hp, hb, hF⟩, hce, hcv, hcl, st⟩
  · cases hv
    obtain ⟨k1, k2, k3⟩ := vx_keep h0 e1 hS hA hf hL hF
    obtain ⟨t2, a1, b1⟩ := kk u t T'.heap (locs ++ L) e1.symm (by rw [← e2]; exact X'.warmed.alike) hp hb k1 k2 k3 T' rfl X'
    exact ⟨t2, st t2 a1, b1⟩
  · obtain ⟨k1, k2, k3⟩ := vx_keep h0 e1 hS hAX hf hL hF
    obtain ⟨t2, a1, b1⟩ := kx E ce q u t T'.heap (locs ++ L) e1.symm (by rw [← e2]; exact X'.warmed.alike) hp hb k1 k2 k3 (by rw [e1]; exact hce) hcv hcl T' rfl X'
    exact ⟨t2, st.trans a1, b1⟩
/-- caught by the row x of this method's table; the rows ahead don't take it -/
theorem vx_catch {own name : String} {E : String} {ce : Cell} {q : Addr} (hown : s.vm.findClass own = some m.cls) (pre : List ExceptionTableEntry) (x : ExceptionTableEntry) (suf : List ExceptionTableEntry) (hsplit : c.exceptionTable.toList = pre ++ x :: suf)
    (hpass : ∀ z ∈ pre, covers z pc = false ∨ (z.catchType ≠ 0 ∧ ∃ nm : String, (Cond.classLink own z.catchType nm).before args s = true ∧ va_Nc E nm s)) (hx : covers x pc = true) (h0 : x.catchType ≠ 0)
    (hlink : (Cond.classLink own x.catchType name).before args s = true) (hcast : (Cond.castable E name).before args s = true) (hcell : H[q]? = some ce) (hv : ce.vm = .none) (hcl : s.vm.findClass E = some ce.cls)
    (kk : W p l e R s m args below meth c H locs cells slots Q (F0 m x.handlerPc ls [.ref q])) : vx_W p l e R s m args below meth c H locs cells slots Q (F0 m pc ls rest) q := by
  intro T hT X
  have hpl : e.platform.magicAccessors = ({} : Platform).magicAccessors := by rw [X.admits.platform]
  obtain ⟨c3, c4, hc3, hc4, hasg⟩ := Cond.castable_spec hcast
  cases Option.some.inj (hc3.symm.trans hcl)
  obtain ⟨c5, hc5, hcl5⟩ := Cond.classLink_spec hown hlink e.platform hpl
  cases Option.some.inj (hc4.symm.trans hc5)
  obtain ⟨vm', X', st⟩ := X.thenCaughtThrough q (g := F0 m pc ls rest) rfl (Steps.refl _) (by rw [hT]; exact hcell) (by rw [hv]; rfl) (by obtain ⟨k9, h9, -⟩ := Vm.findClass_spec hcl; exact ⟨k9, h9⟩) pre x suf hsplit
    (fun z hz => by
      rcases hpass z hz with h | ⟨hz0, nm, hl1, hn1⟩
      · exact Or.inl h
      · obtain ⟨c6, hc6, hcl6⟩ := Cond.classLink_spec hown hl1 e.platform hpl
        obtain ⟨a8, b8, h1, h2, h3⟩ := hn1
        cases Option.some.inj (h1.symm.trans hcl)
        cases Option.some.inj (h2.symm.trans hc6)
        exact Or.inr ⟨hz0, _, hcl6, h3⟩) hx (Or.inr ⟨h0, c4, hcl5, hasg⟩)
  obtain ⟨t, a1, b1⟩ := kk (T.setVm vm') hT X'
  exact ⟨t, st.trans a1, b1⟩
end Rows
section Ends
variable {p : Program} {l : Launch} {e : Env} {R : Room} {s : State} {m : MethodId} {args : Array Value} {below : List Frame} {meth : Method} {c : Code} {H : Heap} {locs : List Loc} {cells slots : Nat} {Q : State → Prop}
variable {mc ms : Nat} {free : Addr → Prop} {A0 A1 : Nat → Prop} {H0 : Heap} {a : Array Value} {ls : Array Slot} {st0 rest : List Value}
variable {Qc : Array Value → State → Outcome → State → Prop} {XC : String → State → State → Prop}
/-- what a body that may throw owes at its end -/
def vx_MQ (below : List Frame) (Qc : Array Value → State → Outcome → State → Prop) (XC : String → State → State → Prop) (a : Array Value) (s : State) (mc ms : Nat) (free : Addr → Prop) : State → Prop := fun t =>
  ∃ o, t.status = .running ∧ Ended t below o ∧ vx_Q Qc XC mc ms free a s o t
theorem vx_ret {g : JFrame} {mc ms : Nat} (k : W p l e R s m args below meth c H locs cells slots (MQ below Qc args s mc ms free) g) : W p l e R s m args below meth c H locs cells slots (vx_MQ below Qc XC args s mc ms free) g := by
  intro T hT X
  obtain ⟨t, a1, o, b1, b2, b3, b4⟩ := k T hT X
  exact ⟨t, a1, o, b1, b2, Or.inl ⟨b3, b4⟩⟩
/-- not caught here: it goes on to the caller -/
theorem vx_widen {g : JFrame} {q : Addr} {k n : Nat} (h1 : cells ≤ k) (h2 : slots ≤ n) (kk : vx_W p l e R s m args below meth c H locs k n Q g q) : vx_W p l e R s m args below meth c H locs cells slots Q g q := fun T hT X => kk T hT (stand_widen X h1 h2)
theorem vx_out {pc : Nat} {E : String} {ce : Cell} {q : Addr} {mc ms : Nat} (hout : ∀ x ∈ c.exceptionTable.toList, covers x pc = false) (hlocks : meth.locks = false) (hcell : H[q]? = some ce) (hv : ce.vm = .none) (hcl : s.vm.findClass E = some ce.cls)
    (hx : ∀ t : State, t.heap = H → s.vm.Alike t.vm → XC E s t) (hf : ∀ z ∈ locs, free z.base) (hc : cells ≤ mc) (hs : slots ≤ ms) :
    vx_W p l e R s m args below meth c H locs cells slots (vx_MQ below Qc XC args s mc ms free) (F0 m pc ls rest) q := by
  intro T hT X
  obtain ⟨st1, hrun, hend, hW, hsm⟩ := X.leaveThrown q (g := F0 m pc ls rest) rfl rfl rfl hout hlocks
  have hcell9 : (T.setFrames (.throwing q :: below)).heap[q]? = some ce := by
    show T.heap[q]? = some ce
    rw [hT]; exact hcell
  exact ⟨_, st1, .threw q, hrun, hend, Or.inr ⟨q, rfl, E, ce, locs, hx _ hT hW.alike, hcell9, hv, hcl, hW, hsm.mono hc hs, hf⟩⟩
theorem vx_frame {U : State} {k n : Nat} (h : s.sameButNew ({ U with vm := s.vm } : State) locs k n) : s.heap.size ≤ U.heap.size ∧ ∀ q : Nat, q < s.heap.size → (∀ z ∈ locs, z.base ≠ q) → U.heap[q]? = s.heap[q]? := by
  obtain ⟨-, h2, -, -, -, h6⟩ := h
  refine ⟨h2, fun q hq hz => ?_⟩
  obtain ⟨c9, e1, e2, e3, e4⟩ := h6 q _ (Array.getElem?_eq_getElem hq)
  have hs : c9.slots = (s.heap[q]).slots := Array.ext_getElem? fun i => e4 i fun hm => hz _ hm rfl
  have h9 : c9 = s.heap[q] := by
    rw [hs] at e2
    exact e2
  have e5 : U.heap[q]? = some c9 := e1
  rw [e5, h9, Array.getElem?_eq_getElem hq]
/-- the words of a throw but the four that speak of the heap -/
def vx_no (w : Cond) : Bool := decide (w ≠ .isRef (.static Bundle.tN "UNASSIGNED_STACK" Bundle.steD)) && decide (w ≠ .isRef (.static Bundle.tN "SUPPRESSED_SENTINEL" Bundle.listD)) && decide (w ≠ .laysStatic Bundle.tN "UNASSIGNED_STACK" Bundle.steD) && decide (w ≠ .laysStatic Bundle.tN "SUPPRESSED_SENTINEL" Bundle.listD)
def vx_at0 (own : String) (ic : Nat) (X : String) (names : List String) : List Cond := (Bundle.ownAtoms0 own ic X names).filter vx_no
def vx_atS (own : String) (ic : Nat) (X : String) (names : List String) : List Cond := (Bundle.ownAtoms own ic X names).filter vx_no
/-- a word that the tables alone decide, or a good one -/
def vx_ot (w : Cond) : Bool := w.onTables || goodWord w
theorem vx_ot_at {args a' : Array Value} {s U : State} {w : Cond} (hW : s.WarmedH U.vm) (hvm : s.vm = U.vm) (hg : vx_ot w = true) (h : w.before args s = true) : w.before a' U = true := by
  simp only [vx_ot, Bool.or_eq_true] at hg
  rcases hg with hg | hg
  · exact va_tabs hg hvm h
  · exact word_at hW (good_of_word hg) h
/-- a list's words: the good ones out of the method's own list, the others by premises of their own -/
theorem vx_hat {args : Array Value} {s : State} {L B : List Cond} (h1 : ∀ w ∈ L.filter goodWord, w.before args s = true) (h2 : ∀ w ∈ L.filter (fun w => !goodWord w), w ∈ B) (h3 : ∀ w ∈ B, w.before args s = true) : ∀ w ∈ L, w.before args s = true := by
  intro w hw
  by_cases g : goodWord w = true
  · exact h1 w (List.mem_filter.mpr ⟨hw, g⟩)
  · refine h3 w (h2 w (List.mem_filter.mpr ⟨hw, ?_⟩))
    show (!goodWord w) = true
    cases hgw : goodWord w
    · rfl
    · exact absurd hgw g
theorem vx_c {args : Array Value} {s : State} {w : Cond} {B : List Cond} (h : w.before args s = true) (t : ∀ w ∈ B, w.before args s = true) : ∀ w' ∈ w :: B, w'.before args s = true := fun w' h' => (List.mem_cons.mp h').elim (fun e => by rw [e]; exact h) (t w')
theorem vx_n {args : Array Value} {s : State} : ∀ w ∈ ([] : List Cond), w.before args s = true := fun _ h => nomatch h
theorem vx_own {args : Array Value} {s : State} {L : List Cond} (h1 : ∀ w ∈ L.filter vx_no, w.before args s = true)
    (hU : (Cond.isRef (.static Bundle.tN "UNASSIGNED_STACK" Bundle.steD)).before args s = true) (hN : (Cond.isRef (.static Bundle.tN "SUPPRESSED_SENTINEL" Bundle.listD)).before args s = true)
    (lU : (Cond.laysStatic Bundle.tN "UNASSIGNED_STACK" Bundle.steD).before args s = true) (lN : (Cond.laysStatic Bundle.tN "SUPPRESSED_SENTINEL" Bundle.listD).before args s = true) : ∀ w ∈ L, w.before args s = true := by
  intro w hw
  by_cases e1 : w = .isRef (.static Bundle.tN "UNASSIGNED_STACK" Bundle.steD)
  · rw [e1]; exact hU
  · by_cases e2 : w = .isRef (.static Bundle.tN "SUPPRESSED_SENTINEL" Bundle.listD)
    · rw [e2]; exact hN
    · by_cases e3 : w = .laysStatic Bundle.tN "UNASSIGNED_STACK" Bundle.steD
      · rw [e3]; exact lU
      · by_cases e4 : w = .laysStatic Bundle.tN "SUPPRESSED_SENTINEL" Bundle.listD
        · rw [e4]; exact lN
        · exact h1 w (List.mem_filter.mpr ⟨hw, by unfold vx_no; rw [decide_eq_true e1, decide_eq_true e2, decide_eq_true e3, decide_eq_true e4]; rfl⟩)
/-- where a static field lies, its class's statics cell in H -/
def vx_L (C n d : String) (A : Nat → Prop) (U : State) (H : Heap) : Prop := ∃ (c : ClassId) (k : Class) (i : Nat) (f : Field) (a : Nat) (cell : Cell), U.vm.findClass C = some c ∧ U.fieldFound? C n d = some (c, k, i, f) ∧ f.isStatic = true ∧ k.statics = some a ∧ H[a]? = some cell ∧ cell.vm.isStatics = true ∧ cell.cls = c ∧ f.slot < cell.slots.size ∧ k.staticTypes[f.slot]? = some f.type ∧ ¬ A a
theorem vx_L.moved {C n d : String} {A : Nat → Prop} {u U : State} {H : Heap} (hvm : u.vm.Alike U.vm) (h : vx_L C n d A u H) : vx_L C n d A U H := by
  obtain ⟨c, k, i, f, a, cell, h1, h2, h3, h4, h5, h6, h7, h8, h9, h10⟩ := h
  obtain ⟨k', hi', he⟩ := State.fieldFound?_setVm hvm h2
  exact ⟨c, k', i, f, a, cell, by rw [hvm.findClass]; exact h1, hi', h3, by rw [he]; exact h4, h5, h6, h7, h8, by rw [he]; exact h9, h10⟩
theorem vx_L.kept {C n d : String} {A : Nat → Prop} {U : State} {H H1 : Heap} (h : vx_L C n d A U H) (hq : ∀ a : Nat, a < H.size → ¬ A a → H1[a]? = H[a]?) : vx_L C n d A U H1 := by
  obtain ⟨c, k, i, f, a, cell, h1, h2, h3, h4, h5, h6, h7, h8, h9, h10⟩ := h
  exact ⟨c, k, i, f, a, cell, h1, h2, h3, h4, by rw [hq a (Array.getElem?_eq_some_iff.mp h5).1 h10]; exact h5, h6, h7, h8, h9, h10⟩
theorem vx_L.narrow {C n d : String} {A B : Nat → Prop} {U : State} {H : Heap} (h : vx_L C n d A U H) (hAB : ∀ q, B q → A q) : vx_L C n d B U H := by
  obtain ⟨c, k, i, f, a, cell, h1, h2, h3, h4, h5, h6, h7, h8, h9, h10⟩ := h
  exact ⟨c, k, i, f, a, cell, h1, h2, h3, h4, h5, h6, h7, h8, h9, fun z => h10 (hAB _ z)⟩
theorem vx_L.word {C n d : String} {A : Nat → Prop} {s : State} {args : Array Value} (h : vx_L C n d A s s.heap) : (Cond.laysStatic C n d).before args s = true := by
  obtain ⟨c, k, i, f, a, cell, h1, h2, h3, h4, h5, h6, h7, h8, h9, -⟩ := h
  show (Cond.laysStatic C n d).holds args s none s [] = true
  exact Cond.laysStatic_of h1 h2 h3 h4 h5 h6 h7 h8 h9
/-- .. and what it holds: null or some reference -/
def vx_Zq (C n d : String) (A : Nat → Prop) (U : State) (H : Heap) : Prop := va_Zq C n d A U H ∧ vx_L C n d A U H
theorem vx_Zq.moved {C n d : String} {A : Nat → Prop} {u U : State} {H : Heap} (hvm : u.vm.Alike U.vm) (h : vx_Zq C n d A u H) : vx_Zq C n d A U H := ⟨va_Zq.moved hvm h.1, vx_L.moved hvm h.2⟩
theorem vx_Zq.kept {C n d : String} {A : Nat → Prop} {U : State} {H H1 : Heap} (h : vx_Zq C n d A U H) (hq : ∀ a : Nat, a < H.size → ¬ A a → H1[a]? = H[a]?) : vx_Zq C n d A U H1 := ⟨va_Zq.kept h.1 hq, vx_L.kept h.2 hq⟩
theorem vx_Zq.narrow {C n d : String} {A B : Nat → Prop} {U : State} {H : Heap} (h : vx_Zq C n d A U H) (hAB : ∀ q, B q → A q) : vx_Zq C n d B U H := ⟨va_Zq.narrow h.1 hAB, vx_L.narrow h.2 hAB⟩
theorem vx_Zqof {args : Array Value} {s : State} {C n d : String} {A : Nat → Prop} (hl : (Cond.laysStatic C n d).before args s = true) (hini : (Cond.initialized C).before args s = true) (h : (Cond.isRef (.static C n d)).before args s = true) (hA : ∀ a : Nat, a < s.heap.size → ¬ A a) : vx_Zq C n d A s s.heap := by
  refine ⟨va_Zqof hl hini h hA, ?_⟩
  obtain ⟨c, k, i, f, a, cell, h1, h2, h3, h4, h5, h6, h7, h8, h9⟩ := Cond.laysStatic_spec hl
  exact ⟨c, k, i, f, a, cell, h1, h2, h3, h4, h5, h6, h7, h8, h9, hA a (Array.getElem?_eq_some_iff.mp h5).1⟩
theorem vx_isRef {C n d : String} {v : Value} {A : Nat → Prop} {s : State} {args : Array Value} (h : va_Z C n d v A s s.heap) (hv : v.isRef = true) : (Cond.isRef (.static C n d)).before args s = true := by
  obtain ⟨cf, kf, fi, f, a, cell, h1, h2, h3, h4, h5, h6, h7, -⟩ := h
  have he : (Term.static C n d).eval args s none [] s = some v := by
    simp [Term.eval, State.fieldNamed?, h1, h2, h4, h5, h6, h7]
  simp only [Cond.before, Cond.holds, Cond.value, he]
  cases v <;> simp_all [Value.isRef]
theorem vx_isRefq {C n d : String} {A : Nat → Prop} {s : State} {args : Array Value} (h : va_Zq C n d A s s.heap) : (Cond.isRef (.static C n d)).before args s = true := by
  rcases h with h | ⟨t, h⟩
  · exact vx_isRef h rfl
  · exact vx_isRef h rfl
/-- the same frame, seen from here: as if the method were called anew in this heap -/
theorem vx_rebase {T : State} (X : Stand p l e R s m args below meth c T locs cells slots) {R' : Room} (hf : R'.frames ≤ R.frames) (hl : R'.locals ≤ R.locals) (hc : cells + R'.cells ≤ R.cells) (hs : slots + R'.slots ≤ R.slots) :
    Stand p l e R' ((T.setVm s.vm).setFrames (.invoking m args :: below)) m args below meth c T [] 0 0 := by
  have htop : (T.setVm s.vm).topJava?.isSome := X.here.top
  have hF : ((T.setVm s.vm).setFrames (.invoking m args :: below)).frames = .invoking m args :: below := State.frames_setFrames _ (State.cur_lt_of_top htop)
  obtain ⟨g₀, hg0⟩ := Option.isSome_iff_exists.mp htop
  obtain ⟨r, hr⟩ := State.topJava?_eq_some.mp hg0
  have hl9 : e.platform.stackLimits (T.setVm s.vm).me = e.platform.stackLimits s.me := X.limits
  have hb9 : (T.setVm s.vm).me.stackBytes = s.me.stackBytes := X.bytes
  refine ⟨X.admits, X.cas, X.clock, hF, ?_, X.hears, X.method, X.code, X.here, X.tail, X.warmed, ?_, ?_, ?_⟩
  · have h := X.room
    have hU : ((T.setVm s.vm).setFrames (.invoking m args :: below)).localsInUse = s.localsInUse := by
      rw [State.localsInUse_invoking hF (meth := meth) (c := c) X.method X.code, State.localsInUse_invoking X.frames X.method X.code]
    simp only [State.hasRoom, Bool.and_eq_true, decide_eq_true_eq] at h ⊢
    obtain ⟨⟨⟨⟨h1, h2, h3, h4, h5, h6⟩, h7⟩, h8⟩, h9⟩ := h
    rw [X.frames, List.length_cons] at h2 h3
    have q1 := X.heapSize
    have q2 := X.used
    simp only [hF, hU, List.length_cons, State.stackLimits_setFrames, State.stackBytes_setFrames, hl9, hb9]
    refine ⟨⟨⟨⟨by omega, by omega, by omega, by omega, by omega, h6⟩, ?_⟩, ?_⟩, X.book⟩
    · show T.heap.size + R'.cells ≤ e.platform.maxCells
      omega
    · show T.slotsUsed + R'.slots ≤ e.platform.maxSlots
      omega
  · rw [State.stackLimits_setFrames]; rfl
  · rw [State.stackBytes_setFrames]; rfl
  · refine ⟨?_, Nat.le_refl _, Nat.le_refl _, ?_, ?_, fun a c9 h9 => ⟨c9, h9, rfl, rfl, fun _ _ => rfl⟩⟩
    · obtain ⟨t, ht, -⟩ := State.frames_cons hr
      show T.setVm s.vm = { ((T.setVm s.vm).setFrames (.invoking m args :: below)).setFrames (T.setVm s.vm).frames with heap := T.heap, slotsUsed := T.slotsUsed }
      rw [State.setFrames_setFrames, State.setFrames_self ht]
      rfl
    · show T.slotsUsed = T.slotsUsed + ((T.heap.toList.drop T.heap.size).map (·.slots.size)).sum
      rw [List.drop_eq_nil_of_le (Nat.le_of_eq Array.length_toList)]
      rfl
    · show ((T.heap.toList.drop T.heap.size).map (·.slots.size)).sum ≤ 0
      rw [List.drop_eq_nil_of_le (Nat.le_of_eq Array.length_toList)]
      exact Nat.le_refl _
/-- 'throw new E()': new; dup; invokespecial; athrow -/
theorem vx_throw0 {cc : ByteArray} {pc : Nat} (hexec : p.tables.exec = Jvm.exec) (hb : c.code = cc) (hl : l.stackTraces = false) {own cls : String} {names : List String} {ik ic mc ms : Nat} {A : Nat → Prop}
    (hown : s.vm.findClass own = some m.cls) (hcls : Bundle.fit cls = true) (hnames : ∀ n ∈ names, Bundle.fit n = true)
    (hk : (Cond.classLink own ik cls).before args s = true) (hini : (Cond.initialized cls).before args s = true) (hat : ∀ w ∈ vx_at0 own ic cls names, w.before args s = true)
    (hgood : ∀ w ∈ Cond.classLink own ik cls :: Cond.initialized cls :: vx_at0 own ic cls names, vx_ot w = true)
    (hU : vx_Zq Bundle.tN "UNASSIGNED_STACK" Bundle.steD A s s.heap) (hN : vx_Zq Bundle.tN "SUPPRESSED_SENTINEL" Bundle.listD A s s.heap) (hS : va_S A s.heap H locs) (hsize : ls.size = c.maxLocals)
    (d0 : decode cc pc = .ok (.new ik, 3)) (d3 : decode cc (pc + 3) = .ok (.dup, 1)) (d4 : decode cc (pc + 4) = .ok (.invokespecial ic, 3)) (d7 : decode cc (pc + 7) = .ok (.athrow, 1))
    (hout : ∀ x ∈ c.exceptionTable.toList, covers x (pc + 7) = false)
    (hRframes : names.length + 3 < R.frames) (hRlocals : (rest.map fun v => v.category).sum + (13 * (names.length + 1) + 42) ≤ R.locals) (hRcells : cells + 1 ≤ R.cells) (hRslots : slots + 6 ≤ R.slots) (hlocks : meth.locks = false)
    (hx : ∀ t : State, s.vm.Alike t.vm → H.size ≤ t.heap.size → (∀ q : Nat, q < H.size → t.heap[q]? = H[q]?) → XC cls s t)
    (hf : ∀ z ∈ locs, free z.base) (hc : cells + 1 ≤ mc) (hs : slots + 6 ≤ ms) :
    W p l e R s m args below meth c H locs cells slots (vx_MQ below Qc XC args s mc ms free) (F0 m pc ls rest) := by
  intro T hT X
  have htr : e.platform.stackTraces = false := (show e.platform.stackTraces = l.stackTraces by rw [X.admits.platform]).trans hl
  have Y := vx_rebase X (R' := { frames := R.frames, locals := R.locals, cells := 1, slots := 6 }) (Nat.le_refl _) (Nat.le_refl _) hRcells hRslots
  obtain ⟨s', hA⟩ : ∃ z, z = (T.setVm s.vm).setFrames (.invoking m args :: below) := ⟨_, rfl⟩
  rw [← hA] at Y
  have hvm : s'.vm = s.vm := by rw [hA]; rfl
  have hhp : s'.heap = H := by rw [hA]; exact hT
  have hW0 : s.WarmedH s'.vm := by rw [hvm]; exact State.WarmedH.refl s
  have hat' : ∀ w ∈ vx_at0 own ic cls names, w.before args s' = true := fun w hw => vx_ot_at hW0 hvm.symm (hgood w (List.mem_cons_of_mem _ (List.mem_cons_of_mem _ hw))) (hat w hw)
  have hk' : (Cond.classLink own ik cls).before args s' = true := vx_ot_at hW0 hvm.symm (hgood _ List.mem_cons_self) hk
  have hini' : (Cond.initialized cls).before args s' = true := vx_ot_at hW0 hvm.symm (hgood _ (List.mem_cons_of_mem _ List.mem_cons_self)) hini
  have hU' : vx_Zq Bundle.tN "UNASSIGNED_STACK" Bundle.steD A s' s'.heap := by rw [hhp]; exact vx_Zq.moved hW0.alike (hU.kept hS.2.1)
  have hN' : vx_Zq Bundle.tN "SUPPRESSED_SENTINEL" Bundle.listD A s' s'.heap := by rw [hhp]; exact vx_Zq.moved hW0.alike (hN.kept hS.2.1)
  have h : ∀ w ∈ Bundle.ownAtoms0 own ic cls names, w.before args s' = true := vx_own hat' (vx_isRefq hU'.1) (vx_isRefq hN'.1) hU'.2.word hN'.2.word
  have hown' : s'.vm.findClass own = some m.cls := by rw [hvm]; exact hown
  have hins : (Cond.instantiable cls 6).before args s' = true := h _ (by simp [Bundle.ownAtoms0])
  obtain ⟨vm₁, cX, kX, hfX, hkX, -, -, X₁, st1⟩ := Y.newCold hexec (own := own) (C := cls) (index := ik) (n := 6) hown' hk' hins hini'
    (g := F0 m pc ls rest) rfl (by rw [hb]; exact d0) (Nat.le_refl _) (Nat.le_refl _)
  generalize hT1 : (T.setVm vm₁).pushCell { cls := cX, slots := kX.instanceTypes.map defaultValue, vm := .none } = T1 at X₁ st1
  have hcat : (Value.ref T.heap.size).category = 1 := rfl
  have hcellA : T1.heap[T.heap.size]? = some (freshCell cX kX) := by rw [← hT1]; exact State.heap_pushCell_size _ _
  have d3' : decode c.code (pc + 3) = .ok (.dup, 1) := by rw [hb]; exact d3
  obtain ⟨U, hsteps, hrun, hend, hW, hsame, ce, hce, hO⟩ := X₁.ctorThrow0 hexec htr (own := own) (cls := cls) (names := names) (ic := ic) hown' hcls hnames h (fun x hx => nomatch hx) hfX hkX hcellA (by rw [hhp, hT]; exact Nat.le_refl _)
    (g := { method := m, pc := pc + 4, locals := ls, stack := .ref T.heap.size :: .ref T.heap.size :: rest, locked := none }) rfl hsize rfl rfl (rest := rest) rfl
    (by rw [hb]; exact d4) (by rw [hb]; exact d7) hout hRframes (by simp only [List.map_cons, List.sum_cons, hcat]; omega) hlocks
  obtain ⟨f1, f2⟩ := vx_frame hsame
  rw [hhp] at f1 f2
  have hWs : s.WarmedH U.vm := State.WarmedH.trans hW0 hW
  have hcl : s.vm.findClass cls = some ce.cls := by
    have h9 := hO.cls
    rw [hvm] at h9
    exact h9
  have hall : s.sameButNew ({ U with vm := s.vm } : State) locs mc ms := by
    subst hA
    obtain ⟨e1, e2⟩ := hsame
    rw [State.setFrames_setFrames] at e1
    have h2 : (T.setVm s.vm).sameButNew ({ U with vm := s.vm } : State) [] (0 + 1) (0 + 6) := ⟨e1, e2⟩
    have h3 := X.same.trans h2
    rw [List.append_nil] at h3
    exact h3.mono hc hs
  refine ⟨U, ?_, .threw T.heap.size, hrun, hend, Or.inr ⟨T.heap.size, rfl, cls, ce, locs, hx U hWs.alike f1 (fun q hq => f2 q hq (fun z hz => nomatch hz)), hce, hO.vm, hcl, hWs, hall, hf⟩⟩
  refine st1 _ ?_
  show Steps p.tables e below (T1.setTop { method := m, pc := pc + 3, locals := ls, stack := .ref T.heap.size :: rest, locked := none }) _
  jvm_step X₁.here [X₁.here.top, hexec, d3', Value.category]
  exact hsteps
/-- 'throw new E("text")': new; dup; ldc; invokespecial; athrow -/
theorem vx_throwS {cc : ByteArray} {pc : Nat} (hexec : p.tables.exec = Jvm.exec) (hb : c.code = cc) (hl : l.stackTraces = false) {own cls text : String} {names : List String} {ik is ic mc ms sa : Nat} {A : Nat → Prop}
    (hown : s.vm.findClass own = some m.cls) (hcls : Bundle.fit cls = true) (hnames : ∀ n ∈ names, Bundle.fit n = true)
    (hk : (Cond.classLink own ik cls).before args s = true) (hini : (Cond.initialized cls).before args s = true) (hstr : vk_R own is text sa s) (hat : ∀ w ∈ vx_atS own ic cls names, w.before args s = true)
    (hgood : ∀ w ∈ Cond.classLink own ik cls :: Cond.initialized cls :: vx_atS own ic cls names, vx_ot w = true)
    (hU : vx_Zq Bundle.tN "UNASSIGNED_STACK" Bundle.steD A s s.heap) (hN : vx_Zq Bundle.tN "SUPPRESSED_SENTINEL" Bundle.listD A s s.heap) (hS : va_S A s.heap H locs) (hsize : ls.size = c.maxLocals)
    (d0 : decode cc pc = .ok (.new ik, 3)) (d3 : decode cc (pc + 3) = .ok (.dup, 1)) (d4 : decode cc (pc + 4) = .ok (.ldc is, 2)) (d6 : decode cc (pc + 6) = .ok (.invokespecial ic, 3)) (d9 : decode cc (pc + 9) = .ok (.athrow, 1))
    (hout : ∀ x ∈ c.exceptionTable.toList, covers x (pc + 9) = false)
    (hRframes : names.length + 3 < R.frames) (hRlocals : (rest.map fun v => v.category).sum + (13 * (names.length + 1) + 43) ≤ R.locals) (hRcells : cells + 1 ≤ R.cells) (hRslots : slots + 6 ≤ R.slots) (hlocks : meth.locks = false)
    (hx : ∀ t : State, s.vm.Alike t.vm → H.size ≤ t.heap.size → (∀ q : Nat, q < H.size → t.heap[q]? = H[q]?) → XC cls s t)
    (hf : ∀ z ∈ locs, free z.base) (hc : cells + 1 ≤ mc) (hs : slots + 6 ≤ ms) :
    W p l e R s m args below meth c H locs cells slots (vx_MQ below Qc XC args s mc ms free) (F0 m pc ls rest) := by
  intro T hT X
  have htr : e.platform.stackTraces = false := (show e.platform.stackTraces = l.stackTraces by rw [X.admits.platform]).trans hl
  have Y := vx_rebase X (R' := { frames := R.frames, locals := R.locals, cells := 1, slots := 6 }) (Nat.le_refl _) (Nat.le_refl _) hRcells hRslots
  obtain ⟨s', hA⟩ : ∃ z, z = (T.setVm s.vm).setFrames (.invoking m args :: below) := ⟨_, rfl⟩
  rw [← hA] at Y
  have hvm : s'.vm = s.vm := by rw [hA]; rfl
  have hhp : s'.heap = H := by rw [hA]; exact hT
  have hW0 : s.WarmedH s'.vm := by rw [hvm]; exact State.WarmedH.refl s
  have hat' : ∀ w ∈ vx_atS own ic cls names, w.before args s' = true := fun w hw => vx_ot_at hW0 hvm.symm (hgood w (List.mem_cons_of_mem _ (List.mem_cons_of_mem _ hw))) (hat w hw)
  have hk' : (Cond.classLink own ik cls).before args s' = true := vx_ot_at hW0 hvm.symm (hgood _ List.mem_cons_self) hk
  have hini' : (Cond.initialized cls).before args s' = true := vx_ot_at hW0 hvm.symm (hgood _ (List.mem_cons_of_mem _ List.mem_cons_self)) hini
  have hU' : vx_Zq Bundle.tN "UNASSIGNED_STACK" Bundle.steD A s' s'.heap := by rw [hhp]; exact vx_Zq.moved hW0.alike (hU.kept hS.2.1)
  have hN' : vx_Zq Bundle.tN "SUPPRESSED_SENTINEL" Bundle.listD A s' s'.heap := by rw [hhp]; exact vx_Zq.moved hW0.alike (hN.kept hS.2.1)
  have h : ∀ w ∈ Bundle.ownAtoms own ic cls names, w.before args s' = true := vx_own hat' (vx_isRefq hU'.1) (vx_isRefq hN'.1) hU'.2.word hN'.2.word
  have hown' : s'.vm.findClass own = some m.cls := by rw [hvm]; exact hown
  have hins : (Cond.instantiable cls 6).before args s' = true := h _ (by simp [Bundle.ownAtoms])
  obtain ⟨vm₁, cX, kX, hfX, hkX, -, -, X₁, st1⟩ := Y.newCold hexec (own := own) (C := cls) (index := ik) (n := 6) hown' hk' hins hini'
    (g := F0 m pc ls rest) rfl (by rw [hb]; exact d0) (Nat.le_refl _) (Nat.le_refl _)
  generalize hT1 : (T.setVm vm₁).pushCell { cls := cX, slots := kX.instanceTypes.map defaultValue, vm := .none } = T1 at X₁ st1
  have hcat : (Value.ref T.heap.size).category = 1 := rfl
  have hcellA : T1.heap[T.heap.size]? = some (freshCell cX kX) := by rw [← hT1]; exact State.heap_pushCell_size _ _
  have d3' : decode c.code (pc + 3) = .ok (.dup, 1) := by rw [hb]; exact d3
  have d4' : decode c.code (pc + 4) = .ok (.ldc is, 2) := by rw [hb]; exact d4
  have hstr' : vk_R own is text sa s' := vk_R.warm hW0 hstr
  obtain ⟨U, hsteps, hrun, hend, hW, hsame, ce, hce, hO⟩ := X₁.ctorThrowS hexec htr (own := own) (cls := cls) (names := names) (ic := ic) hown' hcls hnames h (fun x hx => nomatch hx) hfX hkX hcellA (by rw [hhp, hT]; exact Nat.le_refl _) (msg := .ref sa) rfl
    (g := { method := m, pc := pc + 6, locals := ls, stack := .ref sa :: .ref T.heap.size :: .ref T.heap.size :: rest, locked := none }) rfl hsize rfl rfl (rest := rest) rfl
    (by rw [hb]; exact d6) (by rw [hb]; exact d9) hout hRframes (by simp only [List.map_cons, List.sum_cons, hcat]; omega) hlocks
  obtain ⟨f1, f2⟩ := vx_frame hsame
  rw [hhp] at f1 f2
  have hWs : s.WarmedH U.vm := State.WarmedH.trans hW0 hW
  have hcl : s.vm.findClass cls = some ce.cls := by
    have h9 := hO.cls
    rw [hvm] at h9
    exact h9
  have hall : s.sameButNew ({ U with vm := s.vm } : State) locs mc ms := by
    subst hA
    obtain ⟨e1, e2⟩ := hsame
    rw [State.setFrames_setFrames] at e1
    have h2 : (T.setVm s.vm).sameButNew ({ U with vm := s.vm } : State) [] (0 + 1) (0 + 6) := ⟨e1, e2⟩
    have h3 := X.same.trans h2
    rw [List.append_nil] at h3
    exact h3.mono hc hs
  refine ⟨U, ?_, .threw T.heap.size, hrun, hend, Or.inr ⟨T.heap.size, rfl, cls, ce, locs, hx U hWs.alike f1 (fun q hq => f2 q hq (fun z hz => nomatch hz)), hce, hO.vm, hcl, hWs, hall, hf⟩⟩
  refine st1 _ ?_
  show Steps p.tables e below (T1.setTop { method := m, pc := pc + 3, locals := ls, stack := .ref T.heap.size :: rest, locked := none }) _
  jvm_step X₁.here [X₁.here.top, hexec, d3', Value.category]
  exact X₁.ldcString hexec (own := own) (text := text) (index := is) (a := sa) hown' hstr'.1 hstr'.2
    (g := { method := m, pc := pc + 4, locals := ls, stack := .ref T.heap.size :: .ref T.heap.size :: rest, locked := none }) rfl d4' _ hsteps
/-- 'throw new E("text")', the text by a wide index -/
theorem vx_throwSW {cc : ByteArray} {pc : Nat} (hexec : p.tables.exec = Jvm.exec) (hb : c.code = cc) (hl : l.stackTraces = false) {own cls text : String} {names : List String} {ik is ic mc ms sa : Nat} {A : Nat → Prop}
    (hown : s.vm.findClass own = some m.cls) (hcls : Bundle.fit cls = true) (hnames : ∀ n ∈ names, Bundle.fit n = true)
    (hk : (Cond.classLink own ik cls).before args s = true) (hini : (Cond.initialized cls).before args s = true) (hstr : vk_R own is text sa s) (hat : ∀ w ∈ vx_atS own ic cls names, w.before args s = true)
    (hgood : ∀ w ∈ Cond.classLink own ik cls :: Cond.initialized cls :: vx_atS own ic cls names, vx_ot w = true)
    (hU : vx_Zq Bundle.tN "UNASSIGNED_STACK" Bundle.steD A s s.heap) (hN : vx_Zq Bundle.tN "SUPPRESSED_SENTINEL" Bundle.listD A s s.heap) (hS : va_S A s.heap H locs) (hsize : ls.size = c.maxLocals)
    (d0 : decode cc pc = .ok (.new ik, 3)) (d3 : decode cc (pc + 3) = .ok (.dup, 1)) (d4 : decode cc (pc + 4) = .ok (.ldc_w is, 3)) (d7 : decode cc (pc + 7) = .ok (.invokespecial ic, 3)) (d10 : decode cc (pc + 10) = .ok (.athrow, 1))
    (hout : ∀ x ∈ c.exceptionTable.toList, covers x (pc + 10) = false)
    (hRframes : names.length + 3 < R.frames) (hRlocals : (rest.map fun v => v.category).sum + (13 * (names.length + 1) + 43) ≤ R.locals) (hRcells : cells + 1 ≤ R.cells) (hRslots : slots + 6 ≤ R.slots) (hlocks : meth.locks = false)
    (hx : ∀ t : State, s.vm.Alike t.vm → H.size ≤ t.heap.size → (∀ q : Nat, q < H.size → t.heap[q]? = H[q]?) → XC cls s t)
    (hf : ∀ z ∈ locs, free z.base) (hc : cells + 1 ≤ mc) (hs : slots + 6 ≤ ms) :
    W p l e R s m args below meth c H locs cells slots (vx_MQ below Qc XC args s mc ms free) (F0 m pc ls rest) := by
  intro T hT X
  have htr : e.platform.stackTraces = false := (show e.platform.stackTraces = l.stackTraces by rw [X.admits.platform]).trans hl
  have Y := vx_rebase X (R' := { frames := R.frames, locals := R.locals, cells := 1, slots := 6 }) (Nat.le_refl _) (Nat.le_refl _) hRcells hRslots
  obtain ⟨s', hA⟩ : ∃ z, z = (T.setVm s.vm).setFrames (.invoking m args :: below) := ⟨_, rfl⟩
  rw [← hA] at Y
  have hvm : s'.vm = s.vm := by rw [hA]; rfl
  have hhp : s'.heap = H := by rw [hA]; exact hT
  have hW0 : s.WarmedH s'.vm := by rw [hvm]; exact State.WarmedH.refl s
  have hat' : ∀ w ∈ vx_atS own ic cls names, w.before args s' = true := fun w hw => vx_ot_at hW0 hvm.symm (hgood w (List.mem_cons_of_mem _ (List.mem_cons_of_mem _ hw))) (hat w hw)
  have hk' : (Cond.classLink own ik cls).before args s' = true := vx_ot_at hW0 hvm.symm (hgood _ List.mem_cons_self) hk
  have hini' : (Cond.initialized cls).before args s' = true := vx_ot_at hW0 hvm.symm (hgood _ (List.mem_cons_of_mem _ List.mem_cons_self)) hini
  have hU' : vx_Zq Bundle.tN "UNASSIGNED_STACK" Bundle.steD A s' s'.heap := by rw [hhp]; exact vx_Zq.moved hW0.alike (hU.kept hS.2.1)
  have hN' : vx_Zq Bundle.tN "SUPPRESSED_SENTINEL" Bundle.listD A s' s'.heap := by rw [hhp]; exact vx_Zq.moved hW0.alike (hN.kept hS.2.1)
  have h : ∀ w ∈ Bundle.ownAtoms own ic cls names, w.before args s' = true := vx_own hat' (vx_isRefq hU'.1) (vx_isRefq hN'.1) hU'.2.word hN'.2.word
  have hown' : s'.vm.findClass own = some m.cls := by rw [hvm]; exact hown
  have hins : (Cond.instantiable cls 6).before args s' = true := h _ (by simp [Bundle.ownAtoms])
  obtain ⟨vm₁, cX, kX, hfX, hkX, -, -, X₁, st1⟩ := Y.newCold hexec (own := own) (C := cls) (index := ik) (n := 6) hown' hk' hins hini'
    (g := F0 m pc ls rest) rfl (by rw [hb]; exact d0) (Nat.le_refl _) (Nat.le_refl _)
  generalize hT1 : (T.setVm vm₁).pushCell { cls := cX, slots := kX.instanceTypes.map defaultValue, vm := .none } = T1 at X₁ st1
  have hcat : (Value.ref T.heap.size).category = 1 := rfl
  have hcellA : T1.heap[T.heap.size]? = some (freshCell cX kX) := by rw [← hT1]; exact State.heap_pushCell_size _ _
  have d3' : decode c.code (pc + 3) = .ok (.dup, 1) := by rw [hb]; exact d3
  have d4' : decode c.code (pc + 4) = .ok (.ldc_w is, 3) := by rw [hb]; exact d4
  have hstr' : vk_R own is text sa s' := vk_R.warm hW0 hstr
  obtain ⟨U, hsteps, hrun, hend, hW, hsame, ce, hce, hO⟩ := X₁.ctorThrowS hexec htr (own := own) (cls := cls) (names := names) (ic := ic) hown' hcls hnames h (fun x hx => nomatch hx) hfX hkX hcellA (by rw [hhp, hT]; exact Nat.le_refl _) (msg := .ref sa) rfl
    (g := { method := m, pc := pc + 7, locals := ls, stack := .ref sa :: .ref T.heap.size :: .ref T.heap.size :: rest, locked := none }) rfl hsize rfl rfl (rest := rest) rfl
    (by rw [hb]; exact d7) (by rw [hb]; exact d10) hout hRframes (by simp only [List.map_cons, List.sum_cons, hcat]; omega) hlocks
  obtain ⟨f1, f2⟩ := vx_frame hsame
  rw [hhp] at f1 f2
  have hWs : s.WarmedH U.vm := State.WarmedH.trans hW0 hW
  have hcl : s.vm.findClass cls = some ce.cls := by
    have h9 := hO.cls
    rw [hvm] at h9
    exact h9
  have hall : s.sameButNew ({ U with vm := s.vm } : State) locs mc ms := by
    subst hA
    obtain ⟨e1, e2⟩ := hsame
    rw [State.setFrames_setFrames] at e1
    have h2 : (T.setVm s.vm).sameButNew ({ U with vm := s.vm } : State) [] (0 + 1) (0 + 6) := ⟨e1, e2⟩
    have h3 := X.same.trans h2
    rw [List.append_nil] at h3
    exact h3.mono hc hs
  refine ⟨U, ?_, .threw T.heap.size, hrun, hend, Or.inr ⟨T.heap.size, rfl, cls, ce, locs, hx U hWs.alike f1 (fun q hq => f2 q hq (fun z hz => nomatch hz)), hce, hO.vm, hcl, hWs, hall, hf⟩⟩
  refine st1 _ ?_
  show Steps p.tables e below (T1.setTop { method := m, pc := pc + 3, locals := ls, stack := .ref T.heap.size :: rest, locked := none }) _
  jvm_step X₁.here [X₁.here.top, hexec, d3', Value.category]
  exact X₁.ldcStringW hexec (own := own) (text := text) (index := is) (a := sa) hown' hstr'.1 hstr'.2
    (g := { method := m, pc := pc + 4, locals := ls, stack := .ref T.heap.size :: .ref T.heap.size :: rest, locked := none }) rfl d4' _ hsteps
end Ends
section Bodies
variable {l : Launch}
theorem vx_ofW {y : MethodName} {ws ws' : List Cond} {rm : Room} {Pc : Array Value → State → Prop} {Qc : Array Value → State → Outcome → State → Prop} {XC : String → State → State → Prop} {mc ms : Nat} {free : Addr → Prop} {cc : ByteArray} {maxL : Nat} {ret : Option FieldType}
    (hy : plainName y.cls = true) (hw : ws = Cond.code y cc maxL ret :: ws')
    (body : ∀ p e s m args below meth c s₁, BodyLoose p l y (headSpec ws rm) cc maxL ret e s m args below meth c s₁ → c.maxLocals = maxL → (∀ x ∈ c.exceptionTable.toList, False) → Pc args s →
      W p l e (headSpec ws rm).room s m args below meth c s.heap [] 0 0 (vx_MQ below Qc XC args s mc ms free) (entryFrame m args maxL)) : vx_Met l y ws rm Pc Qc XC mc ms free := by
  refine MetFree.of_bodyS (code := cc) (maxLocals := maxL) (ret := ret) hy ?_ ?_
  · intro args s m h hn
    obtain ⟨meth, c, h1, h2, h3, h4, h5, h6, -, -⟩ := Cond.code_spec hn (atoms_spec (ws := ws) h _ (by rw [hw]; exact List.mem_cons_self))
    exact ⟨meth, c, h1, h2, h3, h4, h5, h6⟩
  · intro p e s m args below meth c s₁ B hml hP _
    have hh0 : s₁.heap = s.heap := by rw [B.state]; rfl
    have ht : ∀ x ∈ c.exceptionTable.toList, False := by
      obtain ⟨meth9, c9, h1, h2, -, -, -, -, h7, -⟩ := Cond.code_spec B.named (atoms_spec (ws := ws) B.pre _ (by rw [hw]; exact List.mem_cons_self))
      cases Option.some.inj (h1.symm.trans B.method)
      cases Option.some.inj (h2.symm.trans (Stand.of_body B).code)
      intro x hx
      rw [Array.isEmpty_iff.mp h7] at hx
      cases hx
    obtain ⟨t, a1, o, b1, b2, b3⟩ := body p e s m args below meth c s₁ B hml ht hP s₁ hh0 (Stand.of_body B)
    exact ⟨t, o, a1, b1, b2, b3⟩
/-- the table of a body with handlers -/
theorem vx_table {p : Program} {x y : MethodName} {S : Spec} {cc bytes : ByteArray} {maxL maxL' : Nat} {ret ret' : Option FieldType} {e : Env} {s s₁ : State} {m : MethodId} {args : Array Value} {below : List Frame} {meth : Method} {c : Code} {hh : List (Nat × Nat × Nat × Nat)}
    (B : BodyLoose p l y S cc maxL ret e s m args below meth c s₁) (h : (Cond.codeWith y bytes maxL' ret' hh).before args s = true) : c.exceptionTable.toList = tableOf hh := by
  obtain ⟨m9, meth9, c9, hn9, h1, h2, -, -, h6, -⟩ := Cond.codeWith_spec h
  cases Option.some.inj (hn9.symm.trans B.named)
  cases Option.some.inj (h1.symm.trans B.method)
  cases Option.some.inj (h2.symm.trans (Stand.of_body B).code)
  rw [← h6, table_eq]
end Bodies
end VXA
/-! ===== END ===== -/
/-! ===== BEGIN a static call of a method with an exception table ===== -/
section VXS
variable {p : Program} {l : Launch} {e : Env} {R : Room} {s : State} {m : MethodId} {args : Array Value} {below : List Frame} {meth : Method} {c : Code} {T : State} {H : Heap} {locs : List Loc} {cells slots : Nat}
abbrev vx_CSW (R : Room) (s : State) (args : Array Value) (own : String) (index : Nat) (y : MethodName) (bytes : ByteArray) (maxL : Nat) (ret : Option FieldType) (hh : List (Nat × Nat × Nat × Nat)) (ws : List Cond) (rm : Room) (mc ms n : Nat) : Prop :=
  (rm.cells = mc ∧ rm.slots = ms ∧ rm.frames + 1 ≤ R.frames ∧ 8 + (maxL + 11) + rm.locals ≤ R.locals ∧ (∀ w ∈ ws, ∀ (a' : Array Value) (U : State), s.WarmedH U.vm → w.before a' U = true) ∧ Cond.codeWith y bytes maxL ret hh ∈ ws) ∧
  (Cond.codeWith y bytes maxL ret hh).before args s = true ∧ (Cond.initialized y.cls).before args s = true ∧ (y.cls ≠ "java/lang/invoke/MethodHandle" ∧ y.cls ≠ "java/lang/invoke/VarHandle") ∧
  (∀ sig, parseMethodDescriptor y.desc = some sig → n = sig.parameters.length) ∧ (Cond.methodLink own index y).before args s = true ∧ (Cond.static y).before args s = true
theorem vx_cwSW {own : String} {index maxL mc ms : Nat} {y : MethodName} {bytes : ByteArray} {ret : Option FieldType} {hh : List (Nat × Nat × Nat × Nat)} {Ts ws ws' : List Cond} {rm : Room} (n : Nat) (ht : ∀ w ∈ Ts, w.before args s = true) (hT : GoodIn Ts (va_wsS own index y ws)) (hw : ws = Cond.codeWith y bytes maxL ret hh :: ws') (hrc : rm.cells = mc) (hrs : rm.slots = ms)
    (hd : y.cls ≠ "java/lang/invoke/MethodHandle" ∧ y.cls ≠ "java/lang/invoke/VarHandle" ∧ (parseMethodDescriptor y.desc).map (fun d => d.parameters.length) = some n) (hR : rm.frames + 1 ≤ R.frames ∧ 8 + (maxL + 11) + rm.locals ≤ R.locals) :
    vx_CSW R s args own index y bytes maxL ret hh ws rm mc ms n := by
  have ok : ∀ w ∈ va_wsS own index y ws, w.before args s = true := fun w h => ht w (hT w h).1
  have hG : GoodIn Ts ws := fun w h => hT w (by unfold va_wsS; exact List.mem_append_right _ h)
  have hc : Cond.codeWith y bytes maxL ret hh ∈ ws := by rw [hw]; exact List.mem_cons_self
  refine ⟨⟨hrc, hrs, hR.1, hR.2, pay_in ht hG, hc⟩, ht _ (hG _ hc).1, ok _ (by simp [va_wsS]), ⟨hd.1, hd.2.1⟩, fun sig h => ?_, ok _ (by simp [va_wsS]), ok _ (by simp [va_wsS])⟩
  have h2 := hd.2.2
  rw [h] at h2
  exact (Option.some.inj h2).symm
theorem vx_callSW (X : Stand p l e R s m args below meth c T locs cells slots) (hexec : p.tables.exec = Jvm.exec) {own : String} {index : Nat} {y : MethodName} {bytes : ByteArray} {maxL : Nat} {ret : Option FieldType} {hh : List (Nat × Nat × Nat × Nat)}
    (hown : s.vm.findClass own = some m.cls) (hlink : (Cond.methodLink own index y).before args s = true) (hstat : (Cond.static y).before args s = true) (hinit : (Cond.initialized y.cls).before args s = true)
    (hcode : (Cond.codeWith y bytes maxL ret hh).before args s = true) (hy : y.cls ≠ "java/lang/invoke/MethodHandle" ∧ y.cls ≠ "java/lang/invoke/VarHandle")
    {W9 : Nat} {Pre : Pt → Array Value → Prop} {Post : Pt → Array Value → Option Value → Pt → Prop} (hK : Back l R p e below s args y 3 W9 Pre Post)
    {g : JFrame} (hg : g.method = m) (hsize : g.locals.size = c.maxLocals) {argsL rest : List Value} (hlen : ∀ sig, parseMethodDescriptor y.desc = some sig → argsL.length = sig.parameters.length)
    (hstack : g.stack = argsL.reverse ++ rest) (hW : 2 * g.monitorRoom + (rest.map fun v => v.category).sum ≤ W9) (hdg : decode c.code g.pc = .ok (.invokestatic index, 3))
    (hpre : ∀ vm₁, s.WarmedH vm₁ → Pre ⟨T.setVm vm₁, locs, cells, slots⟩ argsL.toArray) :
    ∃ (v : Option Value) (vm₁ : Vm) (B : Pt), s.WarmedH vm₁ ∧ Stand p l e R s m args below meth c B.U B.locs B.cells B.slots ∧ Post ⟨T.setVm vm₁, locs, cells, slots⟩ argsL.toArray v B ∧
      ∀ target, Steps p.tables e below (B.U.setTop { g with pc := g.pc + 3, stack := v.toList ++ rest }) target → Steps p.tables e below (T.setTop g) target := by
  obtain ⟨mk, methM, cM, hnamed, hmethM, -, -, -, -, -, -, hsigM⟩ := Cond.codeWith_spec hcode
  have hstatic : methM.isStatic = true := Cond.static_spec hnamed hmethM hstat
  obtain ⟨kP, hkP, -⟩ := className_of_methodNamed hnamed
  have hinitP : kP.init = .initialized := Cond.initialized_spec (findClass_of_methodNamed hnamed) hkP hinit
  obtain ⟨vm₁, X₁, hstep₁⟩ := X.invokestatic hexec hown hlink hnamed hmethM hstatic hkP hinitP hy (g := g) hg (argsL := argsL) (rest := rest) (hlen _ hsigM) hstack hdg
  obtain ⟨v, B, X', hpost, hsteps⟩ := hK m meth c ⟨T.setVm vm₁, locs, cells, slots⟩ { g with stack := rest } (.invokestatic index) mk argsL.toArray X₁ hg hsize hdg hW (X₁.named hnamed) (hpre vm₁ X₁.warmed)
  exact ⟨v, vm₁, B, X₁.warmed, X', hpost, fun target h => hstep₁ _ fun acts => by rw [doInvoke_state]; exact hsteps.trans h⟩
theorem vx_runSW {y : MethodName} {bytes cc : ByteArray} {maxL nL mc ms n index : Nat} {ret : Option FieldType} {hh : List (Nat × Nat × Nat × Nat)} {ws : List Cond} {rm : Room} {Pc : Array Value → State → Prop} {Qc : Array Value → State → Outcome → State → Prop} {free : Addr → Prop} {Ts : List Cond} {own : String} {As rest : List Value} {g : JFrame}
    (S : CallFix p m c cc nL s args Ts own) (hM : Met l y ws rm Pc Qc mc ms free) (cw : vx_CSW R s args own index y bytes maxL ret hh ws rm mc ms n) (hp : PreS s H Pc As)
    (hg : g.method = m) (hn : As.length = n) (hsize : g.locals.size = nL) (hstack : g.stack = As.reverse ++ rest) (hW : 2 * g.monitorRoom + (rest.map fun v => v.category).sum ≤ 8) (hdg : decode cc g.pc = .ok (.invokestatic index, 3)) (hf : cells + mc ≤ R.cells ∧ slots + ms ≤ R.slots) :
    va_Run p l e R s m args below meth c H locs cells slots mc ms g rest (Qc As.toArray) (free) := by
  obtain ⟨⟨hrc, hrs, hfr, hlo, hws, hcw⟩, hcode, hini, hy, hlen, hl, hstt⟩ := cw
  have hK : Back l R p e below s args y 3 8 (PreOf R mc ms Pc) (PostOf Qc mc ms free) := va_backW (hh := hh) (bytes := bytes) (maxL := maxL) (ret := ret) hM hp.1 hrc hrs hfr hlo hws hcw (fun a' U hW => word_at hW (Or.inl (by first | rfl | simp [Cond.onTables, Cond.keeps, Cond.steady])) hini)
  obtain ⟨hx, hb, hml, ho, -⟩ := S
  intro T hT X
  obtain ⟨v, vm₁, ⟨U', l2, c2, s2⟩, hW₁, X', ⟨g', mk, t, L, e1, e2, hq, h1, hL, h2, h3⟩, st⟩ := vx_callSW X hx (hh := hh) (bytes := bytes) (maxL := maxL) (ret := ret) ho hl hstt hini hcode hy hK hg (hsize.trans hml.symm) (argsL := As) (rest := rest) (fun sig h => hn.trans (hlen sig h)) hstack hW (by rw [hb]; exact hdg)
    (fun vm₁ hW₁ => ⟨hf.1, hf.2, hp.2 (T.setVm vm₁) hT hW₁⟩)
  dsimp only [Pt.U, Pt.locs, Pt.cells, Pt.slots] at X' e1 e2 h1 h2 h3 st
  subst h1; subst h2; subst h3
  exact ⟨v, (T.setVm vm₁).calling g' mk As.toArray, t, U', L, hT, X', hL, e1, e2, hq, st⟩
/-- not caught here, past rows that name other classes: it goes on to the caller -/
theorem vx_outP {p : Program} {l : Launch} {e : Env} {R : Room} {s : State} {m : MethodId} {args : Array Value} {below : List Frame} {meth : Method} {c : Code} {H : Heap} {locs : List Loc} {cells slots : Nat} {free : Addr → Prop} {ls : Array Slot} {rest : List Value} {Qc : Array Value → State → Outcome → State → Prop} {XC : String → State → State → Prop}
    {pc : Nat} {own E : String} {ce : Cell} {q : Addr} {mc ms : Nat} (hown : s.vm.findClass own = some m.cls) (hlocks : meth.locks = false)
    (hpass : ∀ z ∈ c.exceptionTable.toList, covers z pc = false ∨ (z.catchType ≠ 0 ∧ ∃ nm : String, (Cond.classLink own z.catchType nm).before args s = true ∧ va_Nc E nm s)) (hcell : H[q]? = some ce) (hv : ce.vm = .none) (hcl : s.vm.findClass E = some ce.cls)
    (hx : ∀ t : State, t.heap = H → s.vm.Alike t.vm → XC E s t) (hf : ∀ z ∈ locs, free z.base) (hc : cells ≤ mc) (hs : slots ≤ ms) :
    vx_W p l e R s m args below meth c H locs cells slots (vx_MQ below Qc XC args s mc ms free) (F0 m pc ls rest) q := by
  intro T hT X
  have hpl : e.platform.magicAccessors = ({} : Platform).magicAccessors := by rw [X.admits.platform]
  obtain ⟨vm', hW', X', st⟩ := X.outThrough hlocks q (g := F0 m pc ls rest) rfl rfl rfl (cell := ce) (by rw [hT]; exact hcell) (by rw [hv]; rfl)
    (by obtain ⟨k9, h9, -⟩ := Vm.findClass_spec hcl; exact ⟨k9, h9⟩) (fun z hz => by
      rcases hpass z hz with h | ⟨hz0, nm, hl1, hn1⟩
      · exact Or.inl h
      · obtain ⟨c6, hc6, hcl6⟩ := Cond.classLink_spec hown hl1 e.platform hpl
        obtain ⟨a8, b8, h1, h2, h3⟩ := hn1
        cases Option.some.inj (h1.symm.trans hcl)
        cases Option.some.inj (h2.symm.trans hc6)
        exact Or.inr ⟨hz0, _, hcl6, h3⟩)
  obtain ⟨g₀, hfr⟩ := X'.frames_eq
  have hcell9 : ((T.setVm vm').setFrames (.throwing q :: below)).heap[q]? = some ce := by
    show T.heap[q]? = some ce
    rw [hT]; exact hcell
  have hend : Ended ((T.setVm vm').setFrames (.throwing q :: below)) below (.threw q) := State.frames_setFrames _ (State.cur_lt_of_frames hfr)
  refine ⟨(T.setVm vm').setFrames (.throwing q :: below), ?_, .threw q, X'.here.running, hend, Or.inr ⟨q, rfl, E, ce, locs, hx _ hT (X'.ends _).1.alike, hcell9, hv, hcl, (X'.ends _).1, (X'.ends _).2.mono hc hs, hf⟩⟩
  rw [X.pushThrowing_eq]
  exact st
/-- a thing of a world lies in the heap -/
theorem vx_lt {D : va_G} {cl : List vw_C} {ws : va_W} {H1 : Heap} (h : va_P D cl ws H1) {k : Nat} {q : Nat × va_E} (hk : ws[k]? = some q) : q.1 < H1.size := (h k q hk).lt
end VXS
/-! ===== END ===== -/
/-! ===== BEGIN methods with a table of their own: called by a name, returning or throwing ===== -/
section VXH
/-! vx_backW, vx_callVX, vx_callSX, vx_callVW, vx_runVW, vx_runVX, vx_runSX, vx_ofWH follow the same proofs as their sisters above (Free/Laws.lean, Shelf42/LK1.lean); vx_outP calls Shelf42/NT130.lean (outThrough). -/
section
variable {l : Launch} {R : Room} {p : Program} {e : Env} {below : List Frame} {s : State} {sargs : Array Value} {y : MethodName} {len W9 : Nat}
theorem vx_backW {ws : List Cond} {rm : Room} {Pc : Array Value → State → Prop} {Qc : Array Value → State → Outcome → State → Prop} {XC : String → State → State → Prop} {mc ms : Nat} {free : Addr → Prop} {bytes : ByteArray} {maxL : Nat} {ret : Option FieldType} {hh : List (Nat × Nat × Nat × Nat)}
    (hM : vx_Met l y ws rm Pc Qc XC mc ms free) (hblind : FrameBlind Pc) (hrc : rm.cells = mc) (hrs : rm.slots = ms)
    (hframes : rm.frames + 1 ≤ R.frames) (hlocals : W9 + (maxL + 11) + rm.locals ≤ R.locals)
    (hws : ∀ w ∈ ws, ∀ a' U, s.WarmedH U.vm → w.before a' U = true) (hcode : Cond.codeWith y bytes maxL ret hh ∈ ws) (hinit : ∀ a' U, s.WarmedH U.vm → (Cond.initialized y.cls).before a' U = true) :
    vx_Back l R p e below s sargs y len W9 (PreOf R mc ms Pc) (PostOf Qc mc ms free) (vx_Post XC mc ms free) := by
  intro m meth c A g ig mk a X hg hsize hdg hW hn hp
  have h1 : (headSpec ws rm).pre.before a A.U = true := atoms_intro fun w hw => hws w hw _ _ X.warmed
  have h2 : (Cond.codeWith y bytes maxL ret hh).before a A.U = true := hws _ hcode _ _ X.warmed
  have h3 : (Cond.initialized y.cls).before a A.U = true := hinit _ _ X.warmed
  have h4 : A.cells + (headSpec ws rm).room.cells ≤ R.cells := by rw [show (headSpec ws rm).room.cells = mc from hrc]; exact hp.1
  have h5 : A.slots + (headSpec ws rm).room.slots ≤ R.slots := by rw [show (headSpec ws rm).room.slots = ms from hrs]; exact hp.2.1
  have hPc : Pc a (A.U.calling g mk a) := hblind _ _ _ _ hp.2.2
  obtain ⟨U, Ls, c0, s0⟩ := A
  dsimp only [Pt.U, Pt.locs, Pt.cells, Pt.slots] at h1 h2 h3 h4 h5 X hn hPc ⊢
  obtain ⟨m9, methY, cY, hn9, hmY, hcY, -, hlY, -⟩ := Cond.codeWith_spec h2
  cases Option.some.inj (hn9.symm.trans hn)
  obtain ⟨kY, hkY, -⟩ := className_of_methodNamed hn
  have hinitY : kY.init = .initialized := Cond.initialized_spec (findClass_of_methodNamed hn) hkY h3
  have h : At U g.method c below := by rw [hg]; exact X.here
  have hlocals9 : W9 + (maxL + 11) + (headSpec ws rm).room.locals ≤ R.locals := hlocals
  have happ : (headSpec ws rm).appliesLoose y e.platform (U.calling g mk a) = true :=
    Spec.appliesLoose_calling (g := g) h hdg hn hkY hinitY
      (X.room_calling (g := g) (R' := (headSpec ws rm).room) hsize hmY hcY hframes (by rw [hlY]; omega) h4 h5) h1
  obtain ⟨mid, hmid⟩ := h.above
  have hfr : (U.setTop g).frames = (.java g :: mid) ++ below := by rw [State.frames_setTop' g h.top, hmid]; rfl
  obtain ⟨o, s₂, hsteps, -, hend, hq⟩ := Steps.callFree hM p X.admits X.cas X.clock (acts := []) hfr happ hPc trivial
  have hq' : vx_Q Qc XC mc ms free a (U.calling g mk a) o s₂ := hq
  rw [State.frames_setTop' g h.top] at hend
  obtain ⟨g₀, hg0⟩ := Option.isSome_iff_exists.mp h.top
  obtain ⟨r, hr⟩ := State.topJava?_eq_some.mp hg0
  have hr' : (({ U with heap := s₂.heap, slotsUsed := s₂.slotsUsed } : State).setVm s₂.vm).frames = .java g₀ :: r := hr
  rcases hq' with ⟨hqc, L, hfe, hL⟩ | ⟨q, rfl, E, ce, L, hx, hce, hcv, hcl, hW₂, hsm, hL⟩
  · obtain ⟨⟨v, rfl⟩, hW₂, e2, q2, q3, q4, q5, q6⟩ := id hfe
    have e3 : s₂ = ({ (U.calling g mk a).setFrames s₂.frames with heap := s₂.heap, slotsUsed := s₂.slotsUsed } : State).setVm s₂.vm := by
      have : s₂ = ({ s₂ with vm := (U.calling g mk a).vm } : State).setVm s₂.vm := rfl
      rw [e2] at this
      exact this
    obtain ⟨c₂, i₂, len₂, hc₂, hd₂, hf₂⟩ := hend
    have hW' : U.WarmedH s₂.vm := hW₂
    have hcc : c₂ = c := by
      have h1 : s₂.code? g.method = U.code? g.method := by
        rw [State.code?_eq, State.code?_eq, hW'.alike.method?]
      exact Option.some.inj (hc₂.symm.trans (h1.trans h.code))
    subst hcc
    have hlen : len₂ = len := by rw [hdg] at hd₂; cases hd₂; rfl
    subst hlen
    have hs₂ : s₂ = (({ U with heap := s₂.heap, slotsUsed := s₂.slotsUsed } : State).setVm s₂.vm).setTop { g with pc := g.pc + len₂, stack := v.toList ++ g.stack } := by
      refine e3.trans ?_
      rw [hf₂, State.calling_eq h.top, State.setFrames_setFrames, State.setTop_of_frames _ hr', hr]
      rfl
    have hsame : U.sameButNew ({ U with heap := s₂.heap, slotsUsed := s₂.slotsUsed } : State) L mc ms := by
      refine ⟨?_, q2, q3, q4, q5, q6⟩
      obtain ⟨t, ht, -⟩ := State.frames_cons hr
      show ({ U with heap := s₂.heap, slotsUsed := s₂.slotsUsed } : State) = { U.setFrames U.frames with heap := s₂.heap, slotsUsed := s₂.slotsUsed }
      rw [State.setFrames_self ht]
    subst hg
    refine Or.inl ⟨v, ⟨(({ U with heap := s₂.heap, slotsUsed := s₂.slotsUsed } : State).setVm s₂.vm), Ls ++ L, c0 + mc, s0 + ms⟩,
      ⟨X.admits, X.cas, X.clock, X.frames, X.room, X.hears, X.method, X.code, (X.here.setHeapUsed s₂.heap s₂.slotsUsed).setVm hW'.alike, X.tail, State.WarmedH.trans X.warmed hW', X.limits, X.bytes, X.same.trans (hsame.setVm s.vm)⟩,
      ⟨g, mk, s₂, L, rfl, rfl, hqc, rfl, hL, rfl, rfl⟩, ?_⟩
    show Steps p.tables e below _ ((({ U with heap := s₂.heap, slotsUsed := s₂.slotsUsed } : State).setVm s₂.vm).setTop { g with pc := g.pc + len₂, stack := v.toList ++ g.stack })
    rw [← hs₂]
    exact hsteps
  · obtain ⟨e2, q2, q3, q4, q5, q6⟩ := id hsm
    have e3 : s₂ = ({ (U.calling g mk a).setFrames s₂.frames with heap := s₂.heap, slotsUsed := s₂.slotsUsed } : State).setVm s₂.vm := by
      have : s₂ = ({ s₂ with vm := (U.calling g mk a).vm } : State).setVm s₂.vm := rfl
      rw [e2] at this
      exact this
    have hf₂ : s₂.frames = .throwing q :: .java g :: U.frames.tail := hend
    have hW' : U.WarmedH s₂.vm := hW₂
    have hs₂ : s₂ = ((({ U with heap := s₂.heap, slotsUsed := s₂.slotsUsed } : State).setVm s₂.vm).setTop g).pushFrame (.throwing q) := by
      refine e3.trans ?_
      rw [hf₂, State.calling_eq h.top, State.setFrames_setFrames, State.pushFrame, State.frames_setTop _ hr', State.setTop_of_frames _ hr', State.setFrames_setFrames, hr]
      rfl
    have hsame : U.sameButNew ({ U with heap := s₂.heap, slotsUsed := s₂.slotsUsed } : State) L mc ms := by
      refine ⟨?_, q2, q3, q4, q5, q6⟩
      obtain ⟨t, ht, -⟩ := State.frames_cons hr
      show ({ U with heap := s₂.heap, slotsUsed := s₂.slotsUsed } : State) = { U.setFrames U.frames with heap := s₂.heap, slotsUsed := s₂.slotsUsed }
      rw [State.setFrames_self ht]
    subst hg
    refine Or.inr ⟨q, ⟨(({ U with heap := s₂.heap, slotsUsed := s₂.slotsUsed } : State).setVm s₂.vm), Ls ++ L, c0 + mc, s0 + ms⟩,
      ⟨X.admits, X.cas, X.clock, X.frames, X.room, X.hears, X.method, X.code, (X.here.setHeapUsed s₂.heap s₂.slotsUsed).setVm hW'.alike, X.tail, State.WarmedH.trans X.warmed hW', X.limits, X.bytes, X.same.trans (hsame.setVm s.vm)⟩,
      ⟨g, mk, s₂, L, E, ce, rfl, rfl, hx, hce, hcv, hcl, rfl, hL, rfl, rfl⟩, ?_⟩
    show Steps p.tables e below _ (((({ U with heap := s₂.heap, slotsUsed := s₂.slotsUsed } : State).setVm s₂.vm).setTop g).pushFrame (.throwing q))
    rw [← hs₂]
    exact hsteps
end
variable {p : Program} {l : Launch} {e : Env} {R : Room} {s : State} {m : MethodId} {args : Array Value} {below : List Frame} {meth : Method} {c : Code} {T : State} {H : Heap} {locs : List Loc} {cells slots : Nat}
theorem vx_callVX (X : Stand p l e R s m args below meth c T locs cells slots) (hexec : p.tables.exec = Jvm.exec) {own C : String} {index : Nat} {y : MethodName} {bytes : ByteArray} {maxL : Nat} {ret : Option FieldType} {hh : List (Nat × Nat × Nat × Nat)}
    (hown : s.vm.findClass own = some m.cls) (hlink : (Cond.methodLink own index y).before args s = true) (hinst : (Cond.instanceMethod y).before args s = true) (hsel : (Cond.selects C y y).before args s = true)
    (hcode : (Cond.codeWith y bytes maxL ret hh).before args s = true) (hy : y.cls ≠ "java/lang/invoke/MethodHandle" ∧ y.cls ≠ "java/lang/invoke/VarHandle")
    {W9 : Nat} {Pre : Pt → Array Value → Prop} {Post : Pt → Array Value → Option Value → Pt → Prop} {PostX : Pt → Array Value → Addr → Pt → Prop} (hK : vx_Back l R p e below s args y 3 W9 Pre Post PostX)
    {b : Addr} {cellB : Cell} (hcell : T.heap[b]? = some cellB) (hobj : cellB.vm.isStatics = false) (hcls : s.vm.findClass C = some cellB.cls)
    {g : JFrame} (hg : g.method = m) (hsize : g.locals.size = c.maxLocals) {argsL rest : List Value} (hlen : ∀ sig, parseMethodDescriptor y.desc = some sig → argsL.length = sig.parameters.length)
    (hstack : g.stack = argsL.reverse ++ .ref b :: rest) (hW : 2 * g.monitorRoom + (rest.map fun v => v.category).sum ≤ W9) (hdg : decode c.code g.pc = .ok (.invokevirtual index, 3))
    (hpre : ∀ vm₁, s.WarmedH vm₁ → Pre ⟨T.setVm vm₁, locs, cells, slots⟩ (Value.ref b :: argsL).toArray) :
    (∃ (v : Option Value) (vm₁ : Vm) (B : Pt), s.WarmedH vm₁ ∧ Stand p l e R s m args below meth c B.U B.locs B.cells B.slots ∧ Post ⟨T.setVm vm₁, locs, cells, slots⟩ (Value.ref b :: argsL).toArray v B ∧
      ∀ target, Steps p.tables e below (B.U.setTop { g with pc := g.pc + 3, stack := v.toList ++ rest }) target → Steps p.tables e below (T.setTop g) target) ∨
    (∃ (q : Addr) (vm₁ : Vm) (B : Pt), s.WarmedH vm₁ ∧ Stand p l e R s m args below meth c B.U B.locs B.cells B.slots ∧ PostX ⟨T.setVm vm₁, locs, cells, slots⟩ (Value.ref b :: argsL).toArray q B ∧
      Steps p.tables e below (T.setTop g) ((B.U.setTop { g with stack := rest }).pushFrame (.throwing q))) := by
  obtain ⟨mk, methM, hnamed, hmethM, hstM, habM⟩ := Cond.instanceMethod_spec hinst
  obtain ⟨m8, methM', cM, hn8, hmethM', -, -, -, -, -, -, hsigM⟩ := Cond.codeWith_spec hcode
  cases Option.some.inj (hn8.symm.trans hnamed)
  cases hmethM.symm.trans hmethM'
  obtain ⟨c2, r2, m2, q1, q2, q3, q4, kP, hkP, hkPi⟩ := Cond.selects_spec hsel
  cases hcls.symm.trans q1
  cases (State.methodFound?_of_named hnamed hy).symm.trans q2
  cases hnamed.symm.trans q3
  have hselP : selectMethod e.platform s.vm cellB.cls mk = .method mk := by rw [Launch.admits_selectMethod X.admits]; exact q4
  obtain ⟨vm₁, X₁, hstep₁⟩ := X.invokevirtual hexec hown hlink hnamed hmethM hstM hkP hkPi hy (a := b) (cell := cellB) hcell
    (fun z h => by rw [h] at hobj; cases hobj) hselP hmethM habM hkP hkPi (g := g) hg (argsL := argsL) (rest := rest) (hlen _ hsigM) hstack hdg
  rcases hK m meth c ⟨T.setVm vm₁, locs, cells, slots⟩ { g with stack := rest } (.invokevirtual index) mk (Value.ref b :: argsL).toArray X₁ hg hsize hdg hW (X₁.named hnamed) (hpre vm₁ X₁.warmed) with ⟨v, B, X', hpost, hsteps⟩ | ⟨q, B, X', hpost, hsteps⟩
  · exact Or.inl ⟨v, vm₁, B, X₁.warmed, X', hpost, fun target h => hstep₁ _ fun acts => by rw [doInvoke_state]; exact hsteps.trans h⟩
  · exact Or.inr ⟨q, vm₁, B, X₁.warmed, X', hpost, hstep₁ _ fun acts => by rw [doInvoke_state]; exact hsteps⟩
theorem vx_callSX (X : Stand p l e R s m args below meth c T locs cells slots) (hexec : p.tables.exec = Jvm.exec) {own : String} {index : Nat} {y : MethodName} {bytes : ByteArray} {maxL : Nat} {ret : Option FieldType} {hh : List (Nat × Nat × Nat × Nat)}
    (hown : s.vm.findClass own = some m.cls) (hlink : (Cond.methodLink own index y).before args s = true) (hstat : (Cond.static y).before args s = true) (hinit : (Cond.initialized y.cls).before args s = true)
    (hcode : (Cond.codeWith y bytes maxL ret hh).before args s = true) (hy : y.cls ≠ "java/lang/invoke/MethodHandle" ∧ y.cls ≠ "java/lang/invoke/VarHandle")
    {W9 : Nat} {Pre : Pt → Array Value → Prop} {Post : Pt → Array Value → Option Value → Pt → Prop} {PostX : Pt → Array Value → Addr → Pt → Prop} (hK : vx_Back l R p e below s args y 3 W9 Pre Post PostX)
    {g : JFrame} (hg : g.method = m) (hsize : g.locals.size = c.maxLocals) {argsL rest : List Value} (hlen : ∀ sig, parseMethodDescriptor y.desc = some sig → argsL.length = sig.parameters.length)
    (hstack : g.stack = argsL.reverse ++ rest) (hW : 2 * g.monitorRoom + (rest.map fun v => v.category).sum ≤ W9) (hdg : decode c.code g.pc = .ok (.invokestatic index, 3))
    (hpre : ∀ vm₁, s.WarmedH vm₁ → Pre ⟨T.setVm vm₁, locs, cells, slots⟩ argsL.toArray) :
    (∃ (v : Option Value) (vm₁ : Vm) (B : Pt), s.WarmedH vm₁ ∧ Stand p l e R s m args below meth c B.U B.locs B.cells B.slots ∧ Post ⟨T.setVm vm₁, locs, cells, slots⟩ argsL.toArray v B ∧
      ∀ target, Steps p.tables e below (B.U.setTop { g with pc := g.pc + 3, stack := v.toList ++ rest }) target → Steps p.tables e below (T.setTop g) target) ∨
    (∃ (q : Addr) (vm₁ : Vm) (B : Pt), s.WarmedH vm₁ ∧ Stand p l e R s m args below meth c B.U B.locs B.cells B.slots ∧ PostX ⟨T.setVm vm₁, locs, cells, slots⟩ argsL.toArray q B ∧
      Steps p.tables e below (T.setTop g) ((B.U.setTop { g with stack := rest }).pushFrame (.throwing q))) := by
  obtain ⟨mk, methM, cM, hnamed, hmethM, -, -, -, -, -, -, hsigM⟩ := Cond.codeWith_spec hcode
  have hstatic : methM.isStatic = true := Cond.static_spec hnamed hmethM hstat
  obtain ⟨kP, hkP, -⟩ := className_of_methodNamed hnamed
  have hinitP : kP.init = .initialized := Cond.initialized_spec (findClass_of_methodNamed hnamed) hkP hinit
  obtain ⟨vm₁, X₁, hstep₁⟩ := X.invokestatic hexec hown hlink hnamed hmethM hstatic hkP hinitP hy (g := g) hg (argsL := argsL) (rest := rest) (hlen _ hsigM) hstack hdg
  rcases hK m meth c ⟨T.setVm vm₁, locs, cells, slots⟩ { g with stack := rest } (.invokestatic index) mk argsL.toArray X₁ hg hsize hdg hW (X₁.named hnamed) (hpre vm₁ X₁.warmed) with ⟨v, B, X', hpost, hsteps⟩ | ⟨q, B, X', hpost, hsteps⟩
  · exact Or.inl ⟨v, vm₁, B, X₁.warmed, X', hpost, fun target h => hstep₁ _ fun acts => by rw [doInvoke_state]; exact hsteps.trans h⟩
  · exact Or.inr ⟨q, vm₁, B, X₁.warmed, X', hpost, hstep₁ _ fun acts => by rw [doInvoke_state]; exact hsteps⟩
theorem vx_callVW (X : Stand p l e R s m args below meth c T locs cells slots) (hexec : p.tables.exec = Jvm.exec) {own C : String} {index : Nat} {y : MethodName} {bytes : ByteArray} {maxL : Nat} {ret : Option FieldType} {hh : List (Nat × Nat × Nat × Nat)}
    (hown : s.vm.findClass own = some m.cls) (hlink : (Cond.methodLink own index y).before args s = true) (hinst : (Cond.instanceMethod y).before args s = true) (hsel : (Cond.selects C y y).before args s = true)
    (hcode : (Cond.codeWith y bytes maxL ret hh).before args s = true) (hy : y.cls ≠ "java/lang/invoke/MethodHandle" ∧ y.cls ≠ "java/lang/invoke/VarHandle")
    {W9 : Nat} {Pre : Pt → Array Value → Prop} {Post : Pt → Array Value → Option Value → Pt → Prop} (hK : Back l R p e below s args y 3 W9 Pre Post)
    {b : Addr} {cellB : Cell} (hcell : T.heap[b]? = some cellB) (hobj : cellB.vm.isStatics = false) (hcls : s.vm.findClass C = some cellB.cls)
    {g : JFrame} (hg : g.method = m) (hsize : g.locals.size = c.maxLocals) {argsL rest : List Value} (hlen : ∀ sig, parseMethodDescriptor y.desc = some sig → argsL.length = sig.parameters.length)
    (hstack : g.stack = argsL.reverse ++ .ref b :: rest) (hW : 2 * g.monitorRoom + (rest.map fun v => v.category).sum ≤ W9) (hdg : decode c.code g.pc = .ok (.invokevirtual index, 3))
    (hpre : ∀ vm₁, s.WarmedH vm₁ → Pre ⟨T.setVm vm₁, locs, cells, slots⟩ (Value.ref b :: argsL).toArray) :
    ∃ (v : Option Value) (vm₁ : Vm) (B : Pt), s.WarmedH vm₁ ∧ Stand p l e R s m args below meth c B.U B.locs B.cells B.slots ∧ Post ⟨T.setVm vm₁, locs, cells, slots⟩ (Value.ref b :: argsL).toArray v B ∧
      ∀ target, Steps p.tables e below (B.U.setTop { g with pc := g.pc + 3, stack := v.toList ++ rest }) target → Steps p.tables e below (T.setTop g) target := by
  obtain ⟨mk, methM, hnamed, hmethM, hstM, habM⟩ := Cond.instanceMethod_spec hinst
  obtain ⟨m8, methM', cM, hn8, hmethM', -, -, -, -, -, -, hsigM⟩ := Cond.codeWith_spec hcode
  cases Option.some.inj (hn8.symm.trans hnamed)
  cases hmethM.symm.trans hmethM'
  obtain ⟨c2, r2, m2, q1, q2, q3, q4, kP, hkP, hkPi⟩ := Cond.selects_spec hsel
  cases hcls.symm.trans q1
  cases (State.methodFound?_of_named hnamed hy).symm.trans q2
  cases hnamed.symm.trans q3
  have hselP : selectMethod e.platform s.vm cellB.cls mk = .method mk := by rw [Launch.admits_selectMethod X.admits]; exact q4
  obtain ⟨vm₁, X₁, hstep₁⟩ := X.invokevirtual hexec hown hlink hnamed hmethM hstM hkP hkPi hy (a := b) (cell := cellB) hcell
    (fun z h => by rw [h] at hobj; cases hobj) hselP hmethM habM hkP hkPi (g := g) hg (argsL := argsL) (rest := rest) (hlen _ hsigM) hstack hdg
  obtain ⟨v, B, X', hpost, hsteps⟩ := hK m meth c ⟨T.setVm vm₁, locs, cells, slots⟩ { g with stack := rest } (.invokevirtual index) mk (Value.ref b :: argsL).toArray X₁ hg hsize hdg hW (X₁.named hnamed) (hpre vm₁ X₁.warmed)
  exact ⟨v, vm₁, B, X₁.warmed, X', hpost, fun target h => hstep₁ _ fun acts => by rw [doInvoke_state]; exact hsteps.trans h⟩
abbrev vx_CVW (R : Room) (s : State) (args : Array Value) (own C : String) (index : Nat) (y : MethodName) (bytes : ByteArray) (maxL : Nat) (ret : Option FieldType) (hh : List (Nat × Nat × Nat × Nat)) (ws : List Cond) (rm : Room) (mc ms n : Nat) : Prop :=
  (rm.cells = mc ∧ rm.slots = ms ∧ rm.frames + 1 ≤ R.frames ∧ 8 + (maxL + 11) + rm.locals ≤ R.locals ∧ (∀ w ∈ ws, ∀ (a' : Array Value) (U : State), s.WarmedH U.vm → w.before a' U = true) ∧ Cond.codeWith y bytes maxL ret hh ∈ ws) ∧
  (Cond.codeWith y bytes maxL ret hh).before args s = true ∧ (Cond.initialized y.cls).before args s = true ∧ (y.cls ≠ "java/lang/invoke/MethodHandle" ∧ y.cls ≠ "java/lang/invoke/VarHandle") ∧
  (∀ sig, parseMethodDescriptor y.desc = some sig → n = sig.parameters.length) ∧ (Cond.methodLink own index y).before args s = true ∧ (Cond.instanceMethod y).before args s = true ∧ (Cond.selects C y y).before args s = true
theorem vx_cwVW {own C : String} {index maxL mc ms : Nat} {y : MethodName} {bytes : ByteArray} {ret : Option FieldType} {hh : List (Nat × Nat × Nat × Nat)} {Ts ws ws' : List Cond} {rm : Room} (n : Nat) (ht : ∀ w ∈ Ts, w.before args s = true) (hT : GoodIn Ts (wsV own index C y ws)) (hw : ws = Cond.codeWith y bytes maxL ret hh :: ws') (hrc : rm.cells = mc) (hrs : rm.slots = ms)
    (hd : y.cls = C ∧ y.cls ≠ "java/lang/invoke/MethodHandle" ∧ y.cls ≠ "java/lang/invoke/VarHandle" ∧ (parseMethodDescriptor y.desc).map (fun d => d.parameters.length) = some n) (hR : rm.frames + 1 ≤ R.frames ∧ 8 + (maxL + 11) + rm.locals ≤ R.locals) :
    vx_CVW R s args own C index y bytes maxL ret hh ws rm mc ms n := by
  obtain ⟨hC, hd⟩ := hd
  subst hC
  have ok : ∀ w ∈ wsV own index y.cls y ws, w.before args s = true := fun w h => ht w (hT w h).1
  have hG : GoodIn Ts ws := fun w h => hT w (by unfold wsV; exact List.mem_append_right _ h)
  have hc : Cond.codeWith y bytes maxL ret hh ∈ ws := by rw [hw]; exact List.mem_cons_self
  refine ⟨⟨hrc, hrs, hR.1, hR.2, pay_in ht hG, hc⟩, ht _ (hG _ hc).1, ok _ (by simp [wsV]), ⟨hd.1, hd.2.1⟩, fun sig h => ?_, ok _ (by simp [wsV]), ok _ (by simp [wsV]), ok _ (by simp [wsV])⟩
  have h2 := hd.2.2
  rw [h] at h2
  exact (Option.some.inj h2).symm
theorem vx_runVW {y : MethodName} {bytes cc : ByteArray} {maxL nL mc ms n index : Nat} {ret : Option FieldType} {hh : List (Nat × Nat × Nat × Nat)} {ws : List Cond} {rm : Room} {Pc : Array Value → State → Prop} {Qc : Array Value → State → Outcome → State → Prop} {free : Addr → Prop} {Ts : List Cond} {own C : String} {b : Addr} {As rest : List Value} {g : JFrame}
    (S : CallFix p m c cc nL s args Ts own) (hM : Met l y ws rm Pc Qc mc ms free) (cw : vx_CVW R s args own C index y bytes maxL ret hh ws rm mc ms n) (hp : PreV s H C b Pc As)
    (hg : g.method = m) (hn : As.length = n) (hsize : g.locals.size = nL) (hstack : g.stack = As.reverse ++ .ref b :: rest) (hW : 2 * g.monitorRoom + (rest.map fun v => v.category).sum ≤ 8) (hdg : decode cc g.pc = .ok (.invokevirtual index, 3)) (hf : cells + mc ≤ R.cells ∧ slots + ms ≤ R.slots) :
    va_Run p l e R s m args below meth c H locs cells slots mc ms g rest (Qc (Value.ref b :: As).toArray) free := by
  obtain ⟨⟨hrc, hrs, hfr, hlo, hws, hcw⟩, hcode, hini, hy, hlen, hl, hin, hse⟩ := cw
  have hK : Back l R p e below s args y 3 8 (PreOf R mc ms Pc) (PostOf Qc mc ms free) := va_backW (hh := hh) (bytes := bytes) (maxL := maxL) (ret := ret) hM hp.1 hrc hrs hfr hlo hws hcw (fun a' U hW => word_at hW (Or.inl (by first | rfl | simp [Cond.onTables, Cond.keeps, Cond.steady])) hini)
  obtain ⟨hx, hb, hml, ho, -⟩ := S
  obtain ⟨-, ⟨cellB, hcB, hoB, hclB⟩, hPc⟩ := hp
  intro T hT X
  obtain ⟨v, vm₁, ⟨U', l2, c2, s2⟩, hW₁, X', ⟨g', mk, t, L, e1, e2, hq, h1, hL, h2, h3⟩, st⟩ := vx_callVW X hx (C := C) (hh := hh) (bytes := bytes) (maxL := maxL) (ret := ret) ho hl hin hse hcode hy hK (by rw [hT]; exact hcB) hoB hclB hg (hsize.trans hml.symm) (argsL := As) (rest := rest) (fun sig h => hn.trans (hlen sig h)) hstack hW (by rw [hb]; exact hdg)
    (fun vm₁ hW₁ => ⟨hf.1, hf.2, hPc (T.setVm vm₁) hT hW₁⟩)
  dsimp only [Pt.U, Pt.locs, Pt.cells, Pt.slots] at X' e1 e2 h1 h2 h3 st
  subst h1; subst h2; subst h3
  exact ⟨v, (T.setVm vm₁).calling g' mk (Value.ref b :: As).toArray, t, U', L, hT, X', hL, e1, e2, hq, st⟩
section
variable {y : MethodName} {bytes cc : ByteArray} {maxL nL mc ms n index : Nat} {ret : Option FieldType} {ws : List Cond} {rm : Room} {Pc : Array Value → State → Prop} {Qc : Array Value → State → Outcome → State → Prop} {XC : String → State → State → Prop} {free : Addr → Prop} {Ts : List Cond} {own C : String} {b : Addr} {As rest : List Value} {g : JFrame}
theorem vx_runVX {hh : List (Nat × Nat × Nat × Nat)} (S : CallFix p m c cc nL s args Ts own) (hM : vx_Met l y ws rm Pc Qc XC mc ms free) (cw : vx_CVW R s args own C index y bytes maxL ret hh ws rm mc ms n) (hp : PreV s H C b Pc As)
    (hg : g.method = m) (hn : As.length = n) (hsize : g.locals.size = nL) (hstack : g.stack = As.reverse ++ .ref b :: rest) (hW : 2 * g.monitorRoom + (rest.map fun v => v.category).sum ≤ 8) (hdg : decode cc g.pc = .ok (.invokevirtual index, 3)) (hf : cells + mc ≤ R.cells ∧ slots + ms ≤ R.slots) :
    vx_Run p l e R s m args below meth c H locs cells slots mc ms g rest (Qc (Value.ref b :: As).toArray) XC free := by
  obtain ⟨⟨hrc, hrs, hfr, hlo, hws, hcw⟩, hcode, hini, hy, hlen, hl, hin, hse⟩ := cw
  have hK : vx_Back l R p e below s args y 3 8 (PreOf R mc ms Pc) (PostOf Qc mc ms free) (vx_Post XC mc ms free) := vx_backW (hh := hh) (bytes := bytes) (maxL := maxL) (ret := ret) hM hp.1 hrc hrs hfr hlo hws hcw (fun a' U hW => word_at hW (Or.inl (by first | rfl | simp [Cond.onTables, Cond.keeps, Cond.steady])) hini)
  obtain ⟨hx, hb, hml, ho, -⟩ := S
  obtain ⟨-, ⟨cellB, hcB, hoB, hclB⟩, hPc⟩ := hp
  intro T hT X
  rcases vx_callVX X hx (C := C) (hh := hh) (bytes := bytes) (maxL := maxL) (ret := ret) ho hl hin hse hcode hy hK (by rw [hT]; exact hcB) hoB hclB hg (hsize.trans hml.symm) (argsL := As) (rest := rest) (fun sig h => hn.trans (hlen sig h)) hstack hW (by rw [hb]; exact hdg)
    (fun vm₁ hW₁ => ⟨hf.1, hf.2, hPc (T.setVm vm₁) hT hW₁⟩) with ⟨v, vm₁, ⟨U', l2, c2, s2⟩, hW₁, X', ⟨g', mk, t, L, e1, e2, hq, h1, hL, h2, h3⟩, st⟩ | ⟨q, vm₁, ⟨U', l2, c2, s2⟩, hW₁, X', ⟨g', mk, t, L, E, ce, e1, e2, hq, hce, hcv, hcl, h1, hL, h2, h3⟩, st⟩
  · dsimp only [Pt.U, Pt.locs, Pt.cells, Pt.slots] at X' e1 e2 h1 h2 h3 st
    subst h1; subst h2; subst h3
    exact Or.inl ⟨v, (T.setVm vm₁).calling g' mk (Value.ref b :: As).toArray, t, U', L, hT, X', hL, e1, e2, hq, st⟩
  · dsimp only [Pt.U, Pt.locs, Pt.cells, Pt.slots] at X' e1 e2 h1 h2 h3 st hcl
    subst h1; subst h2; subst h3
    exact Or.inr ⟨q, (T.setVm vm₁).calling g' mk (Value.ref b :: As).toArray, t, U', L, E, ce, hT, X', hL, e1, e2, hq, hce, hcv, vx_cls hW₁ hcl, st⟩
theorem vx_runSX {hh : List (Nat × Nat × Nat × Nat)} (S : CallFix p m c cc nL s args Ts own) (hM : vx_Met l y ws rm Pc Qc XC mc ms free) (cw : vx_CSW R s args own index y bytes maxL ret hh ws rm mc ms n) (hp : PreS s H Pc As)
    (hg : g.method = m) (hn : As.length = n) (hsize : g.locals.size = nL) (hstack : g.stack = As.reverse ++ rest) (hW : 2 * g.monitorRoom + (rest.map fun v => v.category).sum ≤ 8) (hdg : decode cc g.pc = .ok (.invokestatic index, 3)) (hf : cells + mc ≤ R.cells ∧ slots + ms ≤ R.slots) :
    vx_Run p l e R s m args below meth c H locs cells slots mc ms g rest (Qc As.toArray) XC free := by
  obtain ⟨⟨hrc, hrs, hfr, hlo, hws, hcw⟩, hcode, hini, hy, hlen, hl, hstt⟩ := cw
  have hK : vx_Back l R p e below s args y 3 8 (PreOf R mc ms Pc) (PostOf Qc mc ms free) (vx_Post XC mc ms free) := vx_backW (hh := hh) (bytes := bytes) (maxL := maxL) (ret := ret) hM hp.1 hrc hrs hfr hlo hws hcw (fun a' U hW => word_at hW (Or.inl (by first | rfl | simp [Cond.onTables, Cond.keeps, Cond.steady])) hini)
  obtain ⟨hx, hb, hml, ho, -⟩ := S
  intro T hT X
  rcases vx_callSX X hx (hh := hh) (bytes := bytes) (maxL := maxL) (ret := ret) ho hl hstt hini hcode hy hK hg (hsize.trans hml.symm) (argsL := As) (rest := rest) (fun sig h => hn.trans (hlen sig h)) hstack hW (by rw [hb]; exact hdg)
    (fun vm₁ hW₁ => ⟨hf.1, hf.2, hp.2 (T.setVm vm₁) hT hW₁⟩) with ⟨v, vm₁, ⟨U', l2, c2, s2⟩, hW₁, X', ⟨g', mk, t, L, e1, e2, hq, h1, hL, h2, h3⟩, st⟩ | ⟨q, vm₁, ⟨U', l2, c2, s2⟩, hW₁, X', ⟨g', mk, t, L, E, ce, e1, e2, hq, hce, hcv, hcl, h1, hL, h2, h3⟩, st⟩
  · dsimp only [Pt.U, Pt.locs, Pt.cells, Pt.slots] at X' e1 e2 h1 h2 h3 st
    subst h1; subst h2; subst h3
    exact Or.inl ⟨v, (T.setVm vm₁).calling g' mk As.toArray, t, U', L, hT, X', hL, e1, e2, hq, st⟩
  · dsimp only [Pt.U, Pt.locs, Pt.cells, Pt.slots] at X' e1 e2 h1 h2 h3 st hcl
    subst h1; subst h2; subst h3
    exact Or.inr ⟨q, (T.setVm vm₁).calling g' mk As.toArray, t, U', L, E, ce, hT, X', hL, e1, e2, hq, hce, hcv, vx_cls hW₁ hcl, st⟩
end
end VXH
theorem vx_ofWH {l : Launch} {y : MethodName} {ws ws' : List Cond} {rm : Room} {Pc : Array Value → State → Prop} {Qc : Array Value → State → Outcome → State → Prop} {XC : String → State → State → Prop} {mc ms : Nat} {free : Addr → Prop} {cc : ByteArray} {maxL : Nat} {ret : Option FieldType} {hh : List (Nat × Nat × Nat × Nat)}
    (hy : plainName y.cls = true) (hw : ws = Cond.codeWith y cc maxL ret hh :: ws')
    (body : ∀ p e s m args below meth c s₁, BodyLoose p l y (headSpec ws rm) cc maxL ret e s m args below meth c s₁ → c.maxLocals = maxL → Pc args s →
      W p l e (headSpec ws rm).room s m args below meth c s.heap [] 0 0 (vx_MQ below Qc XC args s mc ms free) (entryFrame m args maxL)) : vx_Met l y ws rm Pc Qc XC mc ms free := by
  refine MetFree.of_bodyS (code := cc) (maxLocals := maxL) (ret := ret) hy ?_ ?_
  · intro args s m h hn
    obtain ⟨m9, meth, c, hn9, h1, h2, h3, h4, -, h5, h6, -⟩ := Cond.codeWith_spec (atoms_spec (ws := ws) h _ (by rw [hw]; exact List.mem_cons_self))
    cases hn.symm.trans hn9
    exact ⟨meth, c, h1, h2, h3, h4, h5, h6⟩
  · intro p e s m args below meth c s₁ B hml hP _
    have hh0 : s₁.heap = s.heap := by rw [B.state]; rfl
    obtain ⟨t, a1, o, b1, b2, b3⟩ := body p e s m args below meth c s₁ B hml hP s₁ hh0 (Stand.of_body B)
    exact ⟨t, o, a1, b1, b2, b3⟩
/-! ===== END ===== -/
end
section
theorem dX11_init_0 : decode cX11_init 0 = .ok (.aload_n 0, 1) := by decide +kernel
theorem dX11_init_1 : decode cX11_init 1 = .ok (.invokespecial 1, 3) := by decide +kernel
theorem dX11_init_4 : decode cX11_init 4 = .ok (.aload_n 0, 1) := by decide +kernel
theorem dX11_init_5 : decode cX11_init 5 = .ok (.bipush 40, 2) := by decide +kernel
theorem dX11_init_7 : decode cX11_init 7 = .ok (.newarray .int, 2) := by decide +kernel
theorem dX11_init_9 : decode cX11_init 9 = .ok (.putfield 7, 3) := by decide +kernel
theorem dX11_init_12 : decode cX11_init 12 = .ok (.aload_n 0, 1) := by decide +kernel
theorem dX11_init_13 : decode cX11_init 13 = .ok (.bipush 40, 2) := by decide +kernel
theorem dX11_init_15 : decode cX11_init 15 = .ok (.newarray .int, 2) := by decide +kernel
theorem dX11_init_17 : decode cX11_init 17 = .ok (.putfield 13, 3) := by decide +kernel
theorem dX11_init_20 : decode cX11_init 20 = .ok (.aload_n 0, 1) := by decide +kernel
theorem dX11_init_21 : decode cX11_init 21 = .ok (.bipush 40, 2) := by decide +kernel
theorem dX11_init_23 : decode cX11_init 23 = .ok (.newarray .int, 2) := by decide +kernel
theorem dX11_init_25 : decode cX11_init 25 = .ok (.putfield 16, 3) := by decide +kernel
theorem dX11_init_28 : decode cX11_init 28 = .ok (.aload_n 0, 1) := by decide +kernel
theorem dX11_init_29 : decode cX11_init 29 = .ok (.bipush 40, 2) := by decide +kernel
theorem dX11_init_31 : decode cX11_init 31 = .ok (.newarray .int, 2) := by decide +kernel
theorem dX11_init_33 : decode cX11_init 33 = .ok (.putfield 19, 3) := by decide +kernel
theorem dX11_init_36 : decode cX11_init 36 = .ok (.aload_n 0, 1) := by decide +kernel
theorem dX11_init_37 : decode cX11_init 37 = .ok (.bipush 40, 2) := by decide +kernel
theorem dX11_init_39 : decode cX11_init 39 = .ok (.newarray .int, 2) := by decide +kernel
theorem dX11_init_41 : decode cX11_init 41 = .ok (.putfield 22, 3) := by decide +kernel
theorem dX11_init_44 : decode cX11_init 44 = .ok (.aload_n 0, 1) := by decide +kernel
theorem dX11_init_45 : decode cX11_init 45 = .ok (.bipush 6, 2) := by decide +kernel
theorem dX11_init_47 : decode cX11_init 47 = .ok (.newarray .int, 2) := by decide +kernel
theorem dX11_init_49 : decode cX11_init 49 = .ok (.putfield 25, 3) := by decide +kernel
theorem dX11_init_52 : decode cX11_init 52 = .ok (.aload_n 0, 1) := by decide +kernel
theorem dX11_init_53 : decode cX11_init 53 = .ok (.bipush 12, 2) := by decide +kernel
theorem dX11_init_55 : decode cX11_init 55 = .ok (.newarray .int, 2) := by decide +kernel
theorem dX11_init_57 : decode cX11_init 57 = .ok (.putfield 28, 3) := by decide +kernel
theorem dX11_init_60 : decode cX11_init 60 = .ok (.aload_n 0, 1) := by decide +kernel
theorem dX11_init_61 : decode cX11_init 61 = .ok (.iconst 4, 1) := by decide +kernel
theorem dX11_init_62 : decode cX11_init 62 = .ok (.newarray .int, 2) := by decide +kernel
theorem dX11_init_64 : decode cX11_init 64 = .ok (.putfield 31, 3) := by decide +kernel
theorem dX11_init_67 : decode cX11_init 67 = .ok (.aload_n 0, 1) := by decide +kernel
theorem dX11_init_68 : decode cX11_init 68 = .ok (.iconst 4, 1) := by decide +kernel
theorem dX11_init_69 : decode cX11_init 69 = .ok (.newarray .int, 2) := by decide +kernel
theorem dX11_init_71 : decode cX11_init 71 = .ok (.putfield 34, 3) := by decide +kernel
theorem dX11_init_74 : decode cX11_init 74 = .ok (.aload_n 0, 1) := by decide +kernel
theorem dX11_init_75 : decode cX11_init 75 = .ok (.bipush 36, 2) := by decide +kernel
theorem dX11_init_77 : decode cX11_init 77 = .ok (.newarray .int, 2) := by decide +kernel
theorem dX11_init_79 : decode cX11_init 79 = .ok (.putfield 37, 3) := by decide +kernel
theorem dX11_init_82 : decode cX11_init 82 = .ok (.aload_n 0, 1) := by decide +kernel
theorem dX11_init_83 : decode cX11_init 83 = .ok (.bipush 16, 2) := by decide +kernel
theorem dX11_init_85 : decode cX11_init 85 = .ok (.newarray .int, 2) := by decide +kernel
theorem dX11_init_87 : decode cX11_init 87 = .ok (.putfield 40, 3) := by decide +kernel
theorem dX11_init_90 : decode cX11_init 90 = .ok (.aload_n 0, 1) := by decide +kernel
theorem dX11_init_91 : decode cX11_init 91 = .ok (.bipush 16, 2) := by decide +kernel
theorem dX11_init_93 : decode cX11_init 93 = .ok (.newarray .int, 2) := by decide +kernel
theorem dX11_init_95 : decode cX11_init 95 = .ok (.putfield 43, 3) := by decide +kernel
theorem dX11_init_98 : decode cX11_init 98 = .ok (.aload_n 0, 1) := by decide +kernel
theorem dX11_init_99 : decode cX11_init 99 = .ok (.bipush 16, 2) := by decide +kernel
theorem dX11_init_101 : decode cX11_init 101 = .ok (.newarray .int, 2) := by decide +kernel
theorem dX11_init_103 : decode cX11_init 103 = .ok (.putfield 46, 3) := by decide +kernel
theorem dX11_init_106 : decode cX11_init 106 = .ok (.aload_n 0, 1) := by decide +kernel
theorem dX11_init_107 : decode cX11_init 107 = .ok (.bipush 16, 2) := by decide +kernel
theorem dX11_init_109 : decode cX11_init 109 = .ok (.newarray .int, 2) := by decide +kernel
theorem dX11_init_111 : decode cX11_init 111 = .ok (.putfield 49, 3) := by decide +kernel
theorem dX11_init_114 : decode cX11_init 114 = .ok (.aload_n 0, 1) := by decide +kernel
theorem dX11_init_115 : decode cX11_init 115 = .ok (.bipush 16, 2) := by decide +kernel
theorem dX11_init_117 : decode cX11_init 117 = .ok (.newarray .int, 2) := by decide +kernel
theorem dX11_init_119 : decode cX11_init 119 = .ok (.putfield 52, 3) := by decide +kernel
theorem dX11_init_122 : decode cX11_init 122 = .ok (.aload_n 0, 1) := by decide +kernel
theorem dX11_init_123 : decode cX11_init 123 = .ok (.bipush 6, 2) := by decide +kernel
theorem dX11_init_125 : decode cX11_init 125 = .ok (.newarray .int, 2) := by decide +kernel
theorem dX11_init_127 : decode cX11_init 127 = .ok (.putfield 55, 3) := by decide +kernel
theorem dX11_init_130 : decode cX11_init 130 = .ok (.aload_n 0, 1) := by decide +kernel
theorem dX11_init_131 : decode cX11_init 131 = .ok (.bipush 6, 2) := by decide +kernel
theorem dX11_init_133 : decode cX11_init 133 = .ok (.newarray .int, 2) := by decide +kernel
theorem dX11_init_135 : decode cX11_init 135 = .ok (.putfield 58, 3) := by decide +kernel
theorem dX11_init_138 : decode cX11_init 138 = .ok (.aload_n 0, 1) := by decide +kernel
theorem dX11_init_139 : decode cX11_init 139 = .ok (.sipush 300, 3) := by decide +kernel
theorem dX11_init_142 : decode cX11_init 142 = .ok (.newarray .byte, 2) := by decide +kernel
theorem dX11_init_144 : decode cX11_init 144 = .ok (.putfield 61, 3) := by decide +kernel
theorem dX11_init_147 : decode cX11_init 147 = .ok (.aload_n 0, 1) := by decide +kernel
theorem dX11_init_148 : decode cX11_init 148 = .ok (.iconst (-1), 1) := by decide +kernel
theorem dX11_init_149 : decode cX11_init 149 = .ok (.putfield 65, 3) := by decide +kernel
theorem dX11_init_152 : decode cX11_init 152 = .ok (.aload_n 0, 1) := by decide +kernel
theorem dX11_init_153 : decode cX11_init 153 = .ok (.iconst 4, 1) := by decide +kernel
theorem dX11_init_154 : decode cX11_init 154 = .ok (.newarray .int, 2) := by decide +kernel
theorem dX11_init_156 : decode cX11_init 156 = .ok (.putfield 69, 3) := by decide +kernel
theorem dX11_init_159 : decode cX11_init 159 = .ok (.aload_n 0, 1) := by decide +kernel
theorem dX11_init_160 : decode cX11_init 160 = .ok (.bipush 16, 2) := by decide +kernel
theorem dX11_init_162 : decode cX11_init 162 = .ok (.newarray .int, 2) := by decide +kernel
theorem dX11_init_164 : decode cX11_init 164 = .ok (.putfield 72, 3) := by decide +kernel
theorem dX11_init_167 : decode cX11_init 167 = .ok (.aload_n 0, 1) := by decide +kernel
theorem dX11_init_168 : decode cX11_init 168 = .ok (.bipush 16, 2) := by decide +kernel
theorem dX11_init_170 : decode cX11_init 170 = .ok (.newarray .boolean, 2) := by decide +kernel
theorem dX11_init_172 : decode cX11_init 172 = .ok (.putfield 75, 3) := by decide +kernel
theorem dX11_init_175 : decode cX11_init 175 = .ok (.aload_n 0, 1) := by decide +kernel
theorem dX11_init_176 : decode cX11_init 176 = .ok (.bipush 64, 2) := by decide +kernel
theorem dX11_init_178 : decode cX11_init 178 = .ok (.newarray .boolean, 2) := by decide +kernel
theorem dX11_init_180 : decode cX11_init 180 = .ok (.putfield 79, 3) := by decide +kernel
theorem dX11_init_183 : decode cX11_init 183 = .ok (.aload_n 0, 1) := by decide +kernel
theorem dX11_init_184 : decode cX11_init 184 = .ok (.sipush 384, 3) := by decide +kernel
theorem dX11_init_187 : decode cX11_init 187 = .ok (.newarray .int, 2) := by decide +kernel
theorem dX11_init_189 : decode cX11_init 189 = .ok (.putfield 82, 3) := by decide +kernel
theorem dX11_init_192 : decode cX11_init 192 = .ok (.aload_n 0, 1) := by decide +kernel
theorem dX11_init_193 : decode cX11_init 193 = .ok (.sipush 384, 3) := by decide +kernel
theorem dX11_init_196 : decode cX11_init 196 = .ok (.newarray .int, 2) := by decide +kernel
theorem dX11_init_198 : decode cX11_init 198 = .ok (.putfield 85, 3) := by decide +kernel
theorem dX11_init_201 : decode cX11_init 201 = .ok (.aload_n 0, 1) := by decide +kernel
theorem dX11_init_202 : decode cX11_init 202 = .ok (.bipush 64, 2) := by decide +kernel
theorem dX11_init_204 : decode cX11_init 204 = .ok (.newarray .int, 2) := by decide +kernel
theorem dX11_init_206 : decode cX11_init 206 = .ok (.putfield 88, 3) := by decide +kernel
theorem dX11_init_209 : decode cX11_init 209 = .ok (.aload_n 0, 1) := by decide +kernel
theorem dX11_init_210 : decode cX11_init 210 = .ok (.bipush 64, 2) := by decide +kernel
theorem dX11_init_212 : decode cX11_init 212 = .ok (.newarray .int, 2) := by decide +kernel
theorem dX11_init_214 : decode cX11_init 214 = .ok (.putfield 91, 3) := by decide +kernel
theorem dX11_init_217 : decode cX11_init 217 = .ok (.aload_n 0, 1) := by decide +kernel
theorem dX11_init_218 : decode cX11_init 218 = .ok (.bipush 20, 2) := by decide +kernel
theorem dX11_init_220 : decode cX11_init 220 = .ok (.newarray .int, 2) := by decide +kernel
theorem dX11_init_222 : decode cX11_init 222 = .ok (.putfield 94, 3) := by decide +kernel
theorem dX11_init_225 : decode cX11_init 225 = .ok (.aload_n 0, 1) := by decide +kernel
theorem dX11_init_226 : decode cX11_init 226 = .ok (.bipush 16, 2) := by decide +kernel
theorem dX11_init_228 : decode cX11_init 228 = .ok (.newarray .int, 2) := by decide +kernel
theorem dX11_init_230 : decode cX11_init 230 = .ok (.putfield 97, 3) := by decide +kernel
theorem dX11_init_233 : decode cX11_init 233 = .ok (.iconst 0, 1) := by decide +kernel
theorem dX11_init_234 : decode cX11_init 234 = .ok (.istore_n 1, 1) := by decide +kernel
theorem dX11_init_235 : decode cX11_init 235 = .ok (.iload_n 1, 1) := by decide +kernel
theorem dX11_init_236 : decode cX11_init 236 = .ok (.iconst 4, 1) := by decide +kernel
theorem dX11_init_237 : decode cX11_init 237 = .ok (.if_icmp .ge 16, 3) := by decide +kernel
theorem dX11_init_240 : decode cX11_init 240 = .ok (.aload_n 0, 1) := by decide +kernel
theorem dX11_init_241 : decode cX11_init 241 = .ok (.getfield 31, 3) := by decide +kernel
theorem dX11_init_244 : decode cX11_init 244 = .ok (.iload_n 1, 1) := by decide +kernel
theorem dX11_init_245 : decode cX11_init 245 = .ok (.iconst 3, 1) := by decide +kernel
theorem dX11_init_246 : decode cX11_init 246 = .ok (.iastore, 1) := by decide +kernel
theorem dX11_init_247 : decode cX11_init 247 = .ok (.iinc 1 1, 3) := by decide +kernel
theorem dX11_init_250 : decode cX11_init 250 = .ok (.goto (-15), 3) := by decide +kernel
theorem dX11_init_253 : decode cX11_init 253 = .ok (.aload_n 0, 1) := by decide +kernel
theorem dX11_init_254 : decode cX11_init 254 = .ok (.invokevirtual 100, 3) := by decide +kernel
theorem dX11_init_257 : decode cX11_init 257 = .ok (.aload_n 0, 1) := by decide +kernel
theorem dX11_init_258 : decode cX11_init 258 = .ok (.invokevirtual 103, 3) := by decide +kernel
theorem dX11_init_261 : decode cX11_init 261 = .ok (.return_, 1) := by decide +kernel
theorem dX11_thrown_0 : decode cX11_thrown 0 = .ok (.aload_n 0, 1) := by decide +kernel
theorem dX11_thrown_1 : decode cX11_thrown 1 = .ok (.getfield 106, 3) := by decide +kernel
theorem dX11_thrown_4 : decode cX11_thrown 4 = .ok (.ireturn, 1) := by decide +kernel
theorem dX11_within_0 : decode cX11_within 0 = .ok (.iload_n 0, 1) := by decide +kernel
theorem dX11_within_1 : decode cX11_within 1 = .ok (.iload_n 1, 1) := by decide +kernel
theorem dX11_within_2 : decode cX11_within 2 = .ok (.if_icmp .lt 12, 3) := by decide +kernel
theorem dX11_within_5 : decode cX11_within 5 = .ok (.iload_n 0, 1) := by decide +kernel
theorem dX11_within_6 : decode cX11_within 6 = .ok (.iload_n 2, 1) := by decide +kernel
theorem dX11_within_7 : decode cX11_within 7 = .ok (.if_icmp .gt 7, 3) := by decide +kernel
theorem dX11_within_10 : decode cX11_within 10 = .ok (.iconst 1, 1) := by decide +kernel
theorem dX11_within_11 : decode cX11_within 11 = .ok (.goto 4, 3) := by decide +kernel
theorem dX11_within_14 : decode cX11_within 14 = .ok (.iconst 0, 1) := by decide +kernel
theorem dX11_within_15 : decode cX11_within 15 = .ok (.ireturn, 1) := by decide +kernel
theorem dX11_track_0 : decode cX11_track 0 = .ok (.aload_n 0, 1) := by decide +kernel
theorem dX11_track_1 : decode cX11_track 1 = .ok (.iconst 0, 1) := by decide +kernel
theorem dX11_track_2 : decode cX11_track 2 = .ok (.putfield 106, 3) := by decide +kernel
theorem dX11_track_5 : decode cX11_track 5 = .ok (.iload_n 1, 1) := by decide +kernel
theorem dX11_track_6 : decode cX11_track 6 = .ok (.iconst 5, 1) := by decide +kernel
theorem dX11_track_7 : decode cX11_track 7 = .ok (.bipush 40, 2) := by decide +kernel
theorem dX11_track_9 : decode cX11_track 9 = .ok (.invokestatic 109, 3) := by decide +kernel
theorem dX11_track_12 : decode cX11_track 12 = .ok (.ifCond .eq 20, 3) := by decide +kernel
theorem dX11_track_15 : decode cX11_track 15 = .ok (.iload_n 2, 1) := by decide +kernel
theorem dX11_track_16 : decode cX11_track 16 = .ok (.iconst 2, 1) := by decide +kernel
theorem dX11_track_17 : decode cX11_track 17 = .ok (.bipush 6, 2) := by decide +kernel
theorem dX11_track_19 : decode cX11_track 19 = .ok (.invokestatic 109, 3) := by decide +kernel
theorem dX11_track_22 : decode cX11_track 22 = .ok (.ifCond .eq 10, 3) := by decide +kernel
theorem dX11_track_25 : decode cX11_track 25 = .ok (.aload_n 0, 1) := by decide +kernel
theorem dX11_track_26 : decode cX11_track 26 = .ok (.getfield 113, 3) := by decide +kernel
theorem dX11_track_29 : decode cX11_track 29 = .ok (.ifCond .eq 5, 3) := by decide +kernel
theorem dX11_track_32 : decode cX11_track 32 = .ok (.iconst 0, 1) := by decide +kernel
theorem dX11_track_33 : decode cX11_track 33 = .ok (.ireturn, 1) := by decide +kernel
theorem dX11_track_34 : decode cX11_track 34 = .ok (.aload_n 0, 1) := by decide +kernel
theorem dX11_track_35 : decode cX11_track 35 = .ok (.iload_n 1, 1) := by decide +kernel
theorem dX11_track_36 : decode cX11_track 36 = .ok (.putfield 117, 3) := by decide +kernel
theorem dX11_track_39 : decode cX11_track 39 = .ok (.aload_n 0, 1) := by decide +kernel
theorem dX11_track_40 : decode cX11_track 40 = .ok (.iload_n 2, 1) := by decide +kernel
theorem dX11_track_41 : decode cX11_track 41 = .ok (.putfield 120, 3) := by decide +kernel
theorem dX11_track_44 : decode cX11_track 44 = .ok (.iconst 0, 1) := by decide +kernel
theorem dX11_track_45 : decode cX11_track 45 = .ok (.istore_n 3, 1) := by decide +kernel
theorem dX11_track_46 : decode cX11_track 46 = .ok (.iload_n 3, 1) := by decide +kernel
theorem dX11_track_47 : decode cX11_track 47 = .ok (.iload_n 1, 1) := by decide +kernel
theorem dX11_track_48 : decode cX11_track 48 = .ok (.if_icmp .ge 48, 3) := by decide +kernel
theorem dX11_track_51 : decode cX11_track 51 = .ok (.aload_n 0, 1) := by decide +kernel
theorem dX11_track_52 : decode cX11_track 52 = .ok (.getfield 7, 3) := by decide +kernel
theorem dX11_track_55 : decode cX11_track 55 = .ok (.iload_n 3, 1) := by decide +kernel
theorem dX11_track_56 : decode cX11_track 56 = .ok (.sipush 200, 3) := by decide +kernel
theorem dX11_track_59 : decode cX11_track 59 = .ok (.iastore, 1) := by decide +kernel
theorem dX11_track_60 : decode cX11_track 60 = .ok (.aload_n 0, 1) := by decide +kernel
theorem dX11_track_61 : decode cX11_track 61 = .ok (.getfield 13, 3) := by decide +kernel
theorem dX11_track_64 : decode cX11_track 64 = .ok (.iload_n 3, 1) := by decide +kernel
theorem dX11_track_65 : decode cX11_track 65 = .ok (.iconst 0, 1) := by decide +kernel
theorem dX11_track_66 : decode cX11_track 66 = .ok (.iastore, 1) := by decide +kernel
theorem dX11_track_67 : decode cX11_track 67 = .ok (.aload_n 0, 1) := by decide +kernel
theorem dX11_track_68 : decode cX11_track 68 = .ok (.getfield 16, 3) := by decide +kernel
theorem dX11_track_71 : decode cX11_track 71 = .ok (.iload_n 3, 1) := by decide +kernel
theorem dX11_track_72 : decode cX11_track 72 = .ok (.iconst 0, 1) := by decide +kernel
theorem dX11_track_73 : decode cX11_track 73 = .ok (.iastore, 1) := by decide +kernel
theorem dX11_track_74 : decode cX11_track 74 = .ok (.aload_n 0, 1) := by decide +kernel
theorem dX11_track_75 : decode cX11_track 75 = .ok (.getfield 19, 3) := by decide +kernel
theorem dX11_track_78 : decode cX11_track 78 = .ok (.iload_n 3, 1) := by decide +kernel
theorem dX11_track_79 : decode cX11_track 79 = .ok (.sipush 500, 3) := by decide +kernel
theorem dX11_track_82 : decode cX11_track 82 = .ok (.iastore, 1) := by decide +kernel
theorem dX11_track_83 : decode cX11_track 83 = .ok (.aload_n 0, 1) := by decide +kernel
theorem dX11_track_84 : decode cX11_track 84 = .ok (.getfield 22, 3) := by decide +kernel
theorem dX11_track_87 : decode cX11_track 87 = .ok (.iload_n 3, 1) := by decide +kernel
theorem dX11_track_88 : decode cX11_track 88 = .ok (.iconst 0, 1) := by decide +kernel
theorem dX11_track_89 : decode cX11_track 89 = .ok (.iastore, 1) := by decide +kernel
theorem dX11_track_90 : decode cX11_track 90 = .ok (.iinc 3 1, 3) := by decide +kernel
theorem dX11_track_93 : decode cX11_track 93 = .ok (.goto (-47), 3) := by decide +kernel
theorem dX11_track_96 : decode cX11_track 96 = .ok (.iconst 0, 1) := by decide +kernel
theorem dX11_track_97 : decode cX11_track 97 = .ok (.istore_n 3, 1) := by decide +kernel
theorem dX11_track_98 : decode cX11_track 98 = .ok (.iload_n 3, 1) := by decide +kernel
theorem dX11_track_99 : decode cX11_track 99 = .ok (.iload_n 2, 1) := by decide +kernel
theorem dX11_track_100 : decode cX11_track 100 = .ok (.if_icmp .ge 22, 3) := by decide +kernel
theorem dX11_track_103 : decode cX11_track 103 = .ok (.aload_n 0, 1) := by decide +kernel
theorem dX11_track_104 : decode cX11_track 104 = .ok (.getfield 25, 3) := by decide +kernel
theorem dX11_track_107 : decode cX11_track 107 = .ok (.iload_n 3, 1) := by decide +kernel
theorem dX11_track_108 : decode cX11_track 108 = .ok (.iload_n 3, 1) := by decide +kernel
theorem dX11_track_109 : decode cX11_track 109 = .ok (.iload_n 1, 1) := by decide +kernel
theorem dX11_track_110 : decode cX11_track 110 = .ok (.imul, 1) := by decide +kernel
theorem dX11_track_111 : decode cX11_track 111 = .ok (.iload_n 2, 1) := by decide +kernel
theorem dX11_track_112 : decode cX11_track 112 = .ok (.iconst 1, 1) := by decide +kernel
theorem dX11_track_113 : decode cX11_track 113 = .ok (.isub, 1) := by decide +kernel
theorem dX11_track_114 : decode cX11_track 114 = .ok (.idiv, 1) := by decide +kernel
theorem dX11_track_115 : decode cX11_track 115 = .ok (.iastore, 1) := by decide +kernel
theorem dX11_track_116 : decode cX11_track 116 = .ok (.iinc 3 1, 3) := by decide +kernel
theorem dX11_track_119 : decode cX11_track 119 = .ok (.goto (-21), 3) := by decide +kernel
theorem dX11_track_122 : decode cX11_track 122 = .ok (.iconst 0, 1) := by decide +kernel
theorem dX11_track_123 : decode cX11_track 123 = .ok (.istore_n 3, 1) := by decide +kernel
theorem dX11_track_124 : decode cX11_track 124 = .ok (.iload_n 3, 1) := by decide +kernel
theorem dX11_track_125 : decode cX11_track 125 = .ok (.bipush 12, 2) := by decide +kernel
theorem dX11_track_127 : decode cX11_track 127 = .ok (.if_icmp .ge 16, 3) := by decide +kernel
theorem dX11_track_130 : decode cX11_track 130 = .ok (.aload_n 0, 1) := by decide +kernel
theorem dX11_track_131 : decode cX11_track 131 = .ok (.getfield 28, 3) := by decide +kernel
theorem dX11_track_134 : decode cX11_track 134 = .ok (.iload_n 3, 1) := by decide +kernel
theorem dX11_track_135 : decode cX11_track 135 = .ok (.iconst 0, 1) := by decide +kernel
theorem dX11_track_136 : decode cX11_track 136 = .ok (.iastore, 1) := by decide +kernel
theorem dX11_track_137 : decode cX11_track 137 = .ok (.iinc 3 1, 3) := by decide +kernel
theorem dX11_track_140 : decode cX11_track 140 = .ok (.goto (-16), 3) := by decide +kernel
theorem dX11_track_143 : decode cX11_track 143 = .ok (.iconst 1, 1) := by decide +kernel
theorem dX11_track_144 : decode cX11_track 144 = .ok (.ireturn, 1) := by decide +kernel
theorem dX11_isCell_0 : decode cX11_isCell 0 = .ok (.iload_n 1, 1) := by decide +kernel
theorem dX11_isCell_1 : decode cX11_isCell 1 = .ok (.iconst 0, 1) := by decide +kernel
theorem dX11_isCell_2 : decode cX11_isCell 2 = .ok (.aload_n 0, 1) := by decide +kernel
theorem dX11_isCell_3 : decode cX11_isCell 3 = .ok (.getfield 117, 3) := by decide +kernel
theorem dX11_isCell_6 : decode cX11_isCell 6 = .ok (.iconst 1, 1) := by decide +kernel
theorem dX11_isCell_7 : decode cX11_isCell 7 = .ok (.isub, 1) := by decide +kernel
theorem dX11_isCell_8 : decode cX11_isCell 8 = .ok (.invokestatic 109, 3) := by decide +kernel
theorem dX11_isCell_11 : decode cX11_isCell 11 = .ok (.ireturn, 1) := by decide +kernel
theorem dX11_bend_0 : decode cX11_bend 0 = .ok (.aload_n 0, 1) := by decide +kernel
theorem dX11_bend_1 : decode cX11_bend 1 = .ok (.iconst 0, 1) := by decide +kernel
theorem dX11_bend_2 : decode cX11_bend 2 = .ok (.putfield 106, 3) := by decide +kernel
theorem dX11_bend_5 : decode cX11_bend 5 = .ok (.aload_n 0, 1) := by decide +kernel
theorem dX11_bend_6 : decode cX11_bend 6 = .ok (.iload_n 1, 1) := by decide +kernel
theorem dX11_bend_7 : decode cX11_bend 7 = .ok (.invokevirtual 123, 3) := by decide +kernel
theorem dX11_bend_10 : decode cX11_bend 10 = .ok (.ifCond .eq 43, 3) := by decide +kernel
theorem dX11_bend_13 : decode cX11_bend 13 = .ok (.iload_n 2, 1) := by decide +kernel
theorem dX11_bend_14 : decode cX11_bend 14 = .ok (.bipush 50, 2) := by decide +kernel
theorem dX11_bend_16 : decode cX11_bend 16 = .ok (.sipush 500, 3) := by decide +kernel
theorem dX11_bend_19 : decode cX11_bend 19 = .ok (.invokestatic 109, 3) := by decide +kernel
theorem dX11_bend_22 : decode cX11_bend 22 = .ok (.ifCond .eq 31, 3) := by decide +kernel
theorem dX11_bend_25 : decode cX11_bend 25 = .ok (.iload_n 3, 1) := by decide +kernel
theorem dX11_bend_26 : decode cX11_bend 26 = .ok (.iconst 0, 1) := by decide +kernel
theorem dX11_bend_27 : decode cX11_bend 27 = .ok (.bipush 9, 2) := by decide +kernel
theorem dX11_bend_29 : decode cX11_bend 29 = .ok (.invokestatic 109, 3) := by decide +kernel
theorem dX11_bend_32 : decode cX11_bend 32 = .ok (.ifCond .eq 21, 3) := by decide +kernel
theorem dX11_bend_35 : decode cX11_bend 35 = .ok (.iload 4, 2) := by decide +kernel
theorem dX11_bend_37 : decode cX11_bend 37 = .ok (.iconst 0, 1) := by decide +kernel
theorem dX11_bend_38 : decode cX11_bend 38 = .ok (.bipush 9, 2) := by decide +kernel
theorem dX11_bend_40 : decode cX11_bend 40 = .ok (.invokestatic 109, 3) := by decide +kernel
theorem dX11_bend_43 : decode cX11_bend 43 = .ok (.ifCond .eq 10, 3) := by decide +kernel
theorem dX11_bend_46 : decode cX11_bend 46 = .ok (.aload_n 0, 1) := by decide +kernel
theorem dX11_bend_47 : decode cX11_bend 47 = .ok (.invokevirtual 127, 3) := by decide +kernel
theorem dX11_bend_50 : decode cX11_bend 50 = .ok (.ifCond .eq 5, 3) := by decide +kernel
theorem dX11_bend_53 : decode cX11_bend 53 = .ok (.iconst 0, 1) := by decide +kernel
theorem dX11_bend_54 : decode cX11_bend 54 = .ok (.ireturn, 1) := by decide +kernel
theorem dX11_bend_55 : decode cX11_bend 55 = .ok (.aload_n 0, 1) := by decide +kernel
theorem dX11_bend_56 : decode cX11_bend 56 = .ok (.getfield 7, 3) := by decide +kernel
theorem dX11_bend_59 : decode cX11_bend 59 = .ok (.iload_n 1, 1) := by decide +kernel
theorem dX11_bend_60 : decode cX11_bend 60 = .ok (.iload_n 2, 1) := by decide +kernel
theorem dX11_bend_61 : decode cX11_bend 61 = .ok (.iastore, 1) := by decide +kernel
theorem dX11_bend_62 : decode cX11_bend 62 = .ok (.aload_n 0, 1) := by decide +kernel
theorem dX11_bend_63 : decode cX11_bend 63 = .ok (.getfield 13, 3) := by decide +kernel
theorem dX11_bend_66 : decode cX11_bend 66 = .ok (.iload_n 1, 1) := by decide +kernel
theorem dX11_bend_67 : decode cX11_bend 67 = .ok (.iload_n 3, 1) := by decide +kernel
theorem dX11_bend_68 : decode cX11_bend 68 = .ok (.iastore, 1) := by decide +kernel
theorem dX11_bend_69 : decode cX11_bend 69 = .ok (.aload_n 0, 1) := by decide +kernel
theorem dX11_bend_70 : decode cX11_bend 70 = .ok (.getfield 16, 3) := by decide +kernel
theorem dX11_bend_73 : decode cX11_bend 73 = .ok (.iload_n 1, 1) := by decide +kernel
theorem dX11_bend_74 : decode cX11_bend 74 = .ok (.iload 4, 2) := by decide +kernel
theorem dX11_bend_76 : decode cX11_bend 76 = .ok (.iastore, 1) := by decide +kernel
theorem dX11_bend_77 : decode cX11_bend 77 = .ok (.iconst 1, 1) := by decide +kernel
theorem dX11_bend_78 : decode cX11_bend 78 = .ok (.ireturn, 1) := by decide +kernel
theorem dX11_bounded_0 : decode cX11_bounded 0 = .ok (.iload_n 0, 1) := by decide +kernel
theorem dX11_bounded_1 : decode cX11_bounded 1 = .ok (.iload_n 1, 1) := by decide +kernel
theorem dX11_bounded_2 : decode cX11_bounded 2 = .ok (.if_icmp .ge 7, 3) := by decide +kernel
theorem dX11_bounded_5 : decode cX11_bounded 5 = .ok (.iload_n 1, 1) := by decide +kernel
theorem dX11_bounded_6 : decode cX11_bounded 6 = .ok (.goto 13, 3) := by decide +kernel
theorem dX11_bounded_9 : decode cX11_bounded 9 = .ok (.iload_n 0, 1) := by decide +kernel
theorem dX11_bounded_10 : decode cX11_bounded 10 = .ok (.iload_n 2, 1) := by decide +kernel
theorem dX11_bounded_11 : decode cX11_bounded 11 = .ok (.if_icmp .le 7, 3) := by decide +kernel
theorem dX11_bounded_14 : decode cX11_bounded 14 = .ok (.iload_n 2, 1) := by decide +kernel
theorem dX11_bounded_15 : decode cX11_bounded 15 = .ok (.goto 4, 3) := by decide +kernel
theorem dX11_bounded_18 : decode cX11_bounded 18 = .ok (.iload_n 0, 1) := by decide +kernel
theorem dX11_bounded_19 : decode cX11_bounded 19 = .ok (.ireturn, 1) := by decide +kernel
theorem dX11_weather_0 : decode cX11_weather 0 = .ok (.aload_n 0, 1) := by decide +kernel
theorem dX11_weather_1 : decode cX11_weather 1 = .ok (.iconst 0, 1) := by decide +kernel
theorem dX11_weather_2 : decode cX11_weather 2 = .ok (.putfield 106, 3) := by decide +kernel
theorem dX11_weather_5 : decode cX11_weather 5 = .ok (.aload_n 0, 1) := by decide +kernel
theorem dX11_weather_6 : decode cX11_weather 6 = .ok (.getfield 117, 3) := by decide +kernel
theorem dX11_weather_9 : decode cX11_weather 9 = .ok (.ifCond .eq 34, 3) := by decide +kernel
theorem dX11_weather_12 : decode cX11_weather 12 = .ok (.iload_n 1, 1) := by decide +kernel
theorem dX11_weather_13 : decode cX11_weather 13 = .ok (.iconst 1, 1) := by decide +kernel
theorem dX11_weather_14 : decode cX11_weather 14 = .ok (.sipush 600, 3) := by decide +kernel
theorem dX11_weather_17 : decode cX11_weather 17 = .ok (.invokestatic 109, 3) := by decide +kernel
theorem dX11_weather_20 : decode cX11_weather 20 = .ok (.ifCond .eq 23, 3) := by decide +kernel
theorem dX11_weather_23 : decode cX11_weather 23 = .ok (.iload_n 2, 1) := by decide +kernel
theorem dX11_weather_24 : decode cX11_weather 24 = .ok (.bipush (-30), 2) := by decide +kernel
theorem dX11_weather_26 : decode cX11_weather 26 = .ok (.bipush 30, 2) := by decide +kernel
theorem dX11_weather_28 : decode cX11_weather 28 = .ok (.invokestatic 109, 3) := by decide +kernel
theorem dX11_weather_31 : decode cX11_weather 31 = .ok (.ifCond .eq 12, 3) := by decide +kernel
theorem dX11_weather_34 : decode cX11_weather 34 = .ok (.iload_n 3, 1) := by decide +kernel
theorem dX11_weather_35 : decode cX11_weather 35 = .ok (.iconst 0, 1) := by decide +kernel
theorem dX11_weather_36 : decode cX11_weather 36 = .ok (.iconst 3, 1) := by decide +kernel
theorem dX11_weather_37 : decode cX11_weather 37 = .ok (.invokestatic 109, 3) := by decide +kernel
theorem dX11_weather_40 : decode cX11_weather 40 = .ok (.ifCond .ne 5, 3) := by decide +kernel
theorem dX11_weather_43 : decode cX11_weather 43 = .ok (.iconst 0, 1) := by decide +kernel
theorem dX11_weather_44 : decode cX11_weather 44 = .ok (.ireturn, 1) := by decide +kernel
theorem dX11_weather_45 : decode cX11_weather 45 = .ok (.iconst 0, 1) := by decide +kernel
theorem dX11_weather_46 : decode cX11_weather 46 = .ok (.istore 4, 2) := by decide +kernel
theorem dX11_weather_48 : decode cX11_weather 48 = .ok (.iload 4, 2) := by decide +kernel
theorem dX11_weather_50 : decode cX11_weather 50 = .ok (.iload_n 1, 1) := by decide +kernel
theorem dX11_weather_51 : decode cX11_weather 51 = .ok (.if_icmp .ge 60, 3) := by decide +kernel
theorem dX11_weather_54 : decode cX11_weather 54 = .ok (.iconst 0, 1) := by decide +kernel
theorem dX11_weather_55 : decode cX11_weather 55 = .ok (.istore 5, 2) := by decide +kernel
theorem dX11_weather_57 : decode cX11_weather 57 = .ok (.iload 5, 2) := by decide +kernel
theorem dX11_weather_59 : decode cX11_weather 59 = .ok (.aload_n 0, 1) := by decide +kernel
theorem dX11_weather_60 : decode cX11_weather 60 = .ok (.getfield 117, 3) := by decide +kernel
theorem dX11_weather_63 : decode cX11_weather 63 = .ok (.if_icmp .ge 42, 3) := by decide +kernel
theorem dX11_weather_66 : decode cX11_weather 66 = .ok (.aload_n 0, 1) := by decide +kernel
theorem dX11_weather_67 : decode cX11_weather 67 = .ok (.getfield 19, 3) := by decide +kernel
theorem dX11_weather_70 : decode cX11_weather 70 = .ok (.iload 5, 2) := by decide +kernel
theorem dX11_weather_72 : decode cX11_weather 72 = .ok (.aload_n 0, 1) := by decide +kernel
theorem dX11_weather_73 : decode cX11_weather 73 = .ok (.getfield 19, 3) := by decide +kernel
theorem dX11_weather_76 : decode cX11_weather 76 = .ok (.iload 5, 2) := by decide +kernel
theorem dX11_weather_78 : decode cX11_weather 78 = .ok (.iaload, 1) := by decide +kernel
theorem dX11_weather_79 : decode cX11_weather 79 = .ok (.iload_n 2, 1) := by decide +kernel
theorem dX11_weather_80 : decode cX11_weather 80 = .ok (.isub, 1) := by decide +kernel
theorem dX11_weather_81 : decode cX11_weather 81 = .ok (.aload_n 0, 1) := by decide +kernel
theorem dX11_weather_82 : decode cX11_weather 82 = .ok (.getfield 16, 3) := by decide +kernel
theorem dX11_weather_85 : decode cX11_weather 85 = .ok (.iload 5, 2) := by decide +kernel
theorem dX11_weather_87 : decode cX11_weather 87 = .ok (.iaload, 1) := by decide +kernel
theorem dX11_weather_88 : decode cX11_weather 88 = .ok (.iload_n 3, 1) := by decide +kernel
theorem dX11_weather_89 : decode cX11_weather 89 = .ok (.imul, 1) := by decide +kernel
theorem dX11_weather_90 : decode cX11_weather 90 = .ok (.isub, 1) := by decide +kernel
theorem dX11_weather_91 : decode cX11_weather 91 = .ok (.iconst 0, 1) := by decide +kernel
theorem dX11_weather_92 : decode cX11_weather 92 = .ok (.sipush 1000, 3) := by decide +kernel
theorem dX11_weather_95 : decode cX11_weather 95 = .ok (.invokestatic 131, 3) := by decide +kernel
theorem dX11_weather_98 : decode cX11_weather 98 = .ok (.iastore, 1) := by decide +kernel
theorem dX11_weather_99 : decode cX11_weather 99 = .ok (.iinc 5 1, 3) := by decide +kernel
theorem dX11_weather_102 : decode cX11_weather 102 = .ok (.goto (-45), 3) := by decide +kernel
theorem dX11_weather_105 : decode cX11_weather 105 = .ok (.iinc 4 1, 3) := by decide +kernel
theorem dX11_weather_108 : decode cX11_weather 108 = .ok (.goto (-60), 3) := by decide +kernel
theorem dX11_weather_111 : decode cX11_weather 111 = .ok (.iconst 1, 1) := by decide +kernel
theorem dX11_weather_112 : decode cX11_weather 112 = .ok (.ireturn, 1) := by decide +kernel
theorem dX11_water_0 : decode cX11_water 0 = .ok (.aload_n 0, 1) := by decide +kernel
theorem dX11_water_1 : decode cX11_water 1 = .ok (.iconst 0, 1) := by decide +kernel
theorem dX11_water_2 : decode cX11_water 2 = .ok (.putfield 106, 3) := by decide +kernel
theorem dX11_water_5 : decode cX11_water 5 = .ok (.aload_n 0, 1) := by decide +kernel
theorem dX11_water_6 : decode cX11_water 6 = .ok (.getfield 117, 3) := by decide +kernel
theorem dX11_water_9 : decode cX11_water 9 = .ok (.ifCond .eq 20, 3) := by decide +kernel
theorem dX11_water_12 : decode cX11_water 12 = .ok (.iload_n 1, 1) := by decide +kernel
theorem dX11_water_13 : decode cX11_water 13 = .ok (.ifCond .lt 16, 3) := by decide +kernel
theorem dX11_water_16 : decode cX11_water 16 = .ok (.iload_n 2, 1) := by decide +kernel
theorem dX11_water_17 : decode cX11_water 17 = .ok (.aload_n 0, 1) := by decide +kernel
theorem dX11_water_18 : decode cX11_water 18 = .ok (.getfield 117, 3) := by decide +kernel
theorem dX11_water_21 : decode cX11_water 21 = .ok (.if_icmp .gt 8, 3) := by decide +kernel
theorem dX11_water_24 : decode cX11_water 24 = .ok (.iload_n 1, 1) := by decide +kernel
theorem dX11_water_25 : decode cX11_water 25 = .ok (.iload_n 2, 1) := by decide +kernel
theorem dX11_water_26 : decode cX11_water 26 = .ok (.if_icmp .lt 5, 3) := by decide +kernel
theorem dX11_water_29 : decode cX11_water 29 = .ok (.iconst 0, 1) := by decide +kernel
theorem dX11_water_30 : decode cX11_water 30 = .ok (.ireturn, 1) := by decide +kernel
theorem dX11_water_31 : decode cX11_water 31 = .ok (.iload_n 1, 1) := by decide +kernel
theorem dX11_water_32 : decode cX11_water 32 = .ok (.istore_n 3, 1) := by decide +kernel
theorem dX11_water_33 : decode cX11_water 33 = .ok (.iload_n 3, 1) := by decide +kernel
theorem dX11_water_34 : decode cX11_water 34 = .ok (.iload_n 2, 1) := by decide +kernel
theorem dX11_water_35 : decode cX11_water 35 = .ok (.if_icmp .ge 38, 3) := by decide +kernel
theorem dX11_water_38 : decode cX11_water 38 = .ok (.aload_n 0, 1) := by decide +kernel
theorem dX11_water_39 : decode cX11_water 39 = .ok (.getfield 22, 3) := by decide +kernel
theorem dX11_water_42 : decode cX11_water 42 = .ok (.iload_n 3, 1) := by decide +kernel
theorem dX11_water_43 : decode cX11_water 43 = .ok (.iconst 0, 1) := by decide +kernel
theorem dX11_water_44 : decode cX11_water 44 = .ok (.iastore, 1) := by decide +kernel
theorem dX11_water_45 : decode cX11_water 45 = .ok (.aload_n 0, 1) := by decide +kernel
theorem dX11_water_46 : decode cX11_water 46 = .ok (.getfield 19, 3) := by decide +kernel
theorem dX11_water_49 : decode cX11_water 49 = .ok (.iload_n 3, 1) := by decide +kernel
theorem dX11_water_50 : decode cX11_water 50 = .ok (.aload_n 0, 1) := by decide +kernel
theorem dX11_water_51 : decode cX11_water 51 = .ok (.getfield 19, 3) := by decide +kernel
theorem dX11_water_54 : decode cX11_water 54 = .ok (.iload_n 3, 1) := by decide +kernel
theorem dX11_water_55 : decode cX11_water 55 = .ok (.iaload, 1) := by decide +kernel
theorem dX11_water_56 : decode cX11_water 56 = .ok (.bipush 100, 2) := by decide +kernel
theorem dX11_water_58 : decode cX11_water 58 = .ok (.isub, 1) := by decide +kernel
theorem dX11_water_59 : decode cX11_water 59 = .ok (.iconst 0, 1) := by decide +kernel
theorem dX11_water_60 : decode cX11_water 60 = .ok (.sipush 1000, 3) := by decide +kernel
theorem dX11_water_63 : decode cX11_water 63 = .ok (.invokestatic 131, 3) := by decide +kernel
theorem dX11_water_66 : decode cX11_water 66 = .ok (.iastore, 1) := by decide +kernel
theorem dX11_water_67 : decode cX11_water 67 = .ok (.iinc 3 1, 3) := by decide +kernel
theorem dX11_water_70 : decode cX11_water 70 = .ok (.goto (-37), 3) := by decide +kernel
theorem dX11_water_73 : decode cX11_water 73 = .ok (.iconst 1, 1) := by decide +kernel
theorem dX11_water_74 : decode cX11_water 74 = .ok (.ireturn, 1) := by decide +kernel
theorem dX11_cell_0 : decode cX11_cell 0 = .ok (.aload_n 0, 1) := by decide +kernel
theorem dX11_cell_1 : decode cX11_cell 1 = .ok (.iconst 0, 1) := by decide +kernel
theorem dX11_cell_2 : decode cX11_cell 2 = .ok (.putfield 106, 3) := by decide +kernel
theorem dX11_cell_5 : decode cX11_cell 5 = .ok (.aload_n 0, 1) := by decide +kernel
theorem dX11_cell_6 : decode cX11_cell 6 = .ok (.iload_n 1, 1) := by decide +kernel
theorem dX11_cell_7 : decode cX11_cell 7 = .ok (.invokevirtual 123, 3) := by decide +kernel
theorem dX11_cell_10 : decode cX11_cell 10 = .ok (.ifCond .ne 5, 3) := by decide +kernel
theorem dX11_cell_13 : decode cX11_cell 13 = .ok (.iconst (-1), 1) := by decide +kernel
theorem dX11_cell_14 : decode cX11_cell 14 = .ok (.ireturn, 1) := by decide +kernel
theorem dX11_cell_15 : decode cX11_cell 15 = .ok (.iload_n 2, 1) := by decide +kernel
theorem dX11_cell_16 : decode cX11_cell 16 = .ok (.tableswitch 71 0 4 #[36, 43, 50, 57, 64], 36) := by decide +kernel
theorem dX11_cell_52 : decode cX11_cell 52 = .ok (.aload_n 0, 1) := by decide +kernel
theorem dX11_cell_53 : decode cX11_cell 53 = .ok (.getfield 7, 3) := by decide +kernel
theorem dX11_cell_56 : decode cX11_cell 56 = .ok (.iload_n 1, 1) := by decide +kernel
theorem dX11_cell_57 : decode cX11_cell 57 = .ok (.iaload, 1) := by decide +kernel
theorem dX11_cell_58 : decode cX11_cell 58 = .ok (.ireturn, 1) := by decide +kernel
theorem dX11_cell_59 : decode cX11_cell 59 = .ok (.aload_n 0, 1) := by decide +kernel
theorem dX11_cell_60 : decode cX11_cell 60 = .ok (.getfield 13, 3) := by decide +kernel
theorem dX11_cell_63 : decode cX11_cell 63 = .ok (.iload_n 1, 1) := by decide +kernel
theorem dX11_cell_64 : decode cX11_cell 64 = .ok (.iaload, 1) := by decide +kernel
theorem dX11_cell_65 : decode cX11_cell 65 = .ok (.ireturn, 1) := by decide +kernel
theorem dX11_cell_66 : decode cX11_cell 66 = .ok (.aload_n 0, 1) := by decide +kernel
theorem dX11_cell_67 : decode cX11_cell 67 = .ok (.getfield 16, 3) := by decide +kernel
theorem dX11_cell_70 : decode cX11_cell 70 = .ok (.iload_n 1, 1) := by decide +kernel
theorem dX11_cell_71 : decode cX11_cell 71 = .ok (.iaload, 1) := by decide +kernel
theorem dX11_cell_72 : decode cX11_cell 72 = .ok (.ireturn, 1) := by decide +kernel
theorem dX11_cell_73 : decode cX11_cell 73 = .ok (.aload_n 0, 1) := by decide +kernel
theorem dX11_cell_74 : decode cX11_cell 74 = .ok (.getfield 19, 3) := by decide +kernel
theorem dX11_cell_77 : decode cX11_cell 77 = .ok (.iload_n 1, 1) := by decide +kernel
theorem dX11_cell_78 : decode cX11_cell 78 = .ok (.iaload, 1) := by decide +kernel
theorem dX11_cell_79 : decode cX11_cell 79 = .ok (.ireturn, 1) := by decide +kernel
theorem dX11_cell_80 : decode cX11_cell 80 = .ok (.aload_n 0, 1) := by decide +kernel
theorem dX11_cell_81 : decode cX11_cell 81 = .ok (.getfield 22, 3) := by decide +kernel
theorem dX11_cell_84 : decode cX11_cell 84 = .ok (.iload_n 1, 1) := by decide +kernel
theorem dX11_cell_85 : decode cX11_cell 85 = .ok (.iaload, 1) := by decide +kernel
theorem dX11_cell_86 : decode cX11_cell 86 = .ok (.ireturn, 1) := by decide +kernel
theorem dX11_cell_87 : decode cX11_cell 87 = .ok (.iconst (-1), 1) := by decide +kernel
theorem dX11_cell_88 : decode cX11_cell 88 = .ok (.ireturn, 1) := by decide +kernel
theorem dX11_eye_0 : decode cX11_eye 0 = .ok (.aload_n 0, 1) := by decide +kernel
theorem dX11_eye_1 : decode cX11_eye 1 = .ok (.iconst 0, 1) := by decide +kernel
theorem dX11_eye_2 : decode cX11_eye 2 = .ok (.putfield 106, 3) := by decide +kernel
theorem dX11_eye_5 : decode cX11_eye 5 = .ok (.iload_n 1, 1) := by decide +kernel
theorem dX11_eye_6 : decode cX11_eye 6 = .ok (.iconst 1, 1) := by decide +kernel
theorem dX11_eye_7 : decode cX11_eye 7 = .ok (.aload_n 0, 1) := by decide +kernel
theorem dX11_eye_8 : decode cX11_eye 8 = .ok (.getfield 120, 3) := by decide +kernel
theorem dX11_eye_11 : decode cX11_eye 11 = .ok (.iconst 1, 1) := by decide +kernel
theorem dX11_eye_12 : decode cX11_eye 12 = .ok (.isub, 1) := by decide +kernel
theorem dX11_eye_13 : decode cX11_eye 13 = .ok (.invokestatic 109, 3) := by decide +kernel
theorem dX11_eye_16 : decode cX11_eye 16 = .ok (.ifCond .eq 29, 3) := by decide +kernel
theorem dX11_eye_19 : decode cX11_eye 19 = .ok (.iload_n 2, 1) := by decide +kernel
theorem dX11_eye_20 : decode cX11_eye 20 = .ok (.iconst 0, 1) := by decide +kernel
theorem dX11_eye_21 : decode cX11_eye 21 = .ok (.iconst 1, 1) := by decide +kernel
theorem dX11_eye_22 : decode cX11_eye 22 = .ok (.invokestatic 109, 3) := by decide +kernel
theorem dX11_eye_25 : decode cX11_eye 25 = .ok (.ifCond .eq 20, 3) := by decide +kernel
theorem dX11_eye_28 : decode cX11_eye 28 = .ok (.iload_n 3, 1) := by decide +kernel
theorem dX11_eye_29 : decode cX11_eye 29 = .ok (.bipush (-50), 2) := by decide +kernel
theorem dX11_eye_31 : decode cX11_eye 31 = .ok (.bipush 50, 2) := by decide +kernel
theorem dX11_eye_33 : decode cX11_eye 33 = .ok (.invokestatic 109, 3) := by decide +kernel
theorem dX11_eye_36 : decode cX11_eye 36 = .ok (.ifCond .ne 11, 3) := by decide +kernel
theorem dX11_eye_39 : decode cX11_eye 39 = .ok (.iload_n 3, 1) := by decide +kernel
theorem dX11_eye_40 : decode cX11_eye 40 = .ok (.bipush 100, 2) := by decide +kernel
theorem dX11_eye_42 : decode cX11_eye 42 = .ok (.if_icmp .eq 5, 3) := by decide +kernel
theorem dX11_eye_45 : decode cX11_eye 45 = .ok (.iconst 0, 1) := by decide +kernel
theorem dX11_eye_46 : decode cX11_eye 46 = .ok (.ireturn, 1) := by decide +kernel
theorem dX11_eye_47 : decode cX11_eye 47 = .ok (.aload_n 0, 1) := by decide +kernel
theorem dX11_eye_48 : decode cX11_eye 48 = .ok (.getfield 28, 3) := by decide +kernel
theorem dX11_eye_51 : decode cX11_eye 51 = .ok (.iconst 2, 1) := by decide +kernel
theorem dX11_eye_52 : decode cX11_eye 52 = .ok (.iload_n 1, 1) := by decide +kernel
theorem dX11_eye_53 : decode cX11_eye 53 = .ok (.imul, 1) := by decide +kernel
theorem dX11_eye_54 : decode cX11_eye 54 = .ok (.iload_n 2, 1) := by decide +kernel
theorem dX11_eye_55 : decode cX11_eye 55 = .ok (.iadd, 1) := by decide +kernel
theorem dX11_eye_56 : decode cX11_eye 56 = .ok (.iload_n 3, 1) := by decide +kernel
theorem dX11_eye_57 : decode cX11_eye 57 = .ok (.iastore, 1) := by decide +kernel
theorem dX11_eye_58 : decode cX11_eye 58 = .ok (.iconst 1, 1) := by decide +kernel
theorem dX11_eye_59 : decode cX11_eye 59 = .ok (.ireturn, 1) := by decide +kernel
theorem dX11_runners_0 : decode cX11_runners 0 = .ok (.aload_n 0, 1) := by decide +kernel
theorem dX11_runners_1 : decode cX11_runners 1 = .ok (.iconst 0, 1) := by decide +kernel
theorem dX11_runners_2 : decode cX11_runners 2 = .ok (.putfield 106, 3) := by decide +kernel
theorem dX11_runners_5 : decode cX11_runners 5 = .ok (.iload_n 1, 1) := by decide +kernel
theorem dX11_runners_6 : decode cX11_runners 6 = .ok (.iconst 0, 1) := by decide +kernel
theorem dX11_runners_7 : decode cX11_runners 7 = .ok (.iconst 3, 1) := by decide +kernel
theorem dX11_runners_8 : decode cX11_runners 8 = .ok (.invokestatic 109, 3) := by decide +kernel
theorem dX11_runners_11 : decode cX11_runners 11 = .ok (.ifCond .eq 27, 3) := by decide +kernel
theorem dX11_runners_14 : decode cX11_runners 14 = .ok (.iload_n 2, 1) := by decide +kernel
theorem dX11_runners_15 : decode cX11_runners 15 = .ok (.iconst 0, 1) := by decide +kernel
theorem dX11_runners_16 : decode cX11_runners 16 = .ok (.iconst 3, 1) := by decide +kernel
theorem dX11_runners_17 : decode cX11_runners 17 = .ok (.invokestatic 109, 3) := by decide +kernel
theorem dX11_runners_20 : decode cX11_runners 20 = .ok (.ifCond .eq 18, 3) := by decide +kernel
theorem dX11_runners_23 : decode cX11_runners 23 = .ok (.iload_n 3, 1) := by decide +kernel
theorem dX11_runners_24 : decode cX11_runners 24 = .ok (.bipush 9, 2) := by decide +kernel
theorem dX11_runners_26 : decode cX11_runners 26 = .ok (.if_icmp .gt 12, 3) := by decide +kernel
theorem dX11_runners_29 : decode cX11_runners 29 = .ok (.iload_n 3, 1) := by decide +kernel
theorem dX11_runners_30 : decode cX11_runners 30 = .ok (.ifCond .ge 10, 3) := by decide +kernel
theorem dX11_runners_33 : decode cX11_runners 33 = .ok (.iload_n 2, 1) := by decide +kernel
theorem dX11_runners_34 : decode cX11_runners 34 = .ok (.iconst 3, 1) := by decide +kernel
theorem dX11_runners_35 : decode cX11_runners 35 = .ok (.if_icmp .eq 5, 3) := by decide +kernel
theorem dX11_runners_38 : decode cX11_runners 38 = .ok (.iconst 0, 1) := by decide +kernel
theorem dX11_runners_39 : decode cX11_runners 39 = .ok (.ireturn, 1) := by decide +kernel
theorem dX11_runners_40 : decode cX11_runners 40 = .ok (.aload_n 0, 1) := by decide +kernel
theorem dX11_runners_41 : decode cX11_runners 41 = .ok (.getfield 31, 3) := by decide +kernel
theorem dX11_runners_44 : decode cX11_runners 44 = .ok (.iload_n 1, 1) := by decide +kernel
theorem dX11_runners_45 : decode cX11_runners 45 = .ok (.iload_n 2, 1) := by decide +kernel
theorem dX11_runners_46 : decode cX11_runners 46 = .ok (.iastore, 1) := by decide +kernel
theorem dX11_runners_47 : decode cX11_runners 47 = .ok (.aload_n 0, 1) := by decide +kernel
theorem dX11_runners_48 : decode cX11_runners 48 = .ok (.getfield 34, 3) := by decide +kernel
theorem dX11_runners_51 : decode cX11_runners 51 = .ok (.iload_n 1, 1) := by decide +kernel
theorem dX11_runners_52 : decode cX11_runners 52 = .ok (.iload_n 2, 1) := by decide +kernel
theorem dX11_runners_53 : decode cX11_runners 53 = .ok (.iconst 3, 1) := by decide +kernel
theorem dX11_runners_54 : decode cX11_runners 54 = .ok (.if_icmp .ne 7, 3) := by decide +kernel
theorem dX11_runners_57 : decode cX11_runners 57 = .ok (.iconst 0, 1) := by decide +kernel
theorem dX11_runners_58 : decode cX11_runners 58 = .ok (.goto 4, 3) := by decide +kernel
theorem dX11_runners_61 : decode cX11_runners 61 = .ok (.iload_n 3, 1) := by decide +kernel
theorem dX11_runners_62 : decode cX11_runners 62 = .ok (.iastore, 1) := by decide +kernel
theorem dX11_runners_63 : decode cX11_runners 63 = .ok (.iload 4, 2) := by decide +kernel
theorem dX11_runners_65 : decode cX11_runners 65 = .ok (.istore 6, 2) := by decide +kernel
theorem dX11_runners_67 : decode cX11_runners 67 = .ok (.iconst 0, 1) := by decide +kernel
theorem dX11_runners_68 : decode cX11_runners 68 = .ok (.istore 7, 2) := by decide +kernel
theorem dX11_runners_70 : decode cX11_runners 70 = .ok (.iload 7, 2) := by decide +kernel
theorem dX11_runners_72 : decode cX11_runners 72 = .ok (.aload_n 0, 1) := by decide +kernel
theorem dX11_runners_73 : decode cX11_runners 73 = .ok (.getfield 34, 3) := by decide +kernel
theorem dX11_runners_76 : decode cX11_runners 76 = .ok (.iload_n 1, 1) := by decide +kernel
theorem dX11_runners_77 : decode cX11_runners 77 = .ok (.iaload, 1) := by decide +kernel
theorem dX11_runners_78 : decode cX11_runners 78 = .ok (.if_icmp .ge 51, 3) := by decide +kernel
theorem dX11_runners_81 : decode cX11_runners 81 = .ok (.aload_n 0, 1) := by decide +kernel
theorem dX11_runners_82 : decode cX11_runners 82 = .ok (.getfield 37, 3) := by decide +kernel
theorem dX11_runners_85 : decode cX11_runners 85 = .ok (.bipush 9, 2) := by decide +kernel
theorem dX11_runners_87 : decode cX11_runners 87 = .ok (.iload_n 1, 1) := by decide +kernel
theorem dX11_runners_88 : decode cX11_runners 88 = .ok (.imul, 1) := by decide +kernel
theorem dX11_runners_89 : decode cX11_runners 89 = .ok (.iload 7, 2) := by decide +kernel
theorem dX11_runners_91 : decode cX11_runners 91 = .ok (.iadd, 1) := by decide +kernel
theorem dX11_runners_92 : decode cX11_runners 92 = .ok (.iload_n 2, 1) := by decide +kernel
theorem dX11_runners_93 : decode cX11_runners 93 = .ok (.ifCond .ne 9, 3) := by decide +kernel
theorem dX11_runners_96 : decode cX11_runners 96 = .ok (.iload 6, 2) := by decide +kernel
theorem dX11_runners_98 : decode cX11_runners 98 = .ok (.i2b, 1) := by decide +kernel
theorem dX11_runners_99 : decode cX11_runners 99 = .ok (.goto 16, 3) := by decide +kernel
theorem dX11_runners_102 : decode cX11_runners 102 = .ok (.iload_n 2, 1) := by decide +kernel
theorem dX11_runners_103 : decode cX11_runners 103 = .ok (.iconst 1, 1) := by decide +kernel
theorem dX11_runners_104 : decode cX11_runners 104 = .ok (.if_icmp .ne 9, 3) := by decide +kernel
theorem dX11_runners_107 : decode cX11_runners 107 = .ok (.iload 6, 2) := by decide +kernel
theorem dX11_runners_109 : decode cX11_runners 109 = .ok (.i2s, 1) := by decide +kernel
theorem dX11_runners_110 : decode cX11_runners 110 = .ok (.goto 5, 3) := by decide +kernel
theorem dX11_runners_113 : decode cX11_runners 113 = .ok (.iload 6, 2) := by decide +kernel
theorem dX11_runners_115 : decode cX11_runners 115 = .ok (.iastore, 1) := by decide +kernel
theorem dX11_runners_116 : decode cX11_runners 116 = .ok (.iload 6, 2) := by decide +kernel
theorem dX11_runners_118 : decode cX11_runners 118 = .ok (.iload 5, 2) := by decide +kernel
theorem dX11_runners_120 : decode cX11_runners 120 = .ok (.iadd, 1) := by decide +kernel
theorem dX11_runners_121 : decode cX11_runners 121 = .ok (.istore 6, 2) := by decide +kernel
theorem dX11_runners_123 : decode cX11_runners 123 = .ok (.iinc 7 1, 3) := by decide +kernel
theorem dX11_runners_126 : decode cX11_runners 126 = .ok (.goto (-56), 3) := by decide +kernel
theorem dX11_runners_129 : decode cX11_runners 129 = .ok (.iconst 1, 1) := by decide +kernel
theorem dX11_runners_130 : decode cX11_runners 130 = .ok (.ireturn, 1) := by decide +kernel
theorem dX11_copy_0 : decode cX11_copy 0 = .ok (.aload_n 0, 1) := by decide +kernel
theorem dX11_copy_1 : decode cX11_copy 1 = .ok (.iconst 0, 1) := by decide +kernel
theorem dX11_copy_2 : decode cX11_copy 2 = .ok (.putfield 106, 3) := by decide +kernel
theorem dX11_copy_5 : decode cX11_copy 5 = .ok (.iload_n 1, 1) := by decide +kernel
theorem dX11_copy_6 : decode cX11_copy 6 = .ok (.iconst 0, 1) := by decide +kernel
theorem dX11_copy_7 : decode cX11_copy 7 = .ok (.iconst 3, 1) := by decide +kernel
theorem dX11_copy_8 : decode cX11_copy 8 = .ok (.invokestatic 109, 3) := by decide +kernel
theorem dX11_copy_11 : decode cX11_copy 11 = .ok (.ifCond .eq 12, 3) := by decide +kernel
theorem dX11_copy_14 : decode cX11_copy 14 = .ok (.iload_n 3, 1) := by decide +kernel
theorem dX11_copy_15 : decode cX11_copy 15 = .ok (.iconst 0, 1) := by decide +kernel
theorem dX11_copy_16 : decode cX11_copy 16 = .ok (.iconst 3, 1) := by decide +kernel
theorem dX11_copy_17 : decode cX11_copy 17 = .ok (.invokestatic 109, 3) := by decide +kernel
theorem dX11_copy_20 : decode cX11_copy 20 = .ok (.ifCond .ne 5, 3) := by decide +kernel
theorem dX11_copy_23 : decode cX11_copy 23 = .ok (.iconst (-1), 1) := by decide +kernel
theorem dX11_copy_24 : decode cX11_copy 24 = .ok (.ireturn, 1) := by decide +kernel
theorem dX11_copy_25 : decode cX11_copy 25 = .ok (.aload_n 0, 1) := by decide +kernel
theorem dX11_copy_26 : decode cX11_copy 26 = .ok (.getfield 31, 3) := by decide +kernel
theorem dX11_copy_29 : decode cX11_copy 29 = .ok (.iload_n 1, 1) := by decide +kernel
theorem dX11_copy_30 : decode cX11_copy 30 = .ok (.iaload, 1) := by decide +kernel
theorem dX11_copy_31 : decode cX11_copy 31 = .ok (.iconst 3, 1) := by decide +kernel
theorem dX11_copy_32 : decode cX11_copy 32 = .ok (.if_icmp .eq 13, 3) := by decide +kernel
theorem dX11_copy_35 : decode cX11_copy 35 = .ok (.aload_n 0, 1) := by decide +kernel
theorem dX11_copy_36 : decode cX11_copy 36 = .ok (.getfield 31, 3) := by decide +kernel
theorem dX11_copy_39 : decode cX11_copy 39 = .ok (.iload_n 3, 1) := by decide +kernel
theorem dX11_copy_40 : decode cX11_copy 40 = .ok (.iaload, 1) := by decide +kernel
theorem dX11_copy_41 : decode cX11_copy 41 = .ok (.iconst 3, 1) := by decide +kernel
theorem dX11_copy_42 : decode cX11_copy 42 = .ok (.if_icmp .ne 6, 3) := by decide +kernel
theorem dX11_copy_45 : decode cX11_copy 45 = .ok (.bipush (-2), 2) := by decide +kernel
theorem dX11_copy_47 : decode cX11_copy 47 = .ok (.ireturn, 1) := by decide +kernel
theorem dX11_copy_48 : decode cX11_copy 48 = .ok (.aload_n 0, 1) := by decide +kernel
theorem dX11_copy_49 : decode cX11_copy 49 = .ok (.getfield 31, 3) := by decide +kernel
theorem dX11_copy_52 : decode cX11_copy 52 = .ok (.iload_n 1, 1) := by decide +kernel
theorem dX11_copy_53 : decode cX11_copy 53 = .ok (.iaload, 1) := by decide +kernel
theorem dX11_copy_54 : decode cX11_copy 54 = .ok (.aload_n 0, 1) := by decide +kernel
theorem dX11_copy_55 : decode cX11_copy 55 = .ok (.getfield 31, 3) := by decide +kernel
theorem dX11_copy_58 : decode cX11_copy 58 = .ok (.iload_n 3, 1) := by decide +kernel
theorem dX11_copy_59 : decode cX11_copy 59 = .ok (.iaload, 1) := by decide +kernel
theorem dX11_copy_60 : decode cX11_copy 60 = .ok (.if_icmp .eq 6, 3) := by decide +kernel
theorem dX11_copy_63 : decode cX11_copy 63 = .ok (.bipush (-3), 2) := by decide +kernel
theorem dX11_copy_65 : decode cX11_copy 65 = .ok (.ireturn, 1) := by decide +kernel
theorem dX11_copy_66 : decode cX11_copy 66 = .ok (.iload 5, 2) := by decide +kernel
theorem dX11_copy_68 : decode cX11_copy 68 = .ok (.ifCond .lt 39, 3) := by decide +kernel
theorem dX11_copy_71 : decode cX11_copy 71 = .ok (.iload_n 2, 1) := by decide +kernel
theorem dX11_copy_72 : decode cX11_copy 72 = .ok (.ifCond .lt 35, 3) := by decide +kernel
theorem dX11_copy_75 : decode cX11_copy 75 = .ok (.iload 4, 2) := by decide +kernel
theorem dX11_copy_77 : decode cX11_copy 77 = .ok (.ifCond .lt 30, 3) := by decide +kernel
theorem dX11_copy_80 : decode cX11_copy 80 = .ok (.iload_n 2, 1) := by decide +kernel
theorem dX11_copy_81 : decode cX11_copy 81 = .ok (.aload_n 0, 1) := by decide +kernel
theorem dX11_copy_82 : decode cX11_copy 82 = .ok (.getfield 34, 3) := by decide +kernel
theorem dX11_copy_85 : decode cX11_copy 85 = .ok (.iload_n 1, 1) := by decide +kernel
theorem dX11_copy_86 : decode cX11_copy 86 = .ok (.iaload, 1) := by decide +kernel
theorem dX11_copy_87 : decode cX11_copy 87 = .ok (.iload 5, 2) := by decide +kernel
theorem dX11_copy_89 : decode cX11_copy 89 = .ok (.isub, 1) := by decide +kernel
theorem dX11_copy_90 : decode cX11_copy 90 = .ok (.if_icmp .gt 17, 3) := by decide +kernel
theorem dX11_copy_93 : decode cX11_copy 93 = .ok (.iload 4, 2) := by decide +kernel
theorem dX11_copy_95 : decode cX11_copy 95 = .ok (.aload_n 0, 1) := by decide +kernel
theorem dX11_copy_96 : decode cX11_copy 96 = .ok (.getfield 34, 3) := by decide +kernel
theorem dX11_copy_99 : decode cX11_copy 99 = .ok (.iload_n 3, 1) := by decide +kernel
theorem dX11_copy_100 : decode cX11_copy 100 = .ok (.iaload, 1) := by decide +kernel
theorem dX11_copy_101 : decode cX11_copy 101 = .ok (.iload 5, 2) := by decide +kernel
theorem dX11_copy_103 : decode cX11_copy 103 = .ok (.isub, 1) := by decide +kernel
theorem dX11_copy_104 : decode cX11_copy 104 = .ok (.if_icmp .le 6, 3) := by decide +kernel
theorem dX11_copy_107 : decode cX11_copy 107 = .ok (.bipush (-4), 2) := by decide +kernel
theorem dX11_copy_109 : decode cX11_copy 109 = .ok (.ireturn, 1) := by decide +kernel
theorem dX11_copy_110 : decode cX11_copy 110 = .ok (.iload_n 1, 1) := by decide +kernel
theorem dX11_copy_111 : decode cX11_copy 111 = .ok (.iload_n 3, 1) := by decide +kernel
theorem dX11_copy_112 : decode cX11_copy 112 = .ok (.if_icmp .ne 13, 3) := by decide +kernel
theorem dX11_copy_115 : decode cX11_copy 115 = .ok (.iload 4, 2) := by decide +kernel
theorem dX11_copy_117 : decode cX11_copy 117 = .ok (.iload_n 2, 1) := by decide +kernel
theorem dX11_copy_118 : decode cX11_copy 118 = .ok (.if_icmp .le 7, 3) := by decide +kernel
theorem dX11_copy_121 : decode cX11_copy 121 = .ok (.iconst 1, 1) := by decide +kernel
theorem dX11_copy_122 : decode cX11_copy 122 = .ok (.goto 4, 3) := by decide +kernel
theorem dX11_copy_125 : decode cX11_copy 125 = .ok (.iconst 0, 1) := by decide +kernel
theorem dX11_copy_126 : decode cX11_copy 126 = .ok (.istore 6, 2) := by decide +kernel
theorem dX11_copy_128 : decode cX11_copy 128 = .ok (.iconst 0, 1) := by decide +kernel
theorem dX11_copy_129 : decode cX11_copy 129 = .ok (.istore 7, 2) := by decide +kernel
theorem dX11_copy_131 : decode cX11_copy 131 = .ok (.iload 7, 2) := by decide +kernel
theorem dX11_copy_133 : decode cX11_copy 133 = .ok (.iload 5, 2) := by decide +kernel
theorem dX11_copy_135 : decode cX11_copy 135 = .ok (.if_icmp .ge 57, 3) := by decide +kernel
theorem dX11_copy_138 : decode cX11_copy 138 = .ok (.iload 6, 2) := by decide +kernel
theorem dX11_copy_140 : decode cX11_copy 140 = .ok (.ifCond .eq 13, 3) := by decide +kernel
theorem dX11_copy_143 : decode cX11_copy 143 = .ok (.iload 5, 2) := by decide +kernel
theorem dX11_copy_145 : decode cX11_copy 145 = .ok (.iconst 1, 1) := by decide +kernel
theorem dX11_copy_146 : decode cX11_copy 146 = .ok (.isub, 1) := by decide +kernel
theorem dX11_copy_147 : decode cX11_copy 147 = .ok (.iload 7, 2) := by decide +kernel
theorem dX11_copy_149 : decode cX11_copy 149 = .ok (.isub, 1) := by decide +kernel
theorem dX11_copy_150 : decode cX11_copy 150 = .ok (.goto 5, 3) := by decide +kernel
theorem dX11_copy_153 : decode cX11_copy 153 = .ok (.iload 7, 2) := by decide +kernel
theorem dX11_copy_155 : decode cX11_copy 155 = .ok (.istore 8, 2) := by decide +kernel
theorem dX11_copy_157 : decode cX11_copy 157 = .ok (.aload_n 0, 1) := by decide +kernel
theorem dX11_copy_158 : decode cX11_copy 158 = .ok (.getfield 37, 3) := by decide +kernel
theorem dX11_copy_161 : decode cX11_copy 161 = .ok (.bipush 9, 2) := by decide +kernel
theorem dX11_copy_163 : decode cX11_copy 163 = .ok (.iload_n 3, 1) := by decide +kernel
theorem dX11_copy_164 : decode cX11_copy 164 = .ok (.imul, 1) := by decide +kernel
theorem dX11_copy_165 : decode cX11_copy 165 = .ok (.iload 4, 2) := by decide +kernel
theorem dX11_copy_167 : decode cX11_copy 167 = .ok (.iadd, 1) := by decide +kernel
theorem dX11_copy_168 : decode cX11_copy 168 = .ok (.iload 8, 2) := by decide +kernel
theorem dX11_copy_170 : decode cX11_copy 170 = .ok (.iadd, 1) := by decide +kernel
theorem dX11_copy_171 : decode cX11_copy 171 = .ok (.aload_n 0, 1) := by decide +kernel
theorem dX11_copy_172 : decode cX11_copy 172 = .ok (.getfield 37, 3) := by decide +kernel
theorem dX11_copy_175 : decode cX11_copy 175 = .ok (.bipush 9, 2) := by decide +kernel
theorem dX11_copy_177 : decode cX11_copy 177 = .ok (.iload_n 1, 1) := by decide +kernel
theorem dX11_copy_178 : decode cX11_copy 178 = .ok (.imul, 1) := by decide +kernel
theorem dX11_copy_179 : decode cX11_copy 179 = .ok (.iload_n 2, 1) := by decide +kernel
theorem dX11_copy_180 : decode cX11_copy 180 = .ok (.iadd, 1) := by decide +kernel
theorem dX11_copy_181 : decode cX11_copy 181 = .ok (.iload 8, 2) := by decide +kernel
theorem dX11_copy_183 : decode cX11_copy 183 = .ok (.iadd, 1) := by decide +kernel
theorem dX11_copy_184 : decode cX11_copy 184 = .ok (.iaload, 1) := by decide +kernel
theorem dX11_copy_185 : decode cX11_copy 185 = .ok (.iastore, 1) := by decide +kernel
theorem dX11_copy_186 : decode cX11_copy 186 = .ok (.iinc 7 1, 3) := by decide +kernel
theorem dX11_copy_189 : decode cX11_copy 189 = .ok (.goto (-58), 3) := by decide +kernel
theorem dX11_copy_192 : decode cX11_copy 192 = .ok (.iload 5, 2) := by decide +kernel
theorem dX11_copy_194 : decode cX11_copy 194 = .ok (.ireturn, 1) := by decide +kernel
theorem dX11_glideOf_0 : decode cX11_glideOf 0 = .ok (.iload_n 2, 1) := by decide +kernel
theorem dX11_glideOf_1 : decode cX11_glideOf 1 = .ok (.bipush 125, 2) := by decide +kernel
theorem dX11_glideOf_3 : decode cX11_glideOf 3 = .ok (.idiv, 1) := by decide +kernel
theorem dX11_glideOf_4 : decode cX11_glideOf 4 = .ok (.istore_n 3, 1) := by decide +kernel
theorem dX11_glideOf_5 : decode cX11_glideOf 5 = .ok (.iload_n 3, 1) := by decide +kernel
theorem dX11_glideOf_6 : decode cX11_glideOf 6 = .ok (.aload_n 0, 1) := by decide +kernel
theorem dX11_glideOf_7 : decode cX11_glideOf 7 = .ok (.getfield 34, 3) := by decide +kernel
theorem dX11_glideOf_10 : decode cX11_glideOf 10 = .ok (.iload_n 1, 1) := by decide +kernel
theorem dX11_glideOf_11 : decode cX11_glideOf 11 = .ok (.iaload, 1) := by decide +kernel
theorem dX11_glideOf_12 : decode cX11_glideOf 12 = .ok (.if_icmp .lt 7, 3) := by decide +kernel
theorem dX11_glideOf_15 : decode cX11_glideOf 15 = .ok (.iconst 0, 1) := by decide +kernel
theorem dX11_glideOf_16 : decode cX11_glideOf 16 = .ok (.goto 23, 3) := by decide +kernel
theorem dX11_glideOf_19 : decode cX11_glideOf 19 = .ok (.aload_n 0, 1) := by decide +kernel
theorem dX11_glideOf_20 : decode cX11_glideOf 20 = .ok (.getfield 37, 3) := by decide +kernel
theorem dX11_glideOf_23 : decode cX11_glideOf 23 = .ok (.bipush 9, 2) := by decide +kernel
theorem dX11_glideOf_25 : decode cX11_glideOf 25 = .ok (.iload_n 1, 1) := by decide +kernel
theorem dX11_glideOf_26 : decode cX11_glideOf 26 = .ok (.imul, 1) := by decide +kernel
theorem dX11_glideOf_27 : decode cX11_glideOf 27 = .ok (.iload_n 3, 1) := by decide +kernel
theorem dX11_glideOf_28 : decode cX11_glideOf 28 = .ok (.iadd, 1) := by decide +kernel
theorem dX11_glideOf_29 : decode cX11_glideOf 29 = .ok (.iaload, 1) := by decide +kernel
theorem dX11_glideOf_30 : decode cX11_glideOf 30 = .ok (.sipush (-200), 3) := by decide +kernel
theorem dX11_glideOf_33 : decode cX11_glideOf 33 = .ok (.sipush 200, 3) := by decide +kernel
theorem dX11_glideOf_36 : decode cX11_glideOf 36 = .ok (.invokestatic 131, 3) := by decide +kernel
theorem dX11_glideOf_39 : decode cX11_glideOf 39 = .ok (.ireturn, 1) := by decide +kernel
theorem dX11_glide_0 : decode cX11_glide 0 = .ok (.iload_n 1, 1) := by decide +kernel
theorem dX11_glide_1 : decode cX11_glide 1 = .ok (.iconst 0, 1) := by decide +kernel
theorem dX11_glide_2 : decode cX11_glide 2 = .ok (.iconst 3, 1) := by decide +kernel
theorem dX11_glide_3 : decode cX11_glide 3 = .ok (.invokestatic 109, 3) := by decide +kernel
theorem dX11_glide_6 : decode cX11_glide 6 = .ok (.ifCond .eq 18, 3) := by decide +kernel
theorem dX11_glide_9 : decode cX11_glide 9 = .ok (.iload_n 2, 1) := by decide +kernel
theorem dX11_glide_10 : decode cX11_glide 10 = .ok (.iconst 0, 1) := by decide +kernel
theorem dX11_glide_11 : decode cX11_glide 11 = .ok (.sipush 1000, 3) := by decide +kernel
theorem dX11_glide_14 : decode cX11_glide 14 = .ok (.invokestatic 109, 3) := by decide +kernel
theorem dX11_glide_17 : decode cX11_glide 17 = .ok (.ifCond .eq 7, 3) := by decide +kernel
theorem dX11_glide_20 : decode cX11_glide 20 = .ok (.iconst 1, 1) := by decide +kernel
theorem dX11_glide_21 : decode cX11_glide 21 = .ok (.goto 4, 3) := by decide +kernel
theorem dX11_glide_24 : decode cX11_glide 24 = .ok (.iconst 0, 1) := by decide +kernel
theorem dX11_glide_25 : decode cX11_glide 25 = .ok (.istore_n 3, 1) := by decide +kernel
theorem dX11_glide_26 : decode cX11_glide 26 = .ok (.aload_n 0, 1) := by decide +kernel
theorem dX11_glide_27 : decode cX11_glide 27 = .ok (.iload_n 3, 1) := by decide +kernel
theorem dX11_glide_28 : decode cX11_glide 28 = .ok (.ifCond .eq 7, 3) := by decide +kernel
theorem dX11_glide_31 : decode cX11_glide 31 = .ok (.iconst 0, 1) := by decide +kernel
theorem dX11_glide_32 : decode cX11_glide 32 = .ok (.goto 4, 3) := by decide +kernel
theorem dX11_glide_35 : decode cX11_glide 35 = .ok (.iconst 1, 1) := by decide +kernel
theorem dX11_glide_36 : decode cX11_glide 36 = .ok (.putfield 106, 3) := by decide +kernel
theorem dX11_glide_39 : decode cX11_glide 39 = .ok (.iload_n 3, 1) := by decide +kernel
theorem dX11_glide_40 : decode cX11_glide 40 = .ok (.ifCond .eq 12, 3) := by decide +kernel
theorem dX11_glide_43 : decode cX11_glide 43 = .ok (.aload_n 0, 1) := by decide +kernel
theorem dX11_glide_44 : decode cX11_glide 44 = .ok (.iload_n 1, 1) := by decide +kernel
theorem dX11_glide_45 : decode cX11_glide 45 = .ok (.iload_n 2, 1) := by decide +kernel
theorem dX11_glide_46 : decode cX11_glide 46 = .ok (.invokevirtual 135, 3) := by decide +kernel
theorem dX11_glide_49 : decode cX11_glide 49 = .ok (.goto 4, 3) := by decide +kernel
theorem dX11_glide_52 : decode cX11_glide 52 = .ok (.iconst 0, 1) := by decide +kernel
theorem dX11_glide_53 : decode cX11_glide 53 = .ok (.ireturn, 1) := by decide +kernel
theorem dX11_sled_0 : decode cX11_sled 0 = .ok (.aload_n 0, 1) := by decide +kernel
theorem dX11_sled_1 : decode cX11_sled 1 = .ok (.iconst 0, 1) := by decide +kernel
theorem dX11_sled_2 : decode cX11_sled 2 = .ok (.putfield 106, 3) := by decide +kernel
theorem dX11_sled_5 : decode cX11_sled 5 = .ok (.aload_n 0, 1) := by decide +kernel
theorem dX11_sled_6 : decode cX11_sled 6 = .ok (.getfield 139, 3) := by decide +kernel
theorem dX11_sled_9 : decode cX11_sled 9 = .ok (.bipush 16, 2) := by decide +kernel
theorem dX11_sled_11 : decode cX11_sled 11 = .ok (.if_icmp .eq 44, 3) := by decide +kernel
theorem dX11_sled_14 : decode cX11_sled 14 = .ok (.iload_n 1, 1) := by decide +kernel
theorem dX11_sled_15 : decode cX11_sled 15 = .ok (.iconst 0, 1) := by decide +kernel
theorem dX11_sled_16 : decode cX11_sled 16 = .ok (.iconst 3, 1) := by decide +kernel
theorem dX11_sled_17 : decode cX11_sled 17 = .ok (.invokestatic 109, 3) := by decide +kernel
theorem dX11_sled_20 : decode cX11_sled 20 = .ok (.ifCond .eq 35, 3) := by decide +kernel
theorem dX11_sled_23 : decode cX11_sled 23 = .ok (.iload_n 2, 1) := by decide +kernel
theorem dX11_sled_24 : decode cX11_sled 24 = .ok (.bipush 50, 2) := by decide +kernel
theorem dX11_sled_26 : decode cX11_sled 26 = .ok (.sipush 200, 3) := by decide +kernel
theorem dX11_sled_29 : decode cX11_sled 29 = .ok (.invokestatic 109, 3) := by decide +kernel
theorem dX11_sled_32 : decode cX11_sled 32 = .ok (.ifCond .eq 23, 3) := by decide +kernel
theorem dX11_sled_35 : decode cX11_sled 35 = .ok (.iload_n 3, 1) := by decide +kernel
theorem dX11_sled_36 : decode cX11_sled 36 = .ok (.iconst 0, 1) := by decide +kernel
theorem dX11_sled_37 : decode cX11_sled 37 = .ok (.iconst 3, 1) := by decide +kernel
theorem dX11_sled_38 : decode cX11_sled 38 = .ok (.invokestatic 109, 3) := by decide +kernel
theorem dX11_sled_41 : decode cX11_sled 41 = .ok (.ifCond .eq 14, 3) := by decide +kernel
theorem dX11_sled_44 : decode cX11_sled 44 = .ok (.iload 4, 2) := by decide +kernel
theorem dX11_sled_46 : decode cX11_sled 46 = .ok (.iconst 0, 1) := by decide +kernel
theorem dX11_sled_47 : decode cX11_sled 47 = .ok (.bipush 9, 2) := by decide +kernel
theorem dX11_sled_49 : decode cX11_sled 49 = .ok (.invokestatic 109, 3) := by decide +kernel
theorem dX11_sled_52 : decode cX11_sled 52 = .ok (.ifCond .ne 5, 3) := by decide +kernel
theorem dX11_sled_55 : decode cX11_sled 55 = .ok (.iconst (-1), 1) := by decide +kernel
theorem dX11_sled_56 : decode cX11_sled 56 = .ok (.ireturn, 1) := by decide +kernel
theorem dX11_sled_57 : decode cX11_sled 57 = .ok (.aload_n 0, 1) := by decide +kernel
theorem dX11_sled_58 : decode cX11_sled 58 = .ok (.getfield 40, 3) := by decide +kernel
theorem dX11_sled_61 : decode cX11_sled 61 = .ok (.aload_n 0, 1) := by decide +kernel
theorem dX11_sled_62 : decode cX11_sled 62 = .ok (.getfield 139, 3) := by decide +kernel
theorem dX11_sled_65 : decode cX11_sled 65 = .ok (.iload_n 1, 1) := by decide +kernel
theorem dX11_sled_66 : decode cX11_sled 66 = .ok (.iastore, 1) := by decide +kernel
theorem dX11_sled_67 : decode cX11_sled 67 = .ok (.aload_n 0, 1) := by decide +kernel
theorem dX11_sled_68 : decode cX11_sled 68 = .ok (.getfield 43, 3) := by decide +kernel
theorem dX11_sled_71 : decode cX11_sled 71 = .ok (.aload_n 0, 1) := by decide +kernel
theorem dX11_sled_72 : decode cX11_sled 72 = .ok (.getfield 139, 3) := by decide +kernel
theorem dX11_sled_75 : decode cX11_sled 75 = .ok (.iload_n 2, 1) := by decide +kernel
theorem dX11_sled_76 : decode cX11_sled 76 = .ok (.iastore, 1) := by decide +kernel
theorem dX11_sled_77 : decode cX11_sled 77 = .ok (.aload_n 0, 1) := by decide +kernel
theorem dX11_sled_78 : decode cX11_sled 78 = .ok (.getfield 46, 3) := by decide +kernel
theorem dX11_sled_81 : decode cX11_sled 81 = .ok (.aload_n 0, 1) := by decide +kernel
theorem dX11_sled_82 : decode cX11_sled 82 = .ok (.getfield 139, 3) := by decide +kernel
theorem dX11_sled_85 : decode cX11_sled 85 = .ok (.iload_n 3, 1) := by decide +kernel
theorem dX11_sled_86 : decode cX11_sled 86 = .ok (.iastore, 1) := by decide +kernel
theorem dX11_sled_87 : decode cX11_sled 87 = .ok (.aload_n 0, 1) := by decide +kernel
theorem dX11_sled_88 : decode cX11_sled 88 = .ok (.getfield 49, 3) := by decide +kernel
theorem dX11_sled_91 : decode cX11_sled 91 = .ok (.aload_n 0, 1) := by decide +kernel
theorem dX11_sled_92 : decode cX11_sled 92 = .ok (.getfield 139, 3) := by decide +kernel
theorem dX11_sled_95 : decode cX11_sled 95 = .ok (.iload 4, 2) := by decide +kernel
theorem dX11_sled_97 : decode cX11_sled 97 = .ok (.iastore, 1) := by decide +kernel
theorem dX11_sled_98 : decode cX11_sled 98 = .ok (.aload_n 0, 1) := by decide +kernel
theorem dX11_sled_99 : decode cX11_sled 99 = .ok (.dup, 1) := by decide +kernel
theorem dX11_sled_100 : decode cX11_sled 100 = .ok (.getfield 139, 3) := by decide +kernel
theorem dX11_sled_103 : decode cX11_sled 103 = .ok (.iconst 1, 1) := by decide +kernel
theorem dX11_sled_104 : decode cX11_sled 104 = .ok (.iadd, 1) := by decide +kernel
theorem dX11_sled_105 : decode cX11_sled 105 = .ok (.putfield 139, 3) := by decide +kernel
theorem dX11_sled_108 : decode cX11_sled 108 = .ok (.aload_n 0, 1) := by decide +kernel
theorem dX11_sled_109 : decode cX11_sled 109 = .ok (.getfield 139, 3) := by decide +kernel
theorem dX11_sled_112 : decode cX11_sled 112 = .ok (.iconst 1, 1) := by decide +kernel
theorem dX11_sled_113 : decode cX11_sled 113 = .ok (.isub, 1) := by decide +kernel
theorem dX11_sled_114 : decode cX11_sled 114 = .ok (.ireturn, 1) := by decide +kernel
theorem dX11_timeOf_0 : decode cX11_timeOf 0 = .ok (.aload_n 0, 1) := by decide +kernel
theorem dX11_timeOf_1 : decode cX11_timeOf 1 = .ok (.getfield 7, 3) := by decide +kernel
theorem dX11_timeOf_4 : decode cX11_timeOf 4 = .ok (.iload_n 1, 1) := by decide +kernel
theorem dX11_timeOf_5 : decode cX11_timeOf 5 = .ok (.iaload, 1) := by decide +kernel
theorem dX11_timeOf_6 : decode cX11_timeOf 6 = .ok (.sipush 1000, 3) := by decide +kernel
theorem dX11_timeOf_9 : decode cX11_timeOf 9 = .ok (.aload_n 0, 1) := by decide +kernel
theorem dX11_timeOf_10 : decode cX11_timeOf 10 = .ok (.getfield 19, 3) := by decide +kernel
theorem dX11_timeOf_13 : decode cX11_timeOf 13 = .ok (.iload_n 1, 1) := by decide +kernel
theorem dX11_timeOf_14 : decode cX11_timeOf 14 = .ok (.iaload, 1) := by decide +kernel
theorem dX11_timeOf_15 : decode cX11_timeOf 15 = .ok (.isub, 1) := by decide +kernel
theorem dX11_timeOf_16 : decode cX11_timeOf 16 = .ok (.bipush 8, 2) := by decide +kernel
theorem dX11_timeOf_18 : decode cX11_timeOf 18 = .ok (.idiv, 1) := by decide +kernel
theorem dX11_timeOf_19 : decode cX11_timeOf 19 = .ok (.iadd, 1) := by decide +kernel
theorem dX11_timeOf_20 : decode cX11_timeOf 20 = .ok (.iconst 2, 1) := by decide +kernel
theorem dX11_timeOf_21 : decode cX11_timeOf 21 = .ok (.aload_n 0, 1) := by decide +kernel
theorem dX11_timeOf_22 : decode cX11_timeOf 22 = .ok (.getfield 22, 3) := by decide +kernel
theorem dX11_timeOf_25 : decode cX11_timeOf 25 = .ok (.iload_n 1, 1) := by decide +kernel
theorem dX11_timeOf_26 : decode cX11_timeOf 26 = .ok (.iaload, 1) := by decide +kernel
theorem dX11_timeOf_27 : decode cX11_timeOf 27 = .ok (.imul, 1) := by decide +kernel
theorem dX11_timeOf_28 : decode cX11_timeOf 28 = .ok (.iadd, 1) := by decide +kernel
theorem dX11_timeOf_29 : decode cX11_timeOf 29 = .ok (.aload_n 0, 1) := by decide +kernel
theorem dX11_timeOf_30 : decode cX11_timeOf 30 = .ok (.iload_n 3, 1) := by decide +kernel
theorem dX11_timeOf_31 : decode cX11_timeOf 31 = .ok (.aload_n 0, 1) := by decide +kernel
theorem dX11_timeOf_32 : decode cX11_timeOf 32 = .ok (.getfield 19, 3) := by decide +kernel
theorem dX11_timeOf_35 : decode cX11_timeOf 35 = .ok (.iload_n 1, 1) := by decide +kernel
theorem dX11_timeOf_36 : decode cX11_timeOf 36 = .ok (.iaload, 1) := by decide +kernel
theorem dX11_timeOf_37 : decode cX11_timeOf 37 = .ok (.invokevirtual 135, 3) := by decide +kernel
theorem dX11_timeOf_40 : decode cX11_timeOf 40 = .ok (.iadd, 1) := by decide +kernel
theorem dX11_timeOf_41 : decode cX11_timeOf 41 = .ok (.bipush 9, 2) := by decide +kernel
theorem dX11_timeOf_43 : decode cX11_timeOf 43 = .ok (.iload 4, 2) := by decide +kernel
theorem dX11_timeOf_45 : decode cX11_timeOf 45 = .ok (.isub, 1) := by decide +kernel
theorem dX11_timeOf_46 : decode cX11_timeOf 46 = .ok (.aload_n 0, 1) := by decide +kernel
theorem dX11_timeOf_47 : decode cX11_timeOf 47 = .ok (.getfield 13, 3) := by decide +kernel
theorem dX11_timeOf_50 : decode cX11_timeOf 50 = .ok (.iload_n 1, 1) := by decide +kernel
theorem dX11_timeOf_51 : decode cX11_timeOf 51 = .ok (.iaload, 1) := by decide +kernel
theorem dX11_timeOf_52 : decode cX11_timeOf 52 = .ok (.imul, 1) := by decide +kernel
theorem dX11_timeOf_53 : decode cX11_timeOf 53 = .ok (.iadd, 1) := by decide +kernel
theorem dX11_timeOf_54 : decode cX11_timeOf 54 = .ok (.iload_n 2, 1) := by decide +kernel
theorem dX11_timeOf_55 : decode cX11_timeOf 55 = .ok (.bipush 8, 2) := by decide +kernel
theorem dX11_timeOf_57 : decode cX11_timeOf 57 = .ok (.idiv, 1) := by decide +kernel
theorem dX11_timeOf_58 : decode cX11_timeOf 58 = .ok (.isub, 1) := by decide +kernel
theorem dX11_timeOf_59 : decode cX11_timeOf 59 = .ok (.istore 5, 2) := by decide +kernel
theorem dX11_timeOf_61 : decode cX11_timeOf 61 = .ok (.iload 5, 2) := by decide +kernel
theorem dX11_timeOf_63 : decode cX11_timeOf 63 = .ok (.iconst 1, 1) := by decide +kernel
theorem dX11_timeOf_64 : decode cX11_timeOf 64 = .ok (.if_icmp .ge 7, 3) := by decide +kernel
theorem dX11_timeOf_67 : decode cX11_timeOf 67 = .ok (.iconst 1, 1) := by decide +kernel
theorem dX11_timeOf_68 : decode cX11_timeOf 68 = .ok (.goto 5, 3) := by decide +kernel
theorem dX11_timeOf_71 : decode cX11_timeOf 71 = .ok (.iload 5, 2) := by decide +kernel
theorem dX11_timeOf_73 : decode cX11_timeOf 73 = .ok (.ireturn, 1) := by decide +kernel
theorem dX11_standard_0 : decode cX11_standard 0 = .ok (.aload_n 0, 1) := by decide +kernel
theorem dX11_standard_1 : decode cX11_standard 1 = .ok (.iconst 0, 1) := by decide +kernel
theorem dX11_standard_2 : decode cX11_standard 2 = .ok (.putfield 106, 3) := by decide +kernel
theorem dX11_standard_5 : decode cX11_standard 5 = .ok (.iconst 0, 1) := by decide +kernel
theorem dX11_standard_6 : decode cX11_standard 6 = .ok (.istore_n 1, 1) := by decide +kernel
theorem dX11_standard_7 : decode cX11_standard 7 = .ok (.iconst 0, 1) := by decide +kernel
theorem dX11_standard_8 : decode cX11_standard 8 = .ok (.istore_n 2, 1) := by decide +kernel
theorem dX11_standard_9 : decode cX11_standard 9 = .ok (.iload_n 2, 1) := by decide +kernel
theorem dX11_standard_10 : decode cX11_standard 10 = .ok (.aload_n 0, 1) := by decide +kernel
theorem dX11_standard_11 : decode cX11_standard 11 = .ok (.getfield 117, 3) := by decide +kernel
theorem dX11_standard_14 : decode cX11_standard 14 = .ok (.if_icmp .ge 21, 3) := by decide +kernel
theorem dX11_standard_17 : decode cX11_standard 17 = .ok (.iload_n 1, 1) := by decide +kernel
theorem dX11_standard_18 : decode cX11_standard 18 = .ok (.aload_n 0, 1) := by decide +kernel
theorem dX11_standard_19 : decode cX11_standard 19 = .ok (.iload_n 2, 1) := by decide +kernel
theorem dX11_standard_20 : decode cX11_standard 20 = .ok (.bipush 100, 2) := by decide +kernel
theorem dX11_standard_22 : decode cX11_standard 22 = .ok (.iconst 0, 1) := by decide +kernel
theorem dX11_standard_23 : decode cX11_standard 23 = .ok (.iconst 5, 1) := by decide +kernel
theorem dX11_standard_24 : decode cX11_standard 24 = .ok (.invokevirtual 142, 3) := by decide +kernel
theorem dX11_standard_27 : decode cX11_standard 27 = .ok (.iadd, 1) := by decide +kernel
theorem dX11_standard_28 : decode cX11_standard 28 = .ok (.istore_n 1, 1) := by decide +kernel
theorem dX11_standard_29 : decode cX11_standard 29 = .ok (.iinc 2 1, 3) := by decide +kernel
theorem dX11_standard_32 : decode cX11_standard 32 = .ok (.goto (-23), 3) := by decide +kernel
theorem dX11_standard_35 : decode cX11_standard 35 = .ok (.iload_n 1, 1) := by decide +kernel
theorem dX11_standard_36 : decode cX11_standard 36 = .ok (.ireturn, 1) := by decide +kernel
theorem dX11_normal_0 : decode cX11_normal 0 = .ok (.aload_n 0, 1) := by decide +kernel
theorem dX11_normal_1 : decode cX11_normal 1 = .ok (.getfield 58, 3) := by decide +kernel
theorem dX11_normal_4 : decode cX11_normal 4 = .ok (.iconst 0, 1) := by decide +kernel
theorem dX11_normal_5 : decode cX11_normal 5 = .ok (.sipush 200, 3) := by decide +kernel
theorem dX11_normal_8 : decode cX11_normal 8 = .ok (.iastore, 1) := by decide +kernel
theorem dX11_normal_9 : decode cX11_normal 9 = .ok (.aload_n 0, 1) := by decide +kernel
theorem dX11_normal_10 : decode cX11_normal 10 = .ok (.getfield 58, 3) := by decide +kernel
theorem dX11_normal_13 : decode cX11_normal 13 = .ok (.iconst 1, 1) := by decide +kernel
theorem dX11_normal_14 : decode cX11_normal 14 = .ok (.bipush 100, 2) := by decide +kernel
theorem dX11_normal_16 : decode cX11_normal 16 = .ok (.iastore, 1) := by decide +kernel
theorem dX11_normal_17 : decode cX11_normal 17 = .ok (.aload_n 0, 1) := by decide +kernel
theorem dX11_normal_18 : decode cX11_normal 18 = .ok (.getfield 58, 3) := by decide +kernel
theorem dX11_normal_21 : decode cX11_normal 21 = .ok (.iconst 2, 1) := by decide +kernel
theorem dX11_normal_22 : decode cX11_normal 22 = .ok (.iconst 0, 1) := by decide +kernel
theorem dX11_normal_23 : decode cX11_normal 23 = .ok (.iastore, 1) := by decide +kernel
theorem dX11_normal_24 : decode cX11_normal 24 = .ok (.aload_n 0, 1) := by decide +kernel
theorem dX11_normal_25 : decode cX11_normal 25 = .ok (.getfield 58, 3) := by decide +kernel
theorem dX11_normal_28 : decode cX11_normal 28 = .ok (.iconst 3, 1) := by decide +kernel
theorem dX11_normal_29 : decode cX11_normal 29 = .ok (.bipush 16, 2) := by decide +kernel
theorem dX11_normal_31 : decode cX11_normal 31 = .ok (.iastore, 1) := by decide +kernel
theorem dX11_normal_32 : decode cX11_normal 32 = .ok (.aload_n 0, 1) := by decide +kernel
theorem dX11_normal_33 : decode cX11_normal 33 = .ok (.getfield 58, 3) := by decide +kernel
theorem dX11_normal_36 : decode cX11_normal 36 = .ok (.iconst 4, 1) := by decide +kernel
theorem dX11_normal_37 : decode cX11_normal 37 = .ok (.iconst 4, 1) := by decide +kernel
theorem dX11_normal_38 : decode cX11_normal 38 = .ok (.iastore, 1) := by decide +kernel
theorem dX11_normal_39 : decode cX11_normal 39 = .ok (.aload_n 0, 1) := by decide +kernel
theorem dX11_normal_40 : decode cX11_normal 40 = .ok (.getfield 58, 3) := by decide +kernel
theorem dX11_normal_43 : decode cX11_normal 43 = .ok (.iconst 5, 1) := by decide +kernel
theorem dX11_normal_44 : decode cX11_normal 44 = .ok (.iconst 0, 1) := by decide +kernel
theorem dX11_normal_45 : decode cX11_normal 45 = .ok (.iastore, 1) := by decide +kernel
theorem dX11_normal_46 : decode cX11_normal 46 = .ok (.return_, 1) := by decide +kernel
theorem dX11_takes_0 : decode cX11_takes 0 = .ok (.iconst 0, 1) := by decide +kernel
theorem dX11_takes_1 : decode cX11_takes 1 = .ok (.istore_n 1, 1) := by decide +kernel
theorem dX11_takes_2 : decode cX11_takes 2 = .ok (.iload_n 1, 1) := by decide +kernel
theorem dX11_takes_3 : decode cX11_takes 3 = .ok (.bipush 6, 2) := by decide +kernel
theorem dX11_takes_5 : decode cX11_takes 5 = .ok (.if_icmp .ge 21, 3) := by decide +kernel
theorem dX11_takes_8 : decode cX11_takes 8 = .ok (.aload_n 0, 1) := by decide +kernel
theorem dX11_takes_9 : decode cX11_takes 9 = .ok (.getfield 55, 3) := by decide +kernel
theorem dX11_takes_12 : decode cX11_takes 12 = .ok (.iload_n 1, 1) := by decide +kernel
theorem dX11_takes_13 : decode cX11_takes 13 = .ok (.aload_n 0, 1) := by decide +kernel
theorem dX11_takes_14 : decode cX11_takes 14 = .ok (.getfield 58, 3) := by decide +kernel
theorem dX11_takes_17 : decode cX11_takes 17 = .ok (.iload_n 1, 1) := by decide +kernel
theorem dX11_takes_18 : decode cX11_takes 18 = .ok (.iaload, 1) := by decide +kernel
theorem dX11_takes_19 : decode cX11_takes 19 = .ok (.iastore, 1) := by decide +kernel
theorem dX11_takes_20 : decode cX11_takes 20 = .ok (.iinc 1 1, 3) := by decide +kernel
theorem dX11_takes_23 : decode cX11_takes 23 = .ok (.goto (-21), 3) := by decide +kernel
theorem dX11_takes_26 : decode cX11_takes 26 = .ok (.return_, 1) := by decide +kernel
theorem dX11_feed_0 : decode cX11_feed 0 = .ok (.aload_n 0, 1) := by decide +kernel
theorem dX11_feed_1 : decode cX11_feed 1 = .ok (.iconst 0, 1) := by decide +kernel
theorem dX11_feed_2 : decode cX11_feed 2 = .ok (.putfield 106, 3) := by decide +kernel
theorem dX11_feed_5 : decode cX11_feed 5 = .ok (.aload_n 0, 1) := by decide +kernel
theorem dX11_feed_6 : decode cX11_feed 6 = .ok (.getfield 146, 3) := by decide +kernel
theorem dX11_feed_9 : decode cX11_feed 9 = .ok (.sipush 280, 3) := by decide +kernel
theorem dX11_feed_12 : decode cX11_feed 12 = .ok (.if_icmp .le 5, 3) := by decide +kernel
theorem dX11_feed_15 : decode cX11_feed 15 = .ok (.iconst (-1), 1) := by decide +kernel
theorem dX11_feed_16 : decode cX11_feed 16 = .ok (.ireturn, 1) := by decide +kernel
theorem dX11_feed_17 : decode cX11_feed 17 = .ok (.iconst 0, 1) := by decide +kernel
theorem dX11_feed_18 : decode cX11_feed 18 = .ok (.istore 6, 2) := by decide +kernel
theorem dX11_feed_20 : decode cX11_feed 20 = .ok (.iload 6, 2) := by decide +kernel
theorem dX11_feed_22 : decode cX11_feed 22 = .ok (.bipush 20, 2) := by decide +kernel
theorem dX11_feed_24 : decode cX11_feed 24 = .ok (.if_icmp .ge 90, 3) := by decide +kernel
theorem dX11_feed_27 : decode cX11_feed 27 = .ok (.iload 6, 2) := by decide +kernel
theorem dX11_feed_29 : decode cX11_feed 29 = .ok (.iconst 4, 1) := by decide +kernel
theorem dX11_feed_30 : decode cX11_feed 30 = .ok (.if_icmp .ge 7, 3) := by decide +kernel
theorem dX11_feed_33 : decode cX11_feed 33 = .ok (.iload_n 1, 1) := by decide +kernel
theorem dX11_feed_34 : decode cX11_feed 34 = .ok (.goto 39, 3) := by decide +kernel
theorem dX11_feed_37 : decode cX11_feed 37 = .ok (.iload 6, 2) := by decide +kernel
theorem dX11_feed_39 : decode cX11_feed 39 = .ok (.bipush 8, 2) := by decide +kernel
theorem dX11_feed_41 : decode cX11_feed 41 = .ok (.if_icmp .ge 7, 3) := by decide +kernel
theorem dX11_feed_44 : decode cX11_feed 44 = .ok (.iload_n 2, 1) := by decide +kernel
theorem dX11_feed_45 : decode cX11_feed 45 = .ok (.goto 28, 3) := by decide +kernel
theorem dX11_feed_48 : decode cX11_feed 48 = .ok (.iload 6, 2) := by decide +kernel
theorem dX11_feed_50 : decode cX11_feed 50 = .ok (.bipush 12, 2) := by decide +kernel
theorem dX11_feed_52 : decode cX11_feed 52 = .ok (.if_icmp .ge 7, 3) := by decide +kernel
theorem dX11_feed_55 : decode cX11_feed 55 = .ok (.iload_n 3, 1) := by decide +kernel
theorem dX11_feed_56 : decode cX11_feed 56 = .ok (.goto 17, 3) := by decide +kernel
theorem dX11_feed_59 : decode cX11_feed 59 = .ok (.iload 6, 2) := by decide +kernel
theorem dX11_feed_61 : decode cX11_feed 61 = .ok (.bipush 16, 2) := by decide +kernel
theorem dX11_feed_63 : decode cX11_feed 63 = .ok (.if_icmp .ge 8, 3) := by decide +kernel
theorem dX11_feed_66 : decode cX11_feed 66 = .ok (.iload 4, 2) := by decide +kernel
theorem dX11_feed_68 : decode cX11_feed 68 = .ok (.goto 5, 3) := by decide +kernel
theorem dX11_feed_71 : decode cX11_feed 71 = .ok (.iload 5, 2) := by decide +kernel
theorem dX11_feed_73 : decode cX11_feed 73 = .ok (.istore 7, 2) := by decide +kernel
theorem dX11_feed_75 : decode cX11_feed 75 = .ok (.aload_n 0, 1) := by decide +kernel
theorem dX11_feed_76 : decode cX11_feed 76 = .ok (.getfield 61, 3) := by decide +kernel
theorem dX11_feed_79 : decode cX11_feed 79 = .ok (.aload_n 0, 1) := by decide +kernel
theorem dX11_feed_80 : decode cX11_feed 80 = .ok (.getfield 146, 3) := by decide +kernel
theorem dX11_feed_83 : decode cX11_feed 83 = .ok (.iload 7, 2) := by decide +kernel
theorem dX11_feed_85 : decode cX11_feed 85 = .ok (.bipush 24, 2) := by decide +kernel
theorem dX11_feed_87 : decode cX11_feed 87 = .ok (.bipush 8, 2) := by decide +kernel
theorem dX11_feed_89 : decode cX11_feed 89 = .ok (.iload 6, 2) := by decide +kernel
theorem dX11_feed_91 : decode cX11_feed 91 = .ok (.iconst 4, 1) := by decide +kernel
theorem dX11_feed_92 : decode cX11_feed 92 = .ok (.irem, 1) := by decide +kernel
theorem dX11_feed_93 : decode cX11_feed 93 = .ok (.imul, 1) := by decide +kernel
theorem dX11_feed_94 : decode cX11_feed 94 = .ok (.isub, 1) := by decide +kernel
theorem dX11_feed_95 : decode cX11_feed 95 = .ok (.ishr, 1) := by decide +kernel
theorem dX11_feed_96 : decode cX11_feed 96 = .ok (.i2b, 1) := by decide +kernel
theorem dX11_feed_97 : decode cX11_feed 97 = .ok (.bastore, 1) := by decide +kernel
theorem dX11_feed_98 : decode cX11_feed 98 = .ok (.aload_n 0, 1) := by decide +kernel
theorem dX11_feed_99 : decode cX11_feed 99 = .ok (.dup, 1) := by decide +kernel
theorem dX11_feed_100 : decode cX11_feed 100 = .ok (.getfield 146, 3) := by decide +kernel
theorem dX11_feed_103 : decode cX11_feed 103 = .ok (.iconst 1, 1) := by decide +kernel
theorem dX11_feed_104 : decode cX11_feed 104 = .ok (.iadd, 1) := by decide +kernel
theorem dX11_feed_105 : decode cX11_feed 105 = .ok (.putfield 146, 3) := by decide +kernel
theorem dX11_feed_108 : decode cX11_feed 108 = .ok (.iinc 6 1, 3) := by decide +kernel
theorem dX11_feed_111 : decode cX11_feed 111 = .ok (.goto (-91), 3) := by decide +kernel
theorem dX11_feed_114 : decode cX11_feed 114 = .ok (.aload_n 0, 1) := by decide +kernel
theorem dX11_feed_115 : decode cX11_feed 115 = .ok (.getfield 146, 3) := by decide +kernel
theorem dX11_feed_118 : decode cX11_feed 118 = .ok (.ireturn, 1) := by decide +kernel
theorem dX11_end_0 : decode cX11_end 0 = .ok (.aload_n 0, 1) := by decide +kernel
theorem dX11_end_1 : decode cX11_end 1 = .ok (.iconst 0, 1) := by decide +kernel
theorem dX11_end_2 : decode cX11_end 2 = .ok (.putfield 106, 3) := by decide +kernel
theorem dX11_end_5 : decode cX11_end 5 = .ok (.iload_n 1, 1) := by decide +kernel
theorem dX11_end_6 : decode cX11_end 6 = .ok (.iconst 0, 1) := by decide +kernel
theorem dX11_end_7 : decode cX11_end 7 = .ok (.aload_n 0, 1) := by decide +kernel
theorem dX11_end_8 : decode cX11_end 8 = .ok (.getfield 146, 3) := by decide +kernel
theorem dX11_end_11 : decode cX11_end 11 = .ok (.invokestatic 109, 3) := by decide +kernel
theorem dX11_end_14 : decode cX11_end 14 = .ok (.ifCond .ne 5, 3) := by decide +kernel
theorem dX11_end_17 : decode cX11_end 17 = .ok (.iconst (-1), 1) := by decide +kernel
theorem dX11_end_18 : decode cX11_end 18 = .ok (.ireturn, 1) := by decide +kernel
theorem dX11_end_19 : decode cX11_end 19 = .ok (.aload_n 0, 1) := by decide +kernel
theorem dX11_end_20 : decode cX11_end 20 = .ok (.iload_n 1, 1) := by decide +kernel
theorem dX11_end_21 : decode cX11_end 21 = .ok (.putfield 146, 3) := by decide +kernel
theorem dX11_end_24 : decode cX11_end 24 = .ok (.iload_n 1, 1) := by decide +kernel
theorem dX11_end_25 : decode cX11_end 25 = .ok (.ireturn, 1) := by decide +kernel
theorem dX11_byteAt_0 : decode cX11_byteAt 0 = .ok (.iload_n 1, 1) := by decide +kernel
theorem dX11_byteAt_1 : decode cX11_byteAt 1 = .ok (.aload_n 0, 1) := by decide +kernel
theorem dX11_byteAt_2 : decode cX11_byteAt 2 = .ok (.getfield 146, 3) := by decide +kernel
theorem dX11_byteAt_5 : decode cX11_byteAt 5 = .ok (.if_icmp .ge 16, 3) := by decide +kernel
theorem dX11_byteAt_8 : decode cX11_byteAt 8 = .ok (.aload_n 0, 1) := by decide +kernel
theorem dX11_byteAt_9 : decode cX11_byteAt 9 = .ok (.getfield 61, 3) := by decide +kernel
theorem dX11_byteAt_12 : decode cX11_byteAt 12 = .ok (.iload_n 1, 1) := by decide +kernel
theorem dX11_byteAt_13 : decode cX11_byteAt 13 = .ok (.baload, 1) := by decide +kernel
theorem dX11_byteAt_14 : decode cX11_byteAt 14 = .ok (.sipush 255, 3) := by decide +kernel
theorem dX11_byteAt_17 : decode cX11_byteAt 17 = .ok (.iand, 1) := by decide +kernel
theorem dX11_byteAt_18 : decode cX11_byteAt 18 = .ok (.goto 4, 3) := by decide +kernel
theorem dX11_byteAt_21 : decode cX11_byteAt 21 = .ok (.iconst 0, 1) := by decide +kernel
theorem dX11_byteAt_22 : decode cX11_byteAt 22 = .ok (.ireturn, 1) := by decide +kernel
theorem dX11_isSmall_0 : decode cX11_isSmall 0 = .ok (.iload_n 0, 1) := by decide +kernel
theorem dX11_isSmall_1 : decode cX11_isSmall 1 = .ok (.bipush 97, 2) := by decide +kernel
theorem dX11_isSmall_3 : decode cX11_isSmall 3 = .ok (.if_icmp .lt 13, 3) := by decide +kernel
theorem dX11_isSmall_6 : decode cX11_isSmall 6 = .ok (.iload_n 0, 1) := by decide +kernel
theorem dX11_isSmall_7 : decode cX11_isSmall 7 = .ok (.bipush 122, 2) := by decide +kernel
theorem dX11_isSmall_9 : decode cX11_isSmall 9 = .ok (.if_icmp .gt 7, 3) := by decide +kernel
theorem dX11_isSmall_12 : decode cX11_isSmall 12 = .ok (.iconst 1, 1) := by decide +kernel
theorem dX11_isSmall_13 : decode cX11_isSmall 13 = .ok (.goto 4, 3) := by decide +kernel
theorem dX11_isSmall_16 : decode cX11_isSmall 16 = .ok (.iconst 0, 1) := by decide +kernel
theorem dX11_isSmall_17 : decode cX11_isSmall 17 = .ok (.ireturn, 1) := by decide +kernel
theorem dX11_isDigit_0 : decode cX11_isDigit 0 = .ok (.iload_n 0, 1) := by decide +kernel
theorem dX11_isDigit_1 : decode cX11_isDigit 1 = .ok (.bipush 48, 2) := by decide +kernel
theorem dX11_isDigit_3 : decode cX11_isDigit 3 = .ok (.if_icmp .lt 13, 3) := by decide +kernel
theorem dX11_isDigit_6 : decode cX11_isDigit 6 = .ok (.iload_n 0, 1) := by decide +kernel
theorem dX11_isDigit_7 : decode cX11_isDigit 7 = .ok (.bipush 57, 2) := by decide +kernel
theorem dX11_isDigit_9 : decode cX11_isDigit 9 = .ok (.if_icmp .gt 7, 3) := by decide +kernel
theorem dX11_isDigit_12 : decode cX11_isDigit 12 = .ok (.iconst 1, 1) := by decide +kernel
theorem dX11_isDigit_13 : decode cX11_isDigit 13 = .ok (.goto 4, 3) := by decide +kernel
theorem dX11_isDigit_16 : decode cX11_isDigit 16 = .ok (.iconst 0, 1) := by decide +kernel
theorem dX11_isDigit_17 : decode cX11_isDigit 17 = .ok (.ireturn, 1) := by decide +kernel
theorem dX11_token_0 : decode cX11_token 0 = .ok (.aload_n 0, 1) := by decide +kernel
theorem dX11_token_1 : decode cX11_token 1 = .ok (.aload_n 0, 1) := by decide +kernel
theorem dX11_token_2 : decode cX11_token 2 = .ok (.getfield 149, 3) := by decide +kernel
theorem dX11_token_5 : decode cX11_token 5 = .ok (.putfield 152, 3) := by decide +kernel
theorem dX11_token_8 : decode cX11_token 8 = .ok (.aload_n 0, 1) := by decide +kernel
theorem dX11_token_9 : decode cX11_token 9 = .ok (.aload_n 0, 1) := by decide +kernel
theorem dX11_token_10 : decode cX11_token 10 = .ok (.getfield 152, 3) := by decide +kernel
theorem dX11_token_13 : decode cX11_token 13 = .ok (.invokevirtual 155, 3) := by decide +kernel
theorem dX11_token_16 : decode cX11_token 16 = .ok (.bipush 32, 2) := by decide +kernel
theorem dX11_token_18 : decode cX11_token 18 = .ok (.if_icmp .eq 16, 3) := by decide +kernel
theorem dX11_token_21 : decode cX11_token 21 = .ok (.aload_n 0, 1) := by decide +kernel
theorem dX11_token_22 : decode cX11_token 22 = .ok (.aload_n 0, 1) := by decide +kernel
theorem dX11_token_23 : decode cX11_token 23 = .ok (.getfield 152, 3) := by decide +kernel
theorem dX11_token_26 : decode cX11_token 26 = .ok (.invokevirtual 155, 3) := by decide +kernel
theorem dX11_token_29 : decode cX11_token 29 = .ok (.bipush 10, 2) := by decide +kernel
theorem dX11_token_31 : decode cX11_token 31 = .ok (.if_icmp .ne 16, 3) := by decide +kernel
theorem dX11_token_34 : decode cX11_token 34 = .ok (.aload_n 0, 1) := by decide +kernel
theorem dX11_token_35 : decode cX11_token 35 = .ok (.dup, 1) := by decide +kernel
theorem dX11_token_36 : decode cX11_token 36 = .ok (.getfield 152, 3) := by decide +kernel
theorem dX11_token_39 : decode cX11_token 39 = .ok (.iconst 1, 1) := by decide +kernel
theorem dX11_token_40 : decode cX11_token 40 = .ok (.iadd, 1) := by decide +kernel
theorem dX11_token_41 : decode cX11_token 41 = .ok (.putfield 152, 3) := by decide +kernel
theorem dX11_token_44 : decode cX11_token 44 = .ok (.goto (-36), 3) := by decide +kernel
theorem dX11_token_47 : decode cX11_token 47 = .ok (.aload_n 0, 1) := by decide +kernel
theorem dX11_token_48 : decode cX11_token 48 = .ok (.aload_n 0, 1) := by decide +kernel
theorem dX11_token_49 : decode cX11_token 49 = .ok (.getfield 152, 3) := by decide +kernel
theorem dX11_token_52 : decode cX11_token 52 = .ok (.putfield 149, 3) := by decide +kernel
theorem dX11_token_55 : decode cX11_token 55 = .ok (.aload_n 0, 1) := by decide +kernel
theorem dX11_token_56 : decode cX11_token 56 = .ok (.aload_n 0, 1) := by decide +kernel
theorem dX11_token_57 : decode cX11_token 57 = .ok (.getfield 152, 3) := by decide +kernel
theorem dX11_token_60 : decode cX11_token 60 = .ok (.invokevirtual 155, 3) := by decide +kernel
theorem dX11_token_63 : decode cX11_token 63 = .ok (.invokestatic 159, 3) := by decide +kernel
theorem dX11_token_66 : decode cX11_token 66 = .ok (.ifCond .eq 30, 3) := by decide +kernel
theorem dX11_token_69 : decode cX11_token 69 = .ok (.aload_n 0, 1) := by decide +kernel
theorem dX11_token_70 : decode cX11_token 70 = .ok (.aload_n 0, 1) := by decide +kernel
theorem dX11_token_71 : decode cX11_token 71 = .ok (.getfield 149, 3) := by decide +kernel
theorem dX11_token_74 : decode cX11_token 74 = .ok (.invokevirtual 155, 3) := by decide +kernel
theorem dX11_token_77 : decode cX11_token 77 = .ok (.invokestatic 159, 3) := by decide +kernel
theorem dX11_token_80 : decode cX11_token 80 = .ok (.ifCond .eq 78, 3) := by decide +kernel
theorem dX11_token_83 : decode cX11_token 83 = .ok (.aload_n 0, 1) := by decide +kernel
theorem dX11_token_84 : decode cX11_token 84 = .ok (.dup, 1) := by decide +kernel
theorem dX11_token_85 : decode cX11_token 85 = .ok (.getfield 149, 3) := by decide +kernel
theorem dX11_token_88 : decode cX11_token 88 = .ok (.iconst 1, 1) := by decide +kernel
theorem dX11_token_89 : decode cX11_token 89 = .ok (.iadd, 1) := by decide +kernel
theorem dX11_token_90 : decode cX11_token 90 = .ok (.putfield 149, 3) := by decide +kernel
theorem dX11_token_93 : decode cX11_token 93 = .ok (.goto (-24), 3) := by decide +kernel
theorem dX11_token_96 : decode cX11_token 96 = .ok (.aload_n 0, 1) := by decide +kernel
theorem dX11_token_97 : decode cX11_token 97 = .ok (.aload_n 0, 1) := by decide +kernel
theorem dX11_token_98 : decode cX11_token 98 = .ok (.getfield 152, 3) := by decide +kernel
theorem dX11_token_101 : decode cX11_token 101 = .ok (.invokevirtual 155, 3) := by decide +kernel
theorem dX11_token_104 : decode cX11_token 104 = .ok (.invokestatic 162, 3) := by decide +kernel
theorem dX11_token_107 : decode cX11_token 107 = .ok (.ifCond .eq 30, 3) := by decide +kernel
theorem dX11_token_110 : decode cX11_token 110 = .ok (.aload_n 0, 1) := by decide +kernel
theorem dX11_token_111 : decode cX11_token 111 = .ok (.aload_n 0, 1) := by decide +kernel
theorem dX11_token_112 : decode cX11_token 112 = .ok (.getfield 149, 3) := by decide +kernel
theorem dX11_token_115 : decode cX11_token 115 = .ok (.invokevirtual 155, 3) := by decide +kernel
theorem dX11_token_118 : decode cX11_token 118 = .ok (.invokestatic 162, 3) := by decide +kernel
theorem dX11_token_121 : decode cX11_token 121 = .ok (.ifCond .eq 37, 3) := by decide +kernel
theorem dX11_token_124 : decode cX11_token 124 = .ok (.aload_n 0, 1) := by decide +kernel
theorem dX11_token_125 : decode cX11_token 125 = .ok (.dup, 1) := by decide +kernel
theorem dX11_token_126 : decode cX11_token 126 = .ok (.getfield 149, 3) := by decide +kernel
theorem dX11_token_129 : decode cX11_token 129 = .ok (.iconst 1, 1) := by decide +kernel
theorem dX11_token_130 : decode cX11_token 130 = .ok (.iadd, 1) := by decide +kernel
theorem dX11_token_131 : decode cX11_token 131 = .ok (.putfield 149, 3) := by decide +kernel
theorem dX11_token_134 : decode cX11_token 134 = .ok (.goto (-24), 3) := by decide +kernel
theorem dX11_token_137 : decode cX11_token 137 = .ok (.aload_n 0, 1) := by decide +kernel
theorem dX11_token_138 : decode cX11_token 138 = .ok (.getfield 152, 3) := by decide +kernel
theorem dX11_token_141 : decode cX11_token 141 = .ok (.aload_n 0, 1) := by decide +kernel
theorem dX11_token_142 : decode cX11_token 142 = .ok (.getfield 146, 3) := by decide +kernel
theorem dX11_token_145 : decode cX11_token 145 = .ok (.if_icmp .ge 13, 3) := by decide +kernel
theorem dX11_token_148 : decode cX11_token 148 = .ok (.aload_n 0, 1) := by decide +kernel
theorem dX11_token_149 : decode cX11_token 149 = .ok (.dup, 1) := by decide +kernel
theorem dX11_token_150 : decode cX11_token 150 = .ok (.getfield 149, 3) := by decide +kernel
theorem dX11_token_153 : decode cX11_token 153 = .ok (.iconst 1, 1) := by decide +kernel
theorem dX11_token_154 : decode cX11_token 154 = .ok (.iadd, 1) := by decide +kernel
theorem dX11_token_155 : decode cX11_token 155 = .ok (.putfield 149, 3) := by decide +kernel
theorem dX11_token_158 : decode cX11_token 158 = .ok (.return_, 1) := by decide +kernel
theorem dX11_is_0 : decode cX11_is 0 = .ok (.aload_n 0, 1) := by decide +kernel
theorem dX11_is_1 : decode cX11_is 1 = .ok (.getfield 149, 3) := by decide +kernel
theorem dX11_is_4 : decode cX11_is 4 = .ok (.aload_n 0, 1) := by decide +kernel
theorem dX11_is_5 : decode cX11_is 5 = .ok (.getfield 152, 3) := by decide +kernel
theorem dX11_is_8 : decode cX11_is 8 = .ok (.isub, 1) := by decide +kernel
theorem dX11_is_9 : decode cX11_is 9 = .ok (.aload_n 1, 1) := by decide +kernel
theorem dX11_is_10 : decode cX11_is 10 = .ok (.invokevirtual 165, 3) := by decide +kernel
theorem dX11_is_13 : decode cX11_is 13 = .ok (.if_icmp .ne 7, 3) := by decide +kernel
theorem dX11_is_16 : decode cX11_is 16 = .ok (.iconst 1, 1) := by decide +kernel
theorem dX11_is_17 : decode cX11_is 17 = .ok (.goto 4, 3) := by decide +kernel
theorem dX11_is_20 : decode cX11_is 20 = .ok (.iconst 0, 1) := by decide +kernel
theorem dX11_is_21 : decode cX11_is 21 = .ok (.istore_n 2, 1) := by decide +kernel
theorem dX11_is_22 : decode cX11_is 22 = .ok (.iconst 0, 1) := by decide +kernel
theorem dX11_is_23 : decode cX11_is 23 = .ok (.istore_n 3, 1) := by decide +kernel
theorem dX11_is_24 : decode cX11_is 24 = .ok (.iload_n 3, 1) := by decide +kernel
theorem dX11_is_25 : decode cX11_is 25 = .ok (.aload_n 1, 1) := by decide +kernel
theorem dX11_is_26 : decode cX11_is 26 = .ok (.invokevirtual 165, 3) := by decide +kernel
theorem dX11_is_29 : decode cX11_is 29 = .ok (.if_icmp .ge 37, 3) := by decide +kernel
theorem dX11_is_32 : decode cX11_is 32 = .ok (.iload_n 2, 1) := by decide +kernel
theorem dX11_is_33 : decode cX11_is 33 = .ok (.ifCond .eq 33, 3) := by decide +kernel
theorem dX11_is_36 : decode cX11_is 36 = .ok (.aload_n 0, 1) := by decide +kernel
theorem dX11_is_37 : decode cX11_is 37 = .ok (.aload_n 0, 1) := by decide +kernel
theorem dX11_is_38 : decode cX11_is 38 = .ok (.getfield 152, 3) := by decide +kernel
theorem dX11_is_41 : decode cX11_is 41 = .ok (.iload_n 3, 1) := by decide +kernel
theorem dX11_is_42 : decode cX11_is 42 = .ok (.iadd, 1) := by decide +kernel
theorem dX11_is_43 : decode cX11_is 43 = .ok (.invokevirtual 155, 3) := by decide +kernel
theorem dX11_is_46 : decode cX11_is 46 = .ok (.aload_n 1, 1) := by decide +kernel
theorem dX11_is_47 : decode cX11_is 47 = .ok (.iload_n 3, 1) := by decide +kernel
theorem dX11_is_48 : decode cX11_is 48 = .ok (.invokevirtual 171, 3) := by decide +kernel
theorem dX11_is_51 : decode cX11_is 51 = .ok (.if_icmp .ne 7, 3) := by decide +kernel
theorem dX11_is_54 : decode cX11_is 54 = .ok (.iconst 1, 1) := by decide +kernel
theorem dX11_is_55 : decode cX11_is 55 = .ok (.goto 4, 3) := by decide +kernel
theorem dX11_is_58 : decode cX11_is 58 = .ok (.iconst 0, 1) := by decide +kernel
theorem dX11_is_59 : decode cX11_is 59 = .ok (.istore_n 2, 1) := by decide +kernel
theorem dX11_is_60 : decode cX11_is 60 = .ok (.iinc 3 1, 3) := by decide +kernel
theorem dX11_is_63 : decode cX11_is 63 = .ok (.goto (-39), 3) := by decide +kernel
theorem dX11_is_66 : decode cX11_is 66 = .ok (.iload_n 2, 1) := by decide +kernel
theorem dX11_is_67 : decode cX11_is 67 = .ok (.ireturn, 1) := by decide +kernel
theorem dX11_fault_0 : decode cX11_fault 0 = .ok (.aload_n 0, 1) := by decide +kernel
theorem dX11_fault_1 : decode cX11_fault 1 = .ok (.aload_n 0, 1) := by decide +kernel
theorem dX11_fault_2 : decode cX11_fault 2 = .ok (.getfield 152, 3) := by decide +kernel
theorem dX11_fault_5 : decode cX11_fault 5 = .ok (.putfield 65, 3) := by decide +kernel
theorem dX11_fault_8 : decode cX11_fault 8 = .ok (.iload_n 1, 1) := by decide +kernel
theorem dX11_fault_9 : decode cX11_fault 9 = .ok (.ireturn, 1) := by decide +kernel
theorem dX11_lawAtHand_0 : decode cX11_lawAtHand 0 = .ok (.aload_n 0, 1) := by decide +kernel
theorem dX11_lawAtHand_1 : decode cX11_lawAtHand 1 = .ok (.ldc 175, 2) := by decide +kernel
theorem dX11_lawAtHand_3 : decode cX11_lawAtHand 3 = .ok (.invokevirtual 176, 3) := by decide +kernel
theorem dX11_lawAtHand_6 : decode cX11_lawAtHand 6 = .ok (.ifCond .eq 7, 3) := by decide +kernel
theorem dX11_lawAtHand_9 : decode cX11_lawAtHand 9 = .ok (.iconst 0, 1) := by decide +kernel
theorem dX11_lawAtHand_10 : decode cX11_lawAtHand 10 = .ok (.goto 83, 3) := by decide +kernel
theorem dX11_lawAtHand_13 : decode cX11_lawAtHand 13 = .ok (.aload_n 0, 1) := by decide +kernel
theorem dX11_lawAtHand_14 : decode cX11_lawAtHand 14 = .ok (.ldc 180, 2) := by decide +kernel
theorem dX11_lawAtHand_16 : decode cX11_lawAtHand 16 = .ok (.invokevirtual 176, 3) := by decide +kernel
theorem dX11_lawAtHand_19 : decode cX11_lawAtHand 19 = .ok (.ifCond .eq 7, 3) := by decide +kernel
theorem dX11_lawAtHand_22 : decode cX11_lawAtHand 22 = .ok (.iconst 1, 1) := by decide +kernel
theorem dX11_lawAtHand_23 : decode cX11_lawAtHand 23 = .ok (.goto 70, 3) := by decide +kernel
theorem dX11_lawAtHand_26 : decode cX11_lawAtHand 26 = .ok (.aload_n 0, 1) := by decide +kernel
theorem dX11_lawAtHand_27 : decode cX11_lawAtHand 27 = .ok (.ldc 182, 2) := by decide +kernel
theorem dX11_lawAtHand_29 : decode cX11_lawAtHand 29 = .ok (.invokevirtual 176, 3) := by decide +kernel
theorem dX11_lawAtHand_32 : decode cX11_lawAtHand 32 = .ok (.ifCond .eq 7, 3) := by decide +kernel
theorem dX11_lawAtHand_35 : decode cX11_lawAtHand 35 = .ok (.iconst 2, 1) := by decide +kernel
theorem dX11_lawAtHand_36 : decode cX11_lawAtHand 36 = .ok (.goto 57, 3) := by decide +kernel
theorem dX11_lawAtHand_39 : decode cX11_lawAtHand 39 = .ok (.aload_n 0, 1) := by decide +kernel
theorem dX11_lawAtHand_40 : decode cX11_lawAtHand 40 = .ok (.ldc 184, 2) := by decide +kernel
theorem dX11_lawAtHand_42 : decode cX11_lawAtHand 42 = .ok (.invokevirtual 176, 3) := by decide +kernel
theorem dX11_lawAtHand_45 : decode cX11_lawAtHand 45 = .ok (.ifCond .eq 7, 3) := by decide +kernel
theorem dX11_lawAtHand_48 : decode cX11_lawAtHand 48 = .ok (.iconst 3, 1) := by decide +kernel
theorem dX11_lawAtHand_49 : decode cX11_lawAtHand 49 = .ok (.goto 44, 3) := by decide +kernel
theorem dX11_lawAtHand_52 : decode cX11_lawAtHand 52 = .ok (.aload_n 0, 1) := by decide +kernel
theorem dX11_lawAtHand_53 : decode cX11_lawAtHand 53 = .ok (.ldc 186, 2) := by decide +kernel
theorem dX11_lawAtHand_55 : decode cX11_lawAtHand 55 = .ok (.invokevirtual 176, 3) := by decide +kernel
theorem dX11_lawAtHand_58 : decode cX11_lawAtHand 58 = .ok (.ifCond .eq 7, 3) := by decide +kernel
theorem dX11_lawAtHand_61 : decode cX11_lawAtHand 61 = .ok (.iconst 4, 1) := by decide +kernel
theorem dX11_lawAtHand_62 : decode cX11_lawAtHand 62 = .ok (.goto 31, 3) := by decide +kernel
theorem dX11_lawAtHand_65 : decode cX11_lawAtHand 65 = .ok (.aload_n 0, 1) := by decide +kernel
theorem dX11_lawAtHand_66 : decode cX11_lawAtHand 66 = .ok (.ldc 188, 2) := by decide +kernel
theorem dX11_lawAtHand_68 : decode cX11_lawAtHand 68 = .ok (.invokevirtual 176, 3) := by decide +kernel
theorem dX11_lawAtHand_71 : decode cX11_lawAtHand 71 = .ok (.ifCond .eq 7, 3) := by decide +kernel
theorem dX11_lawAtHand_74 : decode cX11_lawAtHand 74 = .ok (.iconst 5, 1) := by decide +kernel
theorem dX11_lawAtHand_75 : decode cX11_lawAtHand 75 = .ok (.goto 18, 3) := by decide +kernel
theorem dX11_lawAtHand_78 : decode cX11_lawAtHand 78 = .ok (.aload_n 0, 1) := by decide +kernel
theorem dX11_lawAtHand_79 : decode cX11_lawAtHand 79 = .ok (.ldc 190, 2) := by decide +kernel
theorem dX11_lawAtHand_81 : decode cX11_lawAtHand 81 = .ok (.invokevirtual 176, 3) := by decide +kernel
theorem dX11_lawAtHand_84 : decode cX11_lawAtHand 84 = .ok (.ifCond .eq 8, 3) := by decide +kernel
theorem dX11_lawAtHand_87 : decode cX11_lawAtHand 87 = .ok (.bipush 6, 2) := by decide +kernel
theorem dX11_lawAtHand_89 : decode cX11_lawAtHand 89 = .ok (.goto 4, 3) := by decide +kernel
theorem dX11_lawAtHand_92 : decode cX11_lawAtHand 92 = .ok (.iconst (-1), 1) := by decide +kernel
theorem dX11_lawAtHand_93 : decode cX11_lawAtHand 93 = .ok (.ireturn, 1) := by decide +kernel
theorem dX11_least_0 : decode cX11_least 0 = .ok (.iload_n 0, 1) := by decide +kernel
theorem dX11_least_1 : decode cX11_least 1 = .ok (.ifCond .ne 8, 3) := by decide +kernel
theorem dX11_least_4 : decode cX11_least 4 = .ok (.bipush 50, 2) := by decide +kernel
theorem dX11_least_6 : decode cX11_least 6 = .ok (.goto 13, 3) := by decide +kernel
theorem dX11_least_9 : decode cX11_least 9 = .ok (.iload_n 0, 1) := by decide +kernel
theorem dX11_least_10 : decode cX11_least 10 = .ok (.iconst 2, 1) := by decide +kernel
theorem dX11_least_11 : decode cX11_least 11 = .ok (.if_icmp .le 7, 3) := by decide +kernel
theorem dX11_least_14 : decode cX11_least 14 = .ok (.iconst 1, 1) := by decide +kernel
theorem dX11_least_15 : decode cX11_least 15 = .ok (.goto 4, 3) := by decide +kernel
theorem dX11_least_18 : decode cX11_least 18 = .ok (.iconst 0, 1) := by decide +kernel
theorem dX11_least_19 : decode cX11_least 19 = .ok (.ireturn, 1) := by decide +kernel
theorem dX11_most_0 : decode cX11_most 0 = .ok (.iload_n 0, 1) := by decide +kernel
theorem dX11_most_1 : decode cX11_most 1 = .ok (.ifCond .ne 9, 3) := by decide +kernel
theorem dX11_most_4 : decode cX11_most 4 = .ok (.sipush 200, 3) := by decide +kernel
theorem dX11_most_7 : decode cX11_most 7 = .ok (.goto 24, 3) := by decide +kernel
theorem dX11_most_10 : decode cX11_most 10 = .ok (.iload_n 0, 1) := by decide +kernel
theorem dX11_most_11 : decode cX11_most 11 = .ok (.iconst 1, 1) := by decide +kernel
theorem dX11_most_12 : decode cX11_most 12 = .ok (.if_icmp .ne 8, 3) := by decide +kernel
theorem dX11_most_15 : decode cX11_most 15 = .ok (.bipush 100, 2) := by decide +kernel
theorem dX11_most_17 : decode cX11_most 17 = .ok (.goto 14, 3) := by decide +kernel
theorem dX11_most_20 : decode cX11_most 20 = .ok (.iload_n 0, 1) := by decide +kernel
theorem dX11_most_21 : decode cX11_most 21 = .ok (.iconst 4, 1) := by decide +kernel
theorem dX11_most_22 : decode cX11_most 22 = .ok (.if_icmp .ne 7, 3) := by decide +kernel
theorem dX11_most_25 : decode cX11_most 25 = .ok (.iconst 4, 1) := by decide +kernel
theorem dX11_most_26 : decode cX11_most 26 = .ok (.goto 5, 3) := by decide +kernel
theorem dX11_most_29 : decode cX11_most 29 = .ok (.bipush 16, 2) := by decide +kernel
theorem dX11_most_31 : decode cX11_most 31 = .ok (.ireturn, 1) := by decide +kernel
theorem dX11_one_0 : decode cX11_one 0 = .ok (.aload_n 0, 1) := by decide +kernel
theorem dX11_one_1 : decode cX11_one 1 = .ok (.invokevirtual 192, 3) := by decide +kernel
theorem dX11_one_4 : decode cX11_one 4 = .ok (.istore_n 1, 1) := by decide +kernel
theorem dX11_one_5 : decode cX11_one 5 = .ok (.iload_n 1, 1) := by decide +kernel
theorem dX11_one_6 : decode cX11_one 6 = .ok (.iconst (-1), 1) := by decide +kernel
theorem dX11_one_7 : decode cX11_one 7 = .ok (.if_icmp .ne 9, 3) := by decide +kernel
theorem dX11_one_10 : decode cX11_one 10 = .ok (.aload_n 0, 1) := by decide +kernel
theorem dX11_one_11 : decode cX11_one 11 = .ok (.iconst 1, 1) := by decide +kernel
theorem dX11_one_12 : decode cX11_one 12 = .ok (.invokevirtual 195, 3) := by decide +kernel
theorem dX11_one_15 : decode cX11_one 15 = .ok (.ireturn, 1) := by decide +kernel
theorem dX11_one_16 : decode cX11_one 16 = .ok (.aload_n 0, 1) := by decide +kernel
theorem dX11_one_17 : decode cX11_one 17 = .ok (.invokevirtual 198, 3) := by decide +kernel
theorem dX11_one_20 : decode cX11_one 20 = .ok (.iload_n 1, 1) := by decide +kernel
theorem dX11_one_21 : decode cX11_one 21 = .ok (.iconst 4, 1) := by decide +kernel
theorem dX11_one_22 : decode cX11_one 22 = .ok (.if_icmp .le 16, 3) := by decide +kernel
theorem dX11_one_25 : decode cX11_one 25 = .ok (.aload_n 0, 1) := by decide +kernel
theorem dX11_one_26 : decode cX11_one 26 = .ok (.getfield 58, 3) := by decide +kernel
theorem dX11_one_29 : decode cX11_one 29 = .ok (.iconst 5, 1) := by decide +kernel
theorem dX11_one_30 : decode cX11_one 30 = .ok (.bipush 6, 2) := by decide +kernel
theorem dX11_one_32 : decode cX11_one 32 = .ok (.iload_n 1, 1) := by decide +kernel
theorem dX11_one_33 : decode cX11_one 33 = .ok (.isub, 1) := by decide +kernel
theorem dX11_one_34 : decode cX11_one 34 = .ok (.iastore, 1) := by decide +kernel
theorem dX11_one_35 : decode cX11_one 35 = .ok (.goto 103, 3) := by decide +kernel
theorem dX11_one_38 : decode cX11_one 38 = .ok (.aload_n 0, 1) := by decide +kernel
theorem dX11_one_39 : decode cX11_one 39 = .ok (.aload_n 0, 1) := by decide +kernel
theorem dX11_one_40 : decode cX11_one 40 = .ok (.getfield 152, 3) := by decide +kernel
theorem dX11_one_43 : decode cX11_one 43 = .ok (.invokevirtual 155, 3) := by decide +kernel
theorem dX11_one_46 : decode cX11_one 46 = .ok (.invokestatic 162, 3) := by decide +kernel
theorem dX11_one_49 : decode cX11_one 49 = .ok (.ifCond .eq 16, 3) := by decide +kernel
theorem dX11_one_52 : decode cX11_one 52 = .ok (.aload_n 0, 1) := by decide +kernel
theorem dX11_one_53 : decode cX11_one 53 = .ok (.getfield 149, 3) := by decide +kernel
theorem dX11_one_56 : decode cX11_one 56 = .ok (.aload_n 0, 1) := by decide +kernel
theorem dX11_one_57 : decode cX11_one 57 = .ok (.getfield 152, 3) := by decide +kernel
theorem dX11_one_60 : decode cX11_one 60 = .ok (.isub, 1) := by decide +kernel
theorem dX11_one_61 : decode cX11_one 61 = .ok (.iconst 4, 1) := by decide +kernel
theorem dX11_one_62 : decode cX11_one 62 = .ok (.if_icmp .le 9, 3) := by decide +kernel
theorem dX11_one_65 : decode cX11_one 65 = .ok (.aload_n 0, 1) := by decide +kernel
theorem dX11_one_66 : decode cX11_one 66 = .ok (.iconst 1, 1) := by decide +kernel
theorem dX11_one_67 : decode cX11_one 67 = .ok (.invokevirtual 195, 3) := by decide +kernel
theorem dX11_one_70 : decode cX11_one 70 = .ok (.ireturn, 1) := by decide +kernel
theorem dX11_one_71 : decode cX11_one 71 = .ok (.iconst 0, 1) := by decide +kernel
theorem dX11_one_72 : decode cX11_one 72 = .ok (.istore_n 2, 1) := by decide +kernel
theorem dX11_one_73 : decode cX11_one 73 = .ok (.aload_n 0, 1) := by decide +kernel
theorem dX11_one_74 : decode cX11_one 74 = .ok (.getfield 152, 3) := by decide +kernel
theorem dX11_one_77 : decode cX11_one 77 = .ok (.istore_n 3, 1) := by decide +kernel
theorem dX11_one_78 : decode cX11_one 78 = .ok (.iload_n 3, 1) := by decide +kernel
theorem dX11_one_79 : decode cX11_one 79 = .ok (.aload_n 0, 1) := by decide +kernel
theorem dX11_one_80 : decode cX11_one 80 = .ok (.getfield 149, 3) := by decide +kernel
theorem dX11_one_83 : decode cX11_one 83 = .ok (.if_icmp .ge 23, 3) := by decide +kernel
theorem dX11_one_86 : decode cX11_one 86 = .ok (.bipush 10, 2) := by decide +kernel
theorem dX11_one_88 : decode cX11_one 88 = .ok (.iload_n 2, 1) := by decide +kernel
theorem dX11_one_89 : decode cX11_one 89 = .ok (.imul, 1) := by decide +kernel
theorem dX11_one_90 : decode cX11_one 90 = .ok (.aload_n 0, 1) := by decide +kernel
theorem dX11_one_91 : decode cX11_one 91 = .ok (.iload_n 3, 1) := by decide +kernel
theorem dX11_one_92 : decode cX11_one 92 = .ok (.invokevirtual 155, 3) := by decide +kernel
theorem dX11_one_95 : decode cX11_one 95 = .ok (.iadd, 1) := by decide +kernel
theorem dX11_one_96 : decode cX11_one 96 = .ok (.bipush 48, 2) := by decide +kernel
theorem dX11_one_98 : decode cX11_one 98 = .ok (.isub, 1) := by decide +kernel
theorem dX11_one_99 : decode cX11_one 99 = .ok (.istore_n 2, 1) := by decide +kernel
theorem dX11_one_100 : decode cX11_one 100 = .ok (.iinc 3 1, 3) := by decide +kernel
theorem dX11_one_103 : decode cX11_one 103 = .ok (.goto (-25), 3) := by decide +kernel
theorem dX11_one_106 : decode cX11_one 106 = .ok (.iload_n 2, 1) := by decide +kernel
theorem dX11_one_107 : decode cX11_one 107 = .ok (.iload_n 1, 1) := by decide +kernel
theorem dX11_one_108 : decode cX11_one 108 = .ok (.invokestatic 201, 3) := by decide +kernel
theorem dX11_one_111 : decode cX11_one 111 = .ok (.iload_n 1, 1) := by decide +kernel
theorem dX11_one_112 : decode cX11_one 112 = .ok (.invokestatic 204, 3) := by decide +kernel
theorem dX11_one_115 : decode cX11_one 115 = .ok (.invokestatic 109, 3) := by decide +kernel
theorem dX11_one_118 : decode cX11_one 118 = .ok (.ifCond .ne 9, 3) := by decide +kernel
theorem dX11_one_121 : decode cX11_one 121 = .ok (.aload_n 0, 1) := by decide +kernel
theorem dX11_one_122 : decode cX11_one 122 = .ok (.iconst 2, 1) := by decide +kernel
theorem dX11_one_123 : decode cX11_one 123 = .ok (.invokevirtual 195, 3) := by decide +kernel
theorem dX11_one_126 : decode cX11_one 126 = .ok (.ireturn, 1) := by decide +kernel
theorem dX11_one_127 : decode cX11_one 127 = .ok (.aload_n 0, 1) := by decide +kernel
theorem dX11_one_128 : decode cX11_one 128 = .ok (.getfield 58, 3) := by decide +kernel
theorem dX11_one_131 : decode cX11_one 131 = .ok (.iload_n 1, 1) := by decide +kernel
theorem dX11_one_132 : decode cX11_one 132 = .ok (.iload_n 2, 1) := by decide +kernel
theorem dX11_one_133 : decode cX11_one 133 = .ok (.iastore, 1) := by decide +kernel
theorem dX11_one_134 : decode cX11_one 134 = .ok (.aload_n 0, 1) := by decide +kernel
theorem dX11_one_135 : decode cX11_one 135 = .ok (.invokevirtual 198, 3) := by decide +kernel
theorem dX11_one_138 : decode cX11_one 138 = .ok (.aload_n 0, 1) := by decide +kernel
theorem dX11_one_139 : decode cX11_one 139 = .ok (.ldc 207, 2) := by decide +kernel
theorem dX11_one_141 : decode cX11_one 141 = .ok (.invokevirtual 176, 3) := by decide +kernel
theorem dX11_one_144 : decode cX11_one 144 = .ok (.ifCond .ne 9, 3) := by decide +kernel
theorem dX11_one_147 : decode cX11_one 147 = .ok (.aload_n 0, 1) := by decide +kernel
theorem dX11_one_148 : decode cX11_one 148 = .ok (.iconst 1, 1) := by decide +kernel
theorem dX11_one_149 : decode cX11_one 149 = .ok (.invokevirtual 195, 3) := by decide +kernel
theorem dX11_one_152 : decode cX11_one 152 = .ok (.ireturn, 1) := by decide +kernel
theorem dX11_one_153 : decode cX11_one 153 = .ok (.aload_n 0, 1) := by decide +kernel
theorem dX11_one_154 : decode cX11_one 154 = .ok (.invokevirtual 198, 3) := by decide +kernel
theorem dX11_one_157 : decode cX11_one 157 = .ok (.iconst 0, 1) := by decide +kernel
theorem dX11_one_158 : decode cX11_one 158 = .ok (.ireturn, 1) := by decide +kernel
theorem dX11_laws_0 : decode cX11_laws 0 = .ok (.aload_n 0, 1) := by decide +kernel
theorem dX11_laws_1 : decode cX11_laws 1 = .ok (.iconst 0, 1) := by decide +kernel
theorem dX11_laws_2 : decode cX11_laws 2 = .ok (.putfield 106, 3) := by decide +kernel
theorem dX11_laws_5 : decode cX11_laws 5 = .ok (.aload_n 0, 1) := by decide +kernel
theorem dX11_laws_6 : decode cX11_laws 6 = .ok (.invokevirtual 127, 3) := by decide +kernel
theorem dX11_laws_9 : decode cX11_laws 9 = .ok (.ifCond .eq 5, 3) := by decide +kernel
theorem dX11_laws_12 : decode cX11_laws 12 = .ok (.iconst (-1), 1) := by decide +kernel
theorem dX11_laws_13 : decode cX11_laws 13 = .ok (.ireturn, 1) := by decide +kernel
theorem dX11_laws_14 : decode cX11_laws 14 = .ok (.aload_n 0, 1) := by decide +kernel
theorem dX11_laws_15 : decode cX11_laws 15 = .ok (.invokevirtual 100, 3) := by decide +kernel
theorem dX11_laws_18 : decode cX11_laws 18 = .ok (.aload_n 0, 1) := by decide +kernel
theorem dX11_laws_19 : decode cX11_laws 19 = .ok (.iconst (-1), 1) := by decide +kernel
theorem dX11_laws_20 : decode cX11_laws 20 = .ok (.putfield 65, 3) := by decide +kernel
theorem dX11_laws_23 : decode cX11_laws 23 = .ok (.aload_n 0, 1) := by decide +kernel
theorem dX11_laws_24 : decode cX11_laws 24 = .ok (.iconst 0, 1) := by decide +kernel
theorem dX11_laws_25 : decode cX11_laws 25 = .ok (.putfield 149, 3) := by decide +kernel
theorem dX11_laws_28 : decode cX11_laws 28 = .ok (.aload_n 0, 1) := by decide +kernel
theorem dX11_laws_29 : decode cX11_laws 29 = .ok (.invokevirtual 198, 3) := by decide +kernel
theorem dX11_laws_32 : decode cX11_laws 32 = .ok (.iconst 0, 1) := by decide +kernel
theorem dX11_laws_33 : decode cX11_laws 33 = .ok (.istore_n 1, 1) := by decide +kernel
theorem dX11_laws_34 : decode cX11_laws 34 = .ok (.iload_n 1, 1) := by decide +kernel
theorem dX11_laws_35 : decode cX11_laws 35 = .ok (.ifCond .ne 22, 3) := by decide +kernel
theorem dX11_laws_38 : decode cX11_laws 38 = .ok (.aload_n 0, 1) := by decide +kernel
theorem dX11_laws_39 : decode cX11_laws 39 = .ok (.getfield 152, 3) := by decide +kernel
theorem dX11_laws_42 : decode cX11_laws 42 = .ok (.aload_n 0, 1) := by decide +kernel
theorem dX11_laws_43 : decode cX11_laws 43 = .ok (.getfield 146, 3) := by decide +kernel
theorem dX11_laws_46 : decode cX11_laws 46 = .ok (.if_icmp .ge 11, 3) := by decide +kernel
theorem dX11_laws_49 : decode cX11_laws 49 = .ok (.aload_n 0, 1) := by decide +kernel
theorem dX11_laws_50 : decode cX11_laws 50 = .ok (.invokevirtual 209, 3) := by decide +kernel
theorem dX11_laws_53 : decode cX11_laws 53 = .ok (.istore_n 1, 1) := by decide +kernel
theorem dX11_laws_54 : decode cX11_laws 54 = .ok (.goto (-20), 3) := by decide +kernel
theorem dX11_laws_57 : decode cX11_laws 57 = .ok (.aload_n 0, 1) := by decide +kernel
theorem dX11_laws_58 : decode cX11_laws 58 = .ok (.iconst 0, 1) := by decide +kernel
theorem dX11_laws_59 : decode cX11_laws 59 = .ok (.putfield 146, 3) := by decide +kernel
theorem dX11_laws_62 : decode cX11_laws 62 = .ok (.iload_n 1, 1) := by decide +kernel
theorem dX11_laws_63 : decode cX11_laws 63 = .ok (.ifCond .ne 7, 3) := by decide +kernel
theorem dX11_laws_66 : decode cX11_laws 66 = .ok (.aload_n 0, 1) := by decide +kernel
theorem dX11_laws_67 : decode cX11_laws 67 = .ok (.invokevirtual 103, 3) := by decide +kernel
theorem dX11_laws_70 : decode cX11_laws 70 = .ok (.iload_n 1, 1) := by decide +kernel
theorem dX11_laws_71 : decode cX11_laws 71 = .ok (.ireturn, 1) := by decide +kernel
theorem dX11_place_0 : decode cX11_place 0 = .ok (.aload_n 0, 1) := by decide +kernel
theorem dX11_place_1 : decode cX11_place 1 = .ok (.iconst 0, 1) := by decide +kernel
theorem dX11_place_2 : decode cX11_place 2 = .ok (.putfield 106, 3) := by decide +kernel
theorem dX11_place_5 : decode cX11_place 5 = .ok (.aload_n 0, 1) := by decide +kernel
theorem dX11_place_6 : decode cX11_place 6 = .ok (.getfield 65, 3) := by decide +kernel
theorem dX11_place_9 : decode cX11_place 9 = .ok (.ireturn, 1) := by decide +kernel
theorem dX11_law_0 : decode cX11_law 0 = .ok (.aload_n 0, 1) := by decide +kernel
theorem dX11_law_1 : decode cX11_law 1 = .ok (.iconst 0, 1) := by decide +kernel
theorem dX11_law_2 : decode cX11_law 2 = .ok (.putfield 106, 3) := by decide +kernel
theorem dX11_law_5 : decode cX11_law 5 = .ok (.iload_n 1, 1) := by decide +kernel
theorem dX11_law_6 : decode cX11_law 6 = .ok (.iconst 0, 1) := by decide +kernel
theorem dX11_law_7 : decode cX11_law 7 = .ok (.iconst 5, 1) := by decide +kernel
theorem dX11_law_8 : decode cX11_law 8 = .ok (.invokestatic 109, 3) := by decide +kernel
theorem dX11_law_11 : decode cX11_law 11 = .ok (.ifCond .eq 12, 3) := by decide +kernel
theorem dX11_law_14 : decode cX11_law 14 = .ok (.aload_n 0, 1) := by decide +kernel
theorem dX11_law_15 : decode cX11_law 15 = .ok (.getfield 55, 3) := by decide +kernel
theorem dX11_law_18 : decode cX11_law 18 = .ok (.iload_n 1, 1) := by decide +kernel
theorem dX11_law_19 : decode cX11_law 19 = .ok (.iaload, 1) := by decide +kernel
theorem dX11_law_20 : decode cX11_law 20 = .ok (.goto 4, 3) := by decide +kernel
theorem dX11_law_23 : decode cX11_law 23 = .ok (.iconst (-1), 1) := by decide +kernel
theorem dX11_law_24 : decode cX11_law 24 = .ok (.ireturn, 1) := by decide +kernel
theorem dX11_isOn_0 : decode cX11_isOn 0 = .ok (.aload_n 0, 1) := by decide +kernel
theorem dX11_isOn_1 : decode cX11_isOn 1 = .ok (.getfield 113, 3) := by decide +kernel
theorem dX11_isOn_4 : decode cX11_isOn 4 = .ok (.ifCond .eq 29, 3) := by decide +kernel
theorem dX11_isOn_7 : decode cX11_isOn 7 = .ok (.aload_n 0, 1) := by decide +kernel
theorem dX11_isOn_8 : decode cX11_isOn 8 = .ok (.getfield 212, 3) := by decide +kernel
theorem dX11_isOn_11 : decode cX11_isOn 11 = .ok (.ifCond .le 22, 3) := by decide +kernel
theorem dX11_isOn_14 : decode cX11_isOn 14 = .ok (.aload_n 0, 1) := by decide +kernel
theorem dX11_isOn_15 : decode cX11_isOn 15 = .ok (.getfield 69, 3) := by decide +kernel
theorem dX11_isOn_18 : decode cX11_isOn 18 = .ok (.aload_n 0, 1) := by decide +kernel
theorem dX11_isOn_19 : decode cX11_isOn 19 = .ok (.getfield 212, 3) := by decide +kernel
theorem dX11_isOn_22 : decode cX11_isOn 22 = .ok (.iconst 1, 1) := by decide +kernel
theorem dX11_isOn_23 : decode cX11_isOn 23 = .ok (.isub, 1) := by decide +kernel
theorem dX11_isOn_24 : decode cX11_isOn 24 = .ok (.iaload, 1) := by decide +kernel
theorem dX11_isOn_25 : decode cX11_isOn 25 = .ok (.iconst 1, 1) := by decide +kernel
theorem dX11_isOn_26 : decode cX11_isOn 26 = .ok (.if_icmp .ne 7, 3) := by decide +kernel
theorem dX11_isOn_29 : decode cX11_isOn 29 = .ok (.iconst 1, 1) := by decide +kernel
theorem dX11_isOn_30 : decode cX11_isOn 30 = .ok (.goto 4, 3) := by decide +kernel
theorem dX11_isOn_33 : decode cX11_isOn 33 = .ok (.iconst 0, 1) := by decide +kernel
theorem dX11_isOn_34 : decode cX11_isOn 34 = .ok (.ireturn, 1) := by decide +kernel
theorem dX11_race_0 : decode cX11_race 0 = .ok (.aload_n 0, 1) := by decide +kernel
theorem dX11_race_1 : decode cX11_race 1 = .ok (.iconst 0, 1) := by decide +kernel
theorem dX11_race_2 : decode cX11_race 2 = .ok (.putfield 106, 3) := by decide +kernel
theorem dX11_race_5 : decode cX11_race 5 = .ok (.aload_n 0, 1) := by decide +kernel
theorem dX11_race_6 : decode cX11_race 6 = .ok (.getfield 117, 3) := by decide +kernel
theorem dX11_race_9 : decode cX11_race 9 = .ok (.ifCond .eq 10, 3) := by decide +kernel
theorem dX11_race_12 : decode cX11_race 12 = .ok (.aload_n 0, 1) := by decide +kernel
theorem dX11_race_13 : decode cX11_race 13 = .ok (.invokevirtual 127, 3) := by decide +kernel
theorem dX11_race_16 : decode cX11_race 16 = .ok (.ifCond .eq 5, 3) := by decide +kernel
theorem dX11_race_19 : decode cX11_race 19 = .ok (.iconst 0, 1) := by decide +kernel
theorem dX11_race_20 : decode cX11_race 20 = .ok (.ireturn, 1) := by decide +kernel
theorem dX11_race_21 : decode cX11_race 21 = .ok (.aload_n 0, 1) := by decide +kernel
theorem dX11_race_22 : decode cX11_race 22 = .ok (.iconst 1, 1) := by decide +kernel
theorem dX11_race_23 : decode cX11_race 23 = .ok (.putfield 113, 3) := by decide +kernel
theorem dX11_race_26 : decode cX11_race 26 = .ok (.aload_n 0, 1) := by decide +kernel
theorem dX11_race_27 : decode cX11_race 27 = .ok (.invokevirtual 214, 3) := by decide +kernel
theorem dX11_race_30 : decode cX11_race 30 = .ok (.iconst 1, 1) := by decide +kernel
theorem dX11_race_31 : decode cX11_race 31 = .ok (.ireturn, 1) := by decide +kernel
theorem dX11_clears_0 : decode cX11_clears 0 = .ok (.aload_n 0, 1) := by decide +kernel
theorem dX11_clears_1 : decode cX11_clears 1 = .ok (.iconst 0, 1) := by decide +kernel
theorem dX11_clears_2 : decode cX11_clears 2 = .ok (.putfield 212, 3) := by decide +kernel
theorem dX11_clears_5 : decode cX11_clears 5 = .ok (.aload_n 0, 1) := by decide +kernel
theorem dX11_clears_6 : decode cX11_clears 6 = .ok (.iconst 0, 1) := by decide +kernel
theorem dX11_clears_7 : decode cX11_clears 7 = .ok (.putfield 217, 3) := by decide +kernel
theorem dX11_clears_10 : decode cX11_clears 10 = .ok (.aload_n 0, 1) := by decide +kernel
theorem dX11_clears_11 : decode cX11_clears 11 = .ok (.iconst 0, 1) := by decide +kernel
theorem dX11_clears_12 : decode cX11_clears 12 = .ok (.putfield 220, 3) := by decide +kernel
theorem dX11_clears_15 : decode cX11_clears 15 = .ok (.aload_n 0, 1) := by decide +kernel
theorem dX11_clears_16 : decode cX11_clears 16 = .ok (.iconst 0, 1) := by decide +kernel
theorem dX11_clears_17 : decode cX11_clears 17 = .ok (.putfield 223, 3) := by decide +kernel
theorem dX11_clears_20 : decode cX11_clears 20 = .ok (.iconst 0, 1) := by decide +kernel
theorem dX11_clears_21 : decode cX11_clears 21 = .ok (.istore_n 1, 1) := by decide +kernel
theorem dX11_clears_22 : decode cX11_clears 22 = .ok (.iload_n 1, 1) := by decide +kernel
theorem dX11_clears_23 : decode cX11_clears 23 = .ok (.bipush 16, 2) := by decide +kernel
theorem dX11_clears_25 : decode cX11_clears 25 = .ok (.if_icmp .ge 16, 3) := by decide +kernel
theorem dX11_clears_28 : decode cX11_clears 28 = .ok (.aload_n 0, 1) := by decide +kernel
theorem dX11_clears_29 : decode cX11_clears 29 = .ok (.getfield 75, 3) := by decide +kernel
theorem dX11_clears_32 : decode cX11_clears 32 = .ok (.iload_n 1, 1) := by decide +kernel
theorem dX11_clears_33 : decode cX11_clears 33 = .ok (.iconst 0, 1) := by decide +kernel
theorem dX11_clears_34 : decode cX11_clears 34 = .ok (.bastore, 1) := by decide +kernel
theorem dX11_clears_35 : decode cX11_clears 35 = .ok (.iinc 1 1, 3) := by decide +kernel
theorem dX11_clears_38 : decode cX11_clears 38 = .ok (.goto (-16), 3) := by decide +kernel
theorem dX11_clears_41 : decode cX11_clears 41 = .ok (.iconst 0, 1) := by decide +kernel
theorem dX11_clears_42 : decode cX11_clears 42 = .ok (.istore_n 1, 1) := by decide +kernel
theorem dX11_clears_43 : decode cX11_clears 43 = .ok (.iload_n 1, 1) := by decide +kernel
theorem dX11_clears_44 : decode cX11_clears 44 = .ok (.bipush 64, 2) := by decide +kernel
theorem dX11_clears_46 : decode cX11_clears 46 = .ok (.if_icmp .ge 16, 3) := by decide +kernel
theorem dX11_clears_49 : decode cX11_clears 49 = .ok (.aload_n 0, 1) := by decide +kernel
theorem dX11_clears_50 : decode cX11_clears 50 = .ok (.getfield 79, 3) := by decide +kernel
theorem dX11_clears_53 : decode cX11_clears 53 = .ok (.iload_n 1, 1) := by decide +kernel
theorem dX11_clears_54 : decode cX11_clears 54 = .ok (.iconst 0, 1) := by decide +kernel
theorem dX11_clears_55 : decode cX11_clears 55 = .ok (.bastore, 1) := by decide +kernel
theorem dX11_clears_56 : decode cX11_clears 56 = .ok (.iinc 1 1, 3) := by decide +kernel
theorem dX11_clears_59 : decode cX11_clears 59 = .ok (.goto (-16), 3) := by decide +kernel
theorem dX11_clears_62 : decode cX11_clears 62 = .ok (.iconst 0, 1) := by decide +kernel
theorem dX11_clears_63 : decode cX11_clears 63 = .ok (.istore_n 1, 1) := by decide +kernel
theorem dX11_clears_64 : decode cX11_clears 64 = .ok (.iload_n 1, 1) := by decide +kernel
theorem dX11_clears_65 : decode cX11_clears 65 = .ok (.iconst 4, 1) := by decide +kernel
theorem dX11_clears_66 : decode cX11_clears 66 = .ok (.if_icmp .ge 16, 3) := by decide +kernel
theorem dX11_clears_69 : decode cX11_clears 69 = .ok (.aload_n 0, 1) := by decide +kernel
theorem dX11_clears_70 : decode cX11_clears 70 = .ok (.getfield 69, 3) := by decide +kernel
theorem dX11_clears_73 : decode cX11_clears 73 = .ok (.iload_n 1, 1) := by decide +kernel
theorem dX11_clears_74 : decode cX11_clears 74 = .ok (.iconst 0, 1) := by decide +kernel
theorem dX11_clears_75 : decode cX11_clears 75 = .ok (.iastore, 1) := by decide +kernel
theorem dX11_clears_76 : decode cX11_clears 76 = .ok (.iinc 1 1, 3) := by decide +kernel
theorem dX11_clears_79 : decode cX11_clears 79 = .ok (.goto (-15), 3) := by decide +kernel
theorem dX11_clears_82 : decode cX11_clears 82 = .ok (.return_, 1) := by decide +kernel
theorem dX11_isEntered_0 : decode cX11_isEntered 0 = .ok (.aload_n 0, 1) := by decide +kernel
theorem dX11_isEntered_1 : decode cX11_isEntered 1 = .ok (.getfield 113, 3) := by decide +kernel
theorem dX11_isEntered_4 : decode cX11_isEntered 4 = .ok (.ifCond .eq 30, 3) := by decide +kernel
theorem dX11_isEntered_7 : decode cX11_isEntered 7 = .ok (.iload_n 1, 1) := by decide +kernel
theorem dX11_isEntered_8 : decode cX11_isEntered 8 = .ok (.iconst 0, 1) := by decide +kernel
theorem dX11_isEntered_9 : decode cX11_isEntered 9 = .ok (.aload_n 0, 1) := by decide +kernel
theorem dX11_isEntered_10 : decode cX11_isEntered 10 = .ok (.getfield 139, 3) := by decide +kernel
theorem dX11_isEntered_13 : decode cX11_isEntered 13 = .ok (.iconst 1, 1) := by decide +kernel
theorem dX11_isEntered_14 : decode cX11_isEntered 14 = .ok (.isub, 1) := by decide +kernel
theorem dX11_isEntered_15 : decode cX11_isEntered 15 = .ok (.invokestatic 109, 3) := by decide +kernel
theorem dX11_isEntered_18 : decode cX11_isEntered 18 = .ok (.ifCond .eq 16, 3) := by decide +kernel
theorem dX11_isEntered_21 : decode cX11_isEntered 21 = .ok (.aload_n 0, 1) := by decide +kernel
theorem dX11_isEntered_22 : decode cX11_isEntered 22 = .ok (.getfield 75, 3) := by decide +kernel
theorem dX11_isEntered_25 : decode cX11_isEntered 25 = .ok (.iload_n 1, 1) := by decide +kernel
theorem dX11_isEntered_26 : decode cX11_isEntered 26 = .ok (.baload, 1) := by decide +kernel
theorem dX11_isEntered_27 : decode cX11_isEntered 27 = .ok (.ifCond .eq 7, 3) := by decide +kernel
theorem dX11_isEntered_30 : decode cX11_isEntered 30 = .ok (.iconst 1, 1) := by decide +kernel
theorem dX11_isEntered_31 : decode cX11_isEntered 31 = .ok (.goto 4, 3) := by decide +kernel
theorem dX11_isEntered_34 : decode cX11_isEntered 34 = .ok (.iconst 0, 1) := by decide +kernel
theorem dX11_isEntered_35 : decode cX11_isEntered 35 = .ok (.ireturn, 1) := by decide +kernel
theorem dX11_begin_0 : decode cX11_begin 0 = .ok (.aload_n 0, 1) := by decide +kernel
theorem dX11_begin_1 : decode cX11_begin 1 = .ok (.iconst 0, 1) := by decide +kernel
theorem dX11_begin_2 : decode cX11_begin 2 = .ok (.putfield 106, 3) := by decide +kernel
theorem dX11_begin_5 : decode cX11_begin 5 = .ok (.aload_n 0, 1) := by decide +kernel
theorem dX11_begin_6 : decode cX11_begin 6 = .ok (.getfield 113, 3) := by decide +kernel
theorem dX11_begin_9 : decode cX11_begin 9 = .ok (.ifCond .eq 33, 3) := by decide +kernel
theorem dX11_begin_12 : decode cX11_begin 12 = .ok (.aload_n 0, 1) := by decide +kernel
theorem dX11_begin_13 : decode cX11_begin 13 = .ok (.invokevirtual 127, 3) := by decide +kernel
theorem dX11_begin_16 : decode cX11_begin 16 = .ok (.ifCond .ne 26, 3) := by decide +kernel
theorem dX11_begin_19 : decode cX11_begin 19 = .ok (.aload_n 0, 1) := by decide +kernel
theorem dX11_begin_20 : decode cX11_begin 20 = .ok (.getfield 212, 3) := by decide +kernel
theorem dX11_begin_23 : decode cX11_begin 23 = .ok (.aload_n 0, 1) := by decide +kernel
theorem dX11_begin_24 : decode cX11_begin 24 = .ok (.getfield 55, 3) := by decide +kernel
theorem dX11_begin_27 : decode cX11_begin 27 = .ok (.iconst 4, 1) := by decide +kernel
theorem dX11_begin_28 : decode cX11_begin 28 = .ok (.iaload, 1) := by decide +kernel
theorem dX11_begin_29 : decode cX11_begin 29 = .ok (.iconst 1, 1) := by decide +kernel
theorem dX11_begin_30 : decode cX11_begin 30 = .ok (.isub, 1) := by decide +kernel
theorem dX11_begin_31 : decode cX11_begin 31 = .ok (.if_icmp .gt 11, 3) := by decide +kernel
theorem dX11_begin_34 : decode cX11_begin 34 = .ok (.aload_n 0, 1) := by decide +kernel
theorem dX11_begin_35 : decode cX11_begin 35 = .ok (.getfield 212, 3) := by decide +kernel
theorem dX11_begin_38 : decode cX11_begin 38 = .ok (.iconst 3, 1) := by decide +kernel
theorem dX11_begin_39 : decode cX11_begin 39 = .ok (.if_icmp .le 5, 3) := by decide +kernel
theorem dX11_begin_42 : decode cX11_begin 42 = .ok (.iconst (-1), 1) := by decide +kernel
theorem dX11_begin_43 : decode cX11_begin 43 = .ok (.ireturn, 1) := by decide +kernel
theorem dX11_begin_44 : decode cX11_begin 44 = .ok (.iconst 0, 1) := by decide +kernel
theorem dX11_begin_45 : decode cX11_begin 45 = .ok (.istore_n 2, 1) := by decide +kernel
theorem dX11_begin_46 : decode cX11_begin 46 = .ok (.aload_n 0, 1) := by decide +kernel
theorem dX11_begin_47 : decode cX11_begin 47 = .ok (.getfield 212, 3) := by decide +kernel
theorem dX11_begin_50 : decode cX11_begin 50 = .ok (.ifCond .ne 50, 3) := by decide +kernel
theorem dX11_begin_53 : decode cX11_begin 53 = .ok (.iconst 0, 1) := by decide +kernel
theorem dX11_begin_54 : decode cX11_begin 54 = .ok (.istore_n 3, 1) := by decide +kernel
theorem dX11_begin_55 : decode cX11_begin 55 = .ok (.iload_n 3, 1) := by decide +kernel
theorem dX11_begin_56 : decode cX11_begin 56 = .ok (.aload_n 0, 1) := by decide +kernel
theorem dX11_begin_57 : decode cX11_begin 57 = .ok (.getfield 139, 3) := by decide +kernel
theorem dX11_begin_60 : decode cX11_begin 60 = .ok (.if_icmp .ge 37, 3) := by decide +kernel
theorem dX11_begin_63 : decode cX11_begin 63 = .ok (.aload_n 0, 1) := by decide +kernel
theorem dX11_begin_64 : decode cX11_begin 64 = .ok (.getfield 43, 3) := by decide +kernel
theorem dX11_begin_67 : decode cX11_begin 67 = .ok (.iload_n 3, 1) := by decide +kernel
theorem dX11_begin_68 : decode cX11_begin 68 = .ok (.iaload, 1) := by decide +kernel
theorem dX11_begin_69 : decode cX11_begin 69 = .ok (.aload_n 0, 1) := by decide +kernel
theorem dX11_begin_70 : decode cX11_begin 70 = .ok (.getfield 55, 3) := by decide +kernel
theorem dX11_begin_73 : decode cX11_begin 73 = .ok (.iconst 0, 1) := by decide +kernel
theorem dX11_begin_74 : decode cX11_begin 74 = .ok (.iaload, 1) := by decide +kernel
theorem dX11_begin_75 : decode cX11_begin 75 = .ok (.if_icmp .le 6, 3) := by decide +kernel
theorem dX11_begin_78 : decode cX11_begin 78 = .ok (.goto 13, 3) := by decide +kernel
theorem dX11_begin_81 : decode cX11_begin 81 = .ok (.aload_n 0, 1) := by decide +kernel
theorem dX11_begin_82 : decode cX11_begin 82 = .ok (.getfield 97, 3) := by decide +kernel
theorem dX11_begin_85 : decode cX11_begin 85 = .ok (.iload_n 2, 1) := by decide +kernel
theorem dX11_begin_86 : decode cX11_begin 86 = .ok (.iload_n 3, 1) := by decide +kernel
theorem dX11_begin_87 : decode cX11_begin 87 = .ok (.iastore, 1) := by decide +kernel
theorem dX11_begin_88 : decode cX11_begin 88 = .ok (.iinc 2 1, 3) := by decide +kernel
theorem dX11_begin_91 : decode cX11_begin 91 = .ok (.iinc 3 1, 3) := by decide +kernel
theorem dX11_begin_94 : decode cX11_begin 94 = .ok (.goto (-39), 3) := by decide +kernel
theorem dX11_begin_97 : decode cX11_begin 97 = .ok (.goto 65, 3) := by decide +kernel
theorem dX11_begin_100 : decode cX11_begin 100 = .ok (.iconst 1, 1) := by decide +kernel
theorem dX11_begin_101 : decode cX11_begin 101 = .ok (.istore_n 3, 1) := by decide +kernel
theorem dX11_begin_102 : decode cX11_begin 102 = .ok (.iload_n 3, 1) := by decide +kernel
theorem dX11_begin_103 : decode cX11_begin 103 = .ok (.aload_n 0, 1) := by decide +kernel
theorem dX11_begin_104 : decode cX11_begin 104 = .ok (.getfield 139, 3) := by decide +kernel
theorem dX11_begin_107 : decode cX11_begin 107 = .ok (.if_icmp .gt 55, 3) := by decide +kernel
theorem dX11_begin_110 : decode cX11_begin 110 = .ok (.iconst 0, 1) := by decide +kernel
theorem dX11_begin_111 : decode cX11_begin 111 = .ok (.istore 4, 2) := by decide +kernel
theorem dX11_begin_113 : decode cX11_begin 113 = .ok (.iload 4, 2) := by decide +kernel
theorem dX11_begin_115 : decode cX11_begin 115 = .ok (.aload_n 0, 1) := by decide +kernel
theorem dX11_begin_116 : decode cX11_begin 116 = .ok (.getfield 139, 3) := by decide +kernel
theorem dX11_begin_119 : decode cX11_begin 119 = .ok (.if_icmp .ge 37, 3) := by decide +kernel
theorem dX11_begin_122 : decode cX11_begin 122 = .ok (.aload_n 0, 1) := by decide +kernel
theorem dX11_begin_123 : decode cX11_begin 123 = .ok (.iload 4, 2) := by decide +kernel
theorem dX11_begin_125 : decode cX11_begin 125 = .ok (.aload_n 0, 1) := by decide +kernel
theorem dX11_begin_126 : decode cX11_begin 126 = .ok (.getfield 223, 3) := by decide +kernel
theorem dX11_begin_129 : decode cX11_begin 129 = .ok (.invokevirtual 226, 3) := by decide +kernel
theorem dX11_begin_132 : decode cX11_begin 132 = .ok (.iload_n 3, 1) := by decide +kernel
theorem dX11_begin_133 : decode cX11_begin 133 = .ok (.if_icmp .eq 6, 3) := by decide +kernel
theorem dX11_begin_136 : decode cX11_begin 136 = .ok (.goto 14, 3) := by decide +kernel
theorem dX11_begin_139 : decode cX11_begin 139 = .ok (.aload_n 0, 1) := by decide +kernel
theorem dX11_begin_140 : decode cX11_begin 140 = .ok (.getfield 97, 3) := by decide +kernel
theorem dX11_begin_143 : decode cX11_begin 143 = .ok (.iload_n 2, 1) := by decide +kernel
theorem dX11_begin_144 : decode cX11_begin 144 = .ok (.iload 4, 2) := by decide +kernel
theorem dX11_begin_146 : decode cX11_begin 146 = .ok (.iastore, 1) := by decide +kernel
theorem dX11_begin_147 : decode cX11_begin 147 = .ok (.iinc 2 1, 3) := by decide +kernel
theorem dX11_begin_150 : decode cX11_begin 150 = .ok (.iinc 4 1, 3) := by decide +kernel
theorem dX11_begin_153 : decode cX11_begin 153 = .ok (.goto (-40), 3) := by decide +kernel
theorem dX11_begin_156 : decode cX11_begin 156 = .ok (.iinc 3 1, 3) := by decide +kernel
theorem dX11_begin_159 : decode cX11_begin 159 = .ok (.goto (-57), 3) := by decide +kernel
theorem dX11_begin_162 : decode cX11_begin 162 = .ok (.iload_n 2, 1) := by decide +kernel
theorem dX11_begin_163 : decode cX11_begin 163 = .ok (.ifCond .ne 5, 3) := by decide +kernel
theorem dX11_begin_166 : decode cX11_begin 166 = .ok (.iconst (-1), 1) := by decide +kernel
theorem dX11_begin_167 : decode cX11_begin 167 = .ok (.ireturn, 1) := by decide +kernel
theorem dX11_begin_168 : decode cX11_begin 168 = .ok (.aload_n 0, 1) := by decide +kernel
theorem dX11_begin_169 : decode cX11_begin 169 = .ok (.getfield 212, 3) := by decide +kernel
theorem dX11_begin_172 : decode cX11_begin 172 = .ok (.ifCond .ne 12, 3) := by decide +kernel
theorem dX11_begin_175 : decode cX11_begin 175 = .ok (.aload_n 0, 1) := by decide +kernel
theorem dX11_begin_176 : decode cX11_begin 176 = .ok (.iload_n 1, 1) := by decide +kernel
theorem dX11_begin_177 : decode cX11_begin 177 = .ok (.iload_n 2, 1) := by decide +kernel
theorem dX11_begin_178 : decode cX11_begin 178 = .ok (.invokevirtual 229, 3) := by decide +kernel
theorem dX11_begin_181 : decode cX11_begin 181 = .ok (.goto 27, 3) := by decide +kernel
theorem dX11_begin_184 : decode cX11_begin 184 = .ok (.aload_n 0, 1) := by decide +kernel
theorem dX11_begin_185 : decode cX11_begin 185 = .ok (.iload_n 2, 1) := by decide +kernel
theorem dX11_begin_186 : decode cX11_begin 186 = .ok (.aload_n 0, 1) := by decide +kernel
theorem dX11_begin_187 : decode cX11_begin 187 = .ok (.getfield 55, 3) := by decide +kernel
theorem dX11_begin_190 : decode cX11_begin 190 = .ok (.iconst 3, 1) := by decide +kernel
theorem dX11_begin_191 : decode cX11_begin 191 = .ok (.iaload, 1) := by decide +kernel
theorem dX11_begin_192 : decode cX11_begin 192 = .ok (.if_icmp .ge 7, 3) := by decide +kernel
theorem dX11_begin_195 : decode cX11_begin 195 = .ok (.iload_n 2, 1) := by decide +kernel
theorem dX11_begin_196 : decode cX11_begin 196 = .ok (.goto 9, 3) := by decide +kernel
theorem dX11_begin_199 : decode cX11_begin 199 = .ok (.aload_n 0, 1) := by decide +kernel
theorem dX11_begin_200 : decode cX11_begin 200 = .ok (.getfield 55, 3) := by decide +kernel
theorem dX11_begin_203 : decode cX11_begin 203 = .ok (.iconst 3, 1) := by decide +kernel
theorem dX11_begin_204 : decode cX11_begin 204 = .ok (.iaload, 1) := by decide +kernel
theorem dX11_begin_205 : decode cX11_begin 205 = .ok (.invokevirtual 233, 3) := by decide +kernel
theorem dX11_begin_208 : decode cX11_begin 208 = .ok (.aload_n 0, 1) := by decide +kernel
theorem dX11_begin_209 : decode cX11_begin 209 = .ok (.iconst 0, 1) := by decide +kernel
theorem dX11_begin_210 : decode cX11_begin 210 = .ok (.putfield 220, 3) := by decide +kernel
theorem dX11_begin_213 : decode cX11_begin 213 = .ok (.aload_n 0, 1) := by decide +kernel
theorem dX11_begin_214 : decode cX11_begin 214 = .ok (.getfield 69, 3) := by decide +kernel
theorem dX11_begin_217 : decode cX11_begin 217 = .ok (.aload_n 0, 1) := by decide +kernel
theorem dX11_begin_218 : decode cX11_begin 218 = .ok (.getfield 212, 3) := by decide +kernel
theorem dX11_begin_221 : decode cX11_begin 221 = .ok (.iconst 1, 1) := by decide +kernel
theorem dX11_begin_222 : decode cX11_begin 222 = .ok (.iastore, 1) := by decide +kernel
theorem dX11_begin_223 : decode cX11_begin 223 = .ok (.aload_n 0, 1) := by decide +kernel
theorem dX11_begin_224 : decode cX11_begin 224 = .ok (.dup, 1) := by decide +kernel
theorem dX11_begin_225 : decode cX11_begin 225 = .ok (.getfield 212, 3) := by decide +kernel
theorem dX11_begin_228 : decode cX11_begin 228 = .ok (.iconst 1, 1) := by decide +kernel
theorem dX11_begin_229 : decode cX11_begin 229 = .ok (.iadd, 1) := by decide +kernel
theorem dX11_begin_230 : decode cX11_begin 230 = .ok (.putfield 212, 3) := by decide +kernel
theorem dX11_begin_233 : decode cX11_begin 233 = .ok (.aload_n 0, 1) := by decide +kernel
theorem dX11_begin_234 : decode cX11_begin 234 = .ok (.getfield 212, 3) := by decide +kernel
theorem dX11_begin_237 : decode cX11_begin 237 = .ok (.iconst 1, 1) := by decide +kernel
theorem dX11_begin_238 : decode cX11_begin 238 = .ok (.isub, 1) := by decide +kernel
theorem dX11_begin_239 : decode cX11_begin 239 = .ok (.ireturn, 1) := by decide +kernel
theorem dX11_draws_0 : decode cX11_draws 0 = .ok (.aload_n 0, 1) := by decide +kernel
theorem dX11_draws_1 : decode cX11_draws 1 = .ok (.iload_n 2, 1) := by decide +kernel
theorem dX11_draws_2 : decode cX11_draws 2 = .ok (.putfield 217, 3) := by decide +kernel
theorem dX11_draws_5 : decode cX11_draws 5 = .ok (.iload_n 1, 1) := by decide +kernel
theorem dX11_draws_6 : decode cX11_draws 6 = .ok (.istore_n 3, 1) := by decide +kernel
theorem dX11_draws_7 : decode cX11_draws 7 = .ok (.iload_n 2, 1) := by decide +kernel
theorem dX11_draws_8 : decode cX11_draws 8 = .ok (.istore 4, 2) := by decide +kernel
theorem dX11_draws_10 : decode cX11_draws 10 = .ok (.iconst 0, 1) := by decide +kernel
theorem dX11_draws_11 : decode cX11_draws 11 = .ok (.istore 5, 2) := by decide +kernel
theorem dX11_draws_13 : decode cX11_draws 13 = .ok (.iload 5, 2) := by decide +kernel
theorem dX11_draws_15 : decode cX11_draws 15 = .ok (.iload_n 2, 1) := by decide +kernel
theorem dX11_draws_16 : decode cX11_draws 16 = .ok (.if_icmp .ge 22, 3) := by decide +kernel
theorem dX11_draws_19 : decode cX11_draws 19 = .ok (.aload_n 0, 1) := by decide +kernel
theorem dX11_draws_20 : decode cX11_draws 20 = .ok (.getfield 75, 3) := by decide +kernel
theorem dX11_draws_23 : decode cX11_draws 23 = .ok (.aload_n 0, 1) := by decide +kernel
theorem dX11_draws_24 : decode cX11_draws 24 = .ok (.getfield 97, 3) := by decide +kernel
theorem dX11_draws_27 : decode cX11_draws 27 = .ok (.iload 5, 2) := by decide +kernel
theorem dX11_draws_29 : decode cX11_draws 29 = .ok (.iaload, 1) := by decide +kernel
theorem dX11_draws_30 : decode cX11_draws 30 = .ok (.iconst 1, 1) := by decide +kernel
theorem dX11_draws_31 : decode cX11_draws 31 = .ok (.bastore, 1) := by decide +kernel
theorem dX11_draws_32 : decode cX11_draws 32 = .ok (.iinc 5 1, 3) := by decide +kernel
theorem dX11_draws_35 : decode cX11_draws 35 = .ok (.goto (-22), 3) := by decide +kernel
theorem dX11_draws_38 : decode cX11_draws 38 = .ok (.iconst 0, 1) := by decide +kernel
theorem dX11_draws_39 : decode cX11_draws 39 = .ok (.istore 5, 2) := by decide +kernel
theorem dX11_draws_41 : decode cX11_draws 41 = .ok (.iload 5, 2) := by decide +kernel
theorem dX11_draws_43 : decode cX11_draws 43 = .ok (.iload_n 2, 1) := by decide +kernel
theorem dX11_draws_44 : decode cX11_draws 44 = .ok (.if_icmp .ge 77, 3) := by decide +kernel
theorem dX11_draws_47 : decode cX11_draws 47 = .ok (.iload_n 3, 1) := by decide +kernel
theorem dX11_draws_48 : decode cX11_draws 48 = .ok (.ldc 237, 2) := by decide +kernel
theorem dX11_draws_50 : decode cX11_draws 50 = .ok (.imul, 1) := by decide +kernel
theorem dX11_draws_51 : decode cX11_draws 51 = .ok (.sipush 12345, 3) := by decide +kernel
theorem dX11_draws_54 : decode cX11_draws 54 = .ok (.iadd, 1) := by decide +kernel
theorem dX11_draws_55 : decode cX11_draws 55 = .ok (.istore_n 3, 1) := by decide +kernel
theorem dX11_draws_56 : decode cX11_draws 56 = .ok (.iload_n 3, 1) := by decide +kernel
theorem dX11_draws_57 : decode cX11_draws 57 = .ok (.bipush 16, 2) := by decide +kernel
theorem dX11_draws_59 : decode cX11_draws 59 = .ok (.iushr, 1) := by decide +kernel
theorem dX11_draws_60 : decode cX11_draws 60 = .ok (.iload 4, 2) := by decide +kernel
theorem dX11_draws_62 : decode cX11_draws 62 = .ok (.irem, 1) := by decide +kernel
theorem dX11_draws_63 : decode cX11_draws 63 = .ok (.istore 6, 2) := by decide +kernel
theorem dX11_draws_65 : decode cX11_draws 65 = .ok (.aload_n 0, 1) := by decide +kernel
theorem dX11_draws_66 : decode cX11_draws 66 = .ok (.getfield 72, 3) := by decide +kernel
theorem dX11_draws_69 : decode cX11_draws 69 = .ok (.iload 5, 2) := by decide +kernel
theorem dX11_draws_71 : decode cX11_draws 71 = .ok (.aload_n 0, 1) := by decide +kernel
theorem dX11_draws_72 : decode cX11_draws 72 = .ok (.getfield 97, 3) := by decide +kernel
theorem dX11_draws_75 : decode cX11_draws 75 = .ok (.iload 6, 2) := by decide +kernel
theorem dX11_draws_77 : decode cX11_draws 77 = .ok (.iaload, 1) := by decide +kernel
theorem dX11_draws_78 : decode cX11_draws 78 = .ok (.iastore, 1) := by decide +kernel
theorem dX11_draws_79 : decode cX11_draws 79 = .ok (.iinc 4 (-1), 3) := by decide +kernel
theorem dX11_draws_82 : decode cX11_draws 82 = .ok (.iload 6, 2) := by decide +kernel
theorem dX11_draws_84 : decode cX11_draws 84 = .ok (.istore 7, 2) := by decide +kernel
theorem dX11_draws_86 : decode cX11_draws 86 = .ok (.iload 7, 2) := by decide +kernel
theorem dX11_draws_88 : decode cX11_draws 88 = .ok (.iload 4, 2) := by decide +kernel
theorem dX11_draws_90 : decode cX11_draws 90 = .ok (.if_icmp .ge 25, 3) := by decide +kernel
theorem dX11_draws_93 : decode cX11_draws 93 = .ok (.aload_n 0, 1) := by decide +kernel
theorem dX11_draws_94 : decode cX11_draws 94 = .ok (.getfield 97, 3) := by decide +kernel
theorem dX11_draws_97 : decode cX11_draws 97 = .ok (.iload 7, 2) := by decide +kernel
theorem dX11_draws_99 : decode cX11_draws 99 = .ok (.aload_n 0, 1) := by decide +kernel
theorem dX11_draws_100 : decode cX11_draws 100 = .ok (.getfield 97, 3) := by decide +kernel
theorem dX11_draws_103 : decode cX11_draws 103 = .ok (.iload 7, 2) := by decide +kernel
theorem dX11_draws_105 : decode cX11_draws 105 = .ok (.iconst 1, 1) := by decide +kernel
theorem dX11_draws_106 : decode cX11_draws 106 = .ok (.iadd, 1) := by decide +kernel
theorem dX11_draws_107 : decode cX11_draws 107 = .ok (.iaload, 1) := by decide +kernel
theorem dX11_draws_108 : decode cX11_draws 108 = .ok (.iastore, 1) := by decide +kernel
theorem dX11_draws_109 : decode cX11_draws 109 = .ok (.iinc 7 1, 3) := by decide +kernel
theorem dX11_draws_112 : decode cX11_draws 112 = .ok (.goto (-26), 3) := by decide +kernel
theorem dX11_draws_115 : decode cX11_draws 115 = .ok (.iinc 5 1, 3) := by decide +kernel
theorem dX11_draws_118 : decode cX11_draws 118 = .ok (.goto (-77), 3) := by decide +kernel
theorem dX11_draws_121 : decode cX11_draws 121 = .ok (.return_, 1) := by decide +kernel
theorem dX11_turns_0 : decode cX11_turns 0 = .ok (.aload_n 0, 1) := by decide +kernel
theorem dX11_turns_1 : decode cX11_turns 1 = .ok (.iload_n 1, 1) := by decide +kernel
theorem dX11_turns_2 : decode cX11_turns 2 = .ok (.putfield 217, 3) := by decide +kernel
theorem dX11_turns_5 : decode cX11_turns 5 = .ok (.aload_n 0, 1) := by decide +kernel
theorem dX11_turns_6 : decode cX11_turns 6 = .ok (.getfield 55, 3) := by decide +kernel
theorem dX11_turns_9 : decode cX11_turns 9 = .ok (.iconst 2, 1) := by decide +kernel
theorem dX11_turns_10 : decode cX11_turns 10 = .ok (.iaload, 1) := by decide +kernel
theorem dX11_turns_11 : decode cX11_turns 11 = .ok (.iload_n 1, 1) := by decide +kernel
theorem dX11_turns_12 : decode cX11_turns 12 = .ok (.if_icmp .ge 12, 3) := by decide +kernel
theorem dX11_turns_15 : decode cX11_turns 15 = .ok (.aload_n 0, 1) := by decide +kernel
theorem dX11_turns_16 : decode cX11_turns 16 = .ok (.getfield 55, 3) := by decide +kernel
theorem dX11_turns_19 : decode cX11_turns 19 = .ok (.iconst 2, 1) := by decide +kernel
theorem dX11_turns_20 : decode cX11_turns 20 = .ok (.iaload, 1) := by decide +kernel
theorem dX11_turns_21 : decode cX11_turns 21 = .ok (.goto 4, 3) := by decide +kernel
theorem dX11_turns_24 : decode cX11_turns 24 = .ok (.iload_n 1, 1) := by decide +kernel
theorem dX11_turns_25 : decode cX11_turns 25 = .ok (.istore_n 2, 1) := by decide +kernel
theorem dX11_turns_26 : decode cX11_turns 26 = .ok (.iconst 0, 1) := by decide +kernel
theorem dX11_turns_27 : decode cX11_turns 27 = .ok (.istore_n 3, 1) := by decide +kernel
theorem dX11_turns_28 : decode cX11_turns 28 = .ok (.iload_n 3, 1) := by decide +kernel
theorem dX11_turns_29 : decode cX11_turns 29 = .ok (.iload_n 1, 1) := by decide +kernel
theorem dX11_turns_30 : decode cX11_turns 30 = .ok (.if_icmp .ge 39, 3) := by decide +kernel
theorem dX11_turns_33 : decode cX11_turns 33 = .ok (.aload_n 0, 1) := by decide +kernel
theorem dX11_turns_34 : decode cX11_turns 34 = .ok (.getfield 72, 3) := by decide +kernel
theorem dX11_turns_37 : decode cX11_turns 37 = .ok (.iload_n 3, 1) := by decide +kernel
theorem dX11_turns_38 : decode cX11_turns 38 = .ok (.iload_n 3, 1) := by decide +kernel
theorem dX11_turns_39 : decode cX11_turns 39 = .ok (.iload_n 2, 1) := by decide +kernel
theorem dX11_turns_40 : decode cX11_turns 40 = .ok (.if_icmp .ge 16, 3) := by decide +kernel
theorem dX11_turns_43 : decode cX11_turns 43 = .ok (.aload_n 0, 1) := by decide +kernel
theorem dX11_turns_44 : decode cX11_turns 44 = .ok (.getfield 97, 3) := by decide +kernel
theorem dX11_turns_47 : decode cX11_turns 47 = .ok (.iload_n 2, 1) := by decide +kernel
theorem dX11_turns_48 : decode cX11_turns 48 = .ok (.iconst 1, 1) := by decide +kernel
theorem dX11_turns_49 : decode cX11_turns 49 = .ok (.isub, 1) := by decide +kernel
theorem dX11_turns_50 : decode cX11_turns 50 = .ok (.iload_n 3, 1) := by decide +kernel
theorem dX11_turns_51 : decode cX11_turns 51 = .ok (.isub, 1) := by decide +kernel
theorem dX11_turns_52 : decode cX11_turns 52 = .ok (.iaload, 1) := by decide +kernel
theorem dX11_turns_53 : decode cX11_turns 53 = .ok (.goto 9, 3) := by decide +kernel
theorem dX11_turns_56 : decode cX11_turns 56 = .ok (.aload_n 0, 1) := by decide +kernel
theorem dX11_turns_57 : decode cX11_turns 57 = .ok (.getfield 97, 3) := by decide +kernel
theorem dX11_turns_60 : decode cX11_turns 60 = .ok (.iload_n 3, 1) := by decide +kernel
theorem dX11_turns_61 : decode cX11_turns 61 = .ok (.iaload, 1) := by decide +kernel
theorem dX11_turns_62 : decode cX11_turns 62 = .ok (.iastore, 1) := by decide +kernel
theorem dX11_turns_63 : decode cX11_turns 63 = .ok (.iinc 3 1, 3) := by decide +kernel
theorem dX11_turns_66 : decode cX11_turns 66 = .ok (.goto (-38), 3) := by decide +kernel
theorem dX11_turns_69 : decode cX11_turns 69 = .ok (.return_, 1) := by decide +kernel
theorem dX11_order_0 : decode cX11_order 0 = .ok (.aload_n 0, 1) := by decide +kernel
theorem dX11_order_1 : decode cX11_order 1 = .ok (.iconst 0, 1) := by decide +kernel
theorem dX11_order_2 : decode cX11_order 2 = .ok (.putfield 106, 3) := by decide +kernel
theorem dX11_order_5 : decode cX11_order 5 = .ok (.aload_n 0, 1) := by decide +kernel
theorem dX11_order_6 : decode cX11_order 6 = .ok (.getfield 113, 3) := by decide +kernel
theorem dX11_order_9 : decode cX11_order 9 = .ok (.ifCond .eq 26, 3) := by decide +kernel
theorem dX11_order_12 : decode cX11_order 12 = .ok (.iload_n 1, 1) := by decide +kernel
theorem dX11_order_13 : decode cX11_order 13 = .ok (.iconst 0, 1) := by decide +kernel
theorem dX11_order_14 : decode cX11_order 14 = .ok (.aload_n 0, 1) := by decide +kernel
theorem dX11_order_15 : decode cX11_order 15 = .ok (.getfield 217, 3) := by decide +kernel
theorem dX11_order_18 : decode cX11_order 18 = .ok (.iconst 1, 1) := by decide +kernel
theorem dX11_order_19 : decode cX11_order 19 = .ok (.isub, 1) := by decide +kernel
theorem dX11_order_20 : decode cX11_order 20 = .ok (.invokestatic 109, 3) := by decide +kernel
theorem dX11_order_23 : decode cX11_order 23 = .ok (.ifCond .eq 12, 3) := by decide +kernel
theorem dX11_order_26 : decode cX11_order 26 = .ok (.aload_n 0, 1) := by decide +kernel
theorem dX11_order_27 : decode cX11_order 27 = .ok (.getfield 72, 3) := by decide +kernel
theorem dX11_order_30 : decode cX11_order 30 = .ok (.iload_n 1, 1) := by decide +kernel
theorem dX11_order_31 : decode cX11_order 31 = .ok (.iaload, 1) := by decide +kernel
theorem dX11_order_32 : decode cX11_order 32 = .ok (.goto 4, 3) := by decide +kernel
theorem dX11_order_35 : decode cX11_order 35 = .ok (.iconst (-1), 1) := by decide +kernel
theorem dX11_order_36 : decode cX11_order 36 = .ok (.ireturn, 1) := by decide +kernel
theorem dX11_start_0 : decode cX11_start 0 = .ok (.aload_n 0, 1) := by decide +kernel
theorem dX11_start_1 : decode cX11_start 1 = .ok (.iconst 0, 1) := by decide +kernel
theorem dX11_start_2 : decode cX11_start 2 = .ok (.putfield 106, 3) := by decide +kernel
theorem dX11_start_5 : decode cX11_start 5 = .ok (.aload_n 0, 1) := by decide +kernel
theorem dX11_start_6 : decode cX11_start 6 = .ok (.invokevirtual 127, 3) := by decide +kernel
theorem dX11_start_9 : decode cX11_start 9 = .ok (.ifCond .ne 5, 3) := by decide +kernel
theorem dX11_start_12 : decode cX11_start 12 = .ok (.iconst (-1), 1) := by decide +kernel
theorem dX11_start_13 : decode cX11_start 13 = .ok (.ireturn, 1) := by decide +kernel
theorem dX11_start_14 : decode cX11_start 14 = .ok (.aload_n 0, 1) := by decide +kernel
theorem dX11_start_15 : decode cX11_start 15 = .ok (.getfield 212, 3) := by decide +kernel
theorem dX11_start_18 : decode cX11_start 18 = .ok (.iconst 1, 1) := by decide +kernel
theorem dX11_start_19 : decode cX11_start 19 = .ok (.isub, 1) := by decide +kernel
theorem dX11_start_20 : decode cX11_start 20 = .ok (.istore_n 1, 1) := by decide +kernel
theorem dX11_start_21 : decode cX11_start 21 = .ok (.aload_n 0, 1) := by decide +kernel
theorem dX11_start_22 : decode cX11_start 22 = .ok (.getfield 72, 3) := by decide +kernel
theorem dX11_start_25 : decode cX11_start 25 = .ok (.aload_n 0, 1) := by decide +kernel
theorem dX11_start_26 : decode cX11_start 26 = .ok (.getfield 220, 3) := by decide +kernel
theorem dX11_start_29 : decode cX11_start 29 = .ok (.iaload, 1) := by decide +kernel
theorem dX11_start_30 : decode cX11_start 30 = .ok (.istore_n 2, 1) := by decide +kernel
theorem dX11_start_31 : decode cX11_start 31 = .ok (.bipush 16, 2) := by decide +kernel
theorem dX11_start_33 : decode cX11_start 33 = .ok (.iload_n 1, 1) := by decide +kernel
theorem dX11_start_34 : decode cX11_start 34 = .ok (.imul, 1) := by decide +kernel
theorem dX11_start_35 : decode cX11_start 35 = .ok (.iload_n 2, 1) := by decide +kernel
theorem dX11_start_36 : decode cX11_start 36 = .ok (.iadd, 1) := by decide +kernel
theorem dX11_start_37 : decode cX11_start 37 = .ok (.istore_n 3, 1) := by decide +kernel
theorem dX11_start_38 : decode cX11_start 38 = .ok (.aload_n 0, 1) := by decide +kernel
theorem dX11_start_39 : decode cX11_start 39 = .ok (.getfield 91, 3) := by decide +kernel
theorem dX11_start_42 : decode cX11_start 42 = .ok (.iload_n 3, 1) := by decide +kernel
theorem dX11_start_43 : decode cX11_start 43 = .ok (.aload_n 0, 1) := by decide +kernel
theorem dX11_start_44 : decode cX11_start 44 = .ok (.invokevirtual 238, 3) := by decide +kernel
theorem dX11_start_47 : decode cX11_start 47 = .ok (.iastore, 1) := by decide +kernel
theorem dX11_start_48 : decode cX11_start 48 = .ok (.iconst 0, 1) := by decide +kernel
theorem dX11_start_49 : decode cX11_start 49 = .ok (.istore 4, 2) := by decide +kernel
theorem dX11_start_51 : decode cX11_start 51 = .ok (.iconst 0, 1) := by decide +kernel
theorem dX11_start_52 : decode cX11_start 52 = .ok (.istore 5, 2) := by decide +kernel
theorem dX11_start_54 : decode cX11_start 54 = .ok (.iconst 0, 1) := by decide +kernel
theorem dX11_start_55 : decode cX11_start 55 = .ok (.istore 6, 2) := by decide +kernel
theorem dX11_start_57 : decode cX11_start 57 = .ok (.iload 6, 2) := by decide +kernel
theorem dX11_start_59 : decode cX11_start 59 = .ok (.aload_n 0, 1) := by decide +kernel
theorem dX11_start_60 : decode cX11_start 60 = .ok (.getfield 117, 3) := by decide +kernel
theorem dX11_start_63 : decode cX11_start 63 = .ok (.if_icmp .gt 135, 3) := by decide +kernel
theorem dX11_start_66 : decode cX11_start 66 = .ok (.iload 5, 2) := by decide +kernel
theorem dX11_start_68 : decode cX11_start 68 = .ok (.aload_n 0, 1) := by decide +kernel
theorem dX11_start_69 : decode cX11_start 69 = .ok (.getfield 120, 3) := by decide +kernel
theorem dX11_start_72 : decode cX11_start 72 = .ok (.if_icmp .ge 27, 3) := by decide +kernel
theorem dX11_start_75 : decode cX11_start 75 = .ok (.aload_n 0, 1) := by decide +kernel
theorem dX11_start_76 : decode cX11_start 76 = .ok (.getfield 25, 3) := by decide +kernel
theorem dX11_start_79 : decode cX11_start 79 = .ok (.iload 5, 2) := by decide +kernel
theorem dX11_start_81 : decode cX11_start 81 = .ok (.iaload, 1) := by decide +kernel
theorem dX11_start_82 : decode cX11_start 82 = .ok (.iload 6, 2) := by decide +kernel
theorem dX11_start_84 : decode cX11_start 84 = .ok (.if_icmp .ne 15, 3) := by decide +kernel
theorem dX11_start_87 : decode cX11_start 87 = .ok (.aload_n 0, 1) := by decide +kernel
theorem dX11_start_88 : decode cX11_start 88 = .ok (.iload_n 3, 1) := by decide +kernel
theorem dX11_start_89 : decode cX11_start 89 = .ok (.iload 5, 2) := by decide +kernel
theorem dX11_start_91 : decode cX11_start 91 = .ok (.iload 4, 2) := by decide +kernel
theorem dX11_start_93 : decode cX11_start 93 = .ok (.invokevirtual 241, 3) := by decide +kernel
theorem dX11_start_96 : decode cX11_start 96 = .ok (.iinc 5 1, 3) := by decide +kernel
theorem dX11_start_99 : decode cX11_start 99 = .ok (.iload 6, 2) := by decide +kernel
theorem dX11_start_101 : decode cX11_start 101 = .ok (.aload_n 0, 1) := by decide +kernel
theorem dX11_start_102 : decode cX11_start 102 = .ok (.getfield 117, 3) := by decide +kernel
theorem dX11_start_105 : decode cX11_start 105 = .ok (.if_icmp .ge 87, 3) := by decide +kernel
theorem dX11_start_108 : decode cX11_start 108 = .ok (.iload 4, 2) := by decide +kernel
theorem dX11_start_110 : decode cX11_start 110 = .ok (.aload_n 0, 1) := by decide +kernel
theorem dX11_start_111 : decode cX11_start 111 = .ok (.iload 6, 2) := by decide +kernel
theorem dX11_start_113 : decode cX11_start 113 = .ok (.aload_n 0, 1) := by decide +kernel
theorem dX11_start_114 : decode cX11_start 114 = .ok (.getfield 43, 3) := by decide +kernel
theorem dX11_start_117 : decode cX11_start 117 = .ok (.iload_n 2, 1) := by decide +kernel
theorem dX11_start_118 : decode cX11_start 118 = .ok (.iaload, 1) := by decide +kernel
theorem dX11_start_119 : decode cX11_start 119 = .ok (.aload_n 0, 1) := by decide +kernel
theorem dX11_start_120 : decode cX11_start 120 = .ok (.getfield 46, 3) := by decide +kernel
theorem dX11_start_123 : decode cX11_start 123 = .ok (.iload_n 2, 1) := by decide +kernel
theorem dX11_start_124 : decode cX11_start 124 = .ok (.iaload, 1) := by decide +kernel
theorem dX11_start_125 : decode cX11_start 125 = .ok (.aload_n 0, 1) := by decide +kernel
theorem dX11_start_126 : decode cX11_start 126 = .ok (.getfield 49, 3) := by decide +kernel
theorem dX11_start_129 : decode cX11_start 129 = .ok (.iload_n 2, 1) := by decide +kernel
theorem dX11_start_130 : decode cX11_start 130 = .ok (.iaload, 1) := by decide +kernel
theorem dX11_start_131 : decode cX11_start 131 = .ok (.invokevirtual 142, 3) := by decide +kernel
theorem dX11_start_134 : decode cX11_start 134 = .ok (.iadd, 1) := by decide +kernel
theorem dX11_start_135 : decode cX11_start 135 = .ok (.istore 4, 2) := by decide +kernel
theorem dX11_start_137 : decode cX11_start 137 = .ok (.aload_n 0, 1) := by decide +kernel
theorem dX11_start_138 : decode cX11_start 138 = .ok (.getfield 22, 3) := by decide +kernel
theorem dX11_start_141 : decode cX11_start 141 = .ok (.iload 6, 2) := by decide +kernel
theorem dX11_start_143 : decode cX11_start 143 = .ok (.aload_n 0, 1) := by decide +kernel
theorem dX11_start_144 : decode cX11_start 144 = .ok (.getfield 22, 3) := by decide +kernel
theorem dX11_start_147 : decode cX11_start 147 = .ok (.iload 6, 2) := by decide +kernel
theorem dX11_start_149 : decode cX11_start 149 = .ok (.iaload, 1) := by decide +kernel
theorem dX11_start_150 : decode cX11_start 150 = .ok (.iconst 1, 1) := by decide +kernel
theorem dX11_start_151 : decode cX11_start 151 = .ok (.iadd, 1) := by decide +kernel
theorem dX11_start_152 : decode cX11_start 152 = .ok (.aload_n 0, 1) := by decide +kernel
theorem dX11_start_153 : decode cX11_start 153 = .ok (.getfield 43, 3) := by decide +kernel
theorem dX11_start_156 : decode cX11_start 156 = .ok (.iload_n 2, 1) := by decide +kernel
theorem dX11_start_157 : decode cX11_start 157 = .ok (.iaload, 1) := by decide +kernel
theorem dX11_start_158 : decode cX11_start 158 = .ok (.bipush 64, 2) := by decide +kernel
theorem dX11_start_160 : decode cX11_start 160 = .ok (.idiv, 1) := by decide +kernel
theorem dX11_start_161 : decode cX11_start 161 = .ok (.iadd, 1) := by decide +kernel
theorem dX11_start_162 : decode cX11_start 162 = .ok (.iconst 0, 1) := by decide +kernel
theorem dX11_start_163 : decode cX11_start 163 = .ok (.bipush 100, 2) := by decide +kernel
theorem dX11_start_165 : decode cX11_start 165 = .ok (.invokestatic 131, 3) := by decide +kernel
theorem dX11_start_168 : decode cX11_start 168 = .ok (.iastore, 1) := by decide +kernel
theorem dX11_start_169 : decode cX11_start 169 = .ok (.aload_n 0, 1) := by decide +kernel
theorem dX11_start_170 : decode cX11_start 170 = .ok (.getfield 19, 3) := by decide +kernel
theorem dX11_start_173 : decode cX11_start 173 = .ok (.iload 6, 2) := by decide +kernel
theorem dX11_start_175 : decode cX11_start 175 = .ok (.aload_n 0, 1) := by decide +kernel
theorem dX11_start_176 : decode cX11_start 176 = .ok (.getfield 19, 3) := by decide +kernel
theorem dX11_start_179 : decode cX11_start 179 = .ok (.iload 6, 2) := by decide +kernel
theorem dX11_start_181 : decode cX11_start 181 = .ok (.iaload, 1) := by decide +kernel
theorem dX11_start_182 : decode cX11_start 182 = .ok (.iconst 2, 1) := by decide +kernel
theorem dX11_start_183 : decode cX11_start 183 = .ok (.isub, 1) := by decide +kernel
theorem dX11_start_184 : decode cX11_start 184 = .ok (.iconst 0, 1) := by decide +kernel
theorem dX11_start_185 : decode cX11_start 185 = .ok (.sipush 1000, 3) := by decide +kernel
theorem dX11_start_188 : decode cX11_start 188 = .ok (.invokestatic 131, 3) := by decide +kernel
theorem dX11_start_191 : decode cX11_start 191 = .ok (.iastore, 1) := by decide +kernel
theorem dX11_start_192 : decode cX11_start 192 = .ok (.iinc 6 1, 3) := by decide +kernel
theorem dX11_start_195 : decode cX11_start 195 = .ok (.goto (-138), 3) := by decide +kernel
theorem dX11_start_198 : decode cX11_start 198 = .ok (.aload_n 0, 1) := by decide +kernel
theorem dX11_start_199 : decode cX11_start 199 = .ok (.getfield 120, 3) := by decide +kernel
theorem dX11_start_202 : decode cX11_start 202 = .ok (.iconst 1, 1) := by decide +kernel
theorem dX11_start_203 : decode cX11_start 203 = .ok (.isub, 1) := by decide +kernel
theorem dX11_start_204 : decode cX11_start 204 = .ok (.istore 6, 2) := by decide +kernel
theorem dX11_start_206 : decode cX11_start 206 = .ok (.aload_n 0, 1) := by decide +kernel
theorem dX11_start_207 : decode cX11_start 207 = .ok (.getfield 82, 3) := by decide +kernel
theorem dX11_start_210 : decode cX11_start 210 = .ok (.bipush 6, 2) := by decide +kernel
theorem dX11_start_212 : decode cX11_start 212 = .ok (.iload_n 3, 1) := by decide +kernel
theorem dX11_start_213 : decode cX11_start 213 = .ok (.imul, 1) := by decide +kernel
theorem dX11_start_214 : decode cX11_start 214 = .ok (.iload 6, 2) := by decide +kernel
theorem dX11_start_216 : decode cX11_start 216 = .ok (.iadd, 1) := by decide +kernel
theorem dX11_start_217 : decode cX11_start 217 = .ok (.iaload, 1) := by decide +kernel
theorem dX11_start_218 : decode cX11_start 218 = .ok (.ldc 245, 2) := by decide +kernel
theorem dX11_start_220 : decode cX11_start 220 = .ok (.if_icmp .ne 9, 3) := by decide +kernel
theorem dX11_start_223 : decode cX11_start 223 = .ok (.iinc 6 (-1), 3) := by decide +kernel
theorem dX11_start_226 : decode cX11_start 226 = .ok (.goto (-20), 3) := by decide +kernel
theorem dX11_start_229 : decode cX11_start 229 = .ok (.aload_n 0, 1) := by decide +kernel
theorem dX11_start_230 : decode cX11_start 230 = .ok (.getfield 88, 3) := by decide +kernel
theorem dX11_start_233 : decode cX11_start 233 = .ok (.iload_n 3, 1) := by decide +kernel
theorem dX11_start_234 : decode cX11_start 234 = .ok (.aload_n 0, 1) := by decide +kernel
theorem dX11_start_235 : decode cX11_start 235 = .ok (.getfield 82, 3) := by decide +kernel
theorem dX11_start_238 : decode cX11_start 238 = .ok (.bipush 6, 2) := by decide +kernel
theorem dX11_start_240 : decode cX11_start 240 = .ok (.iload_n 3, 1) := by decide +kernel
theorem dX11_start_241 : decode cX11_start 241 = .ok (.imul, 1) := by decide +kernel
theorem dX11_start_242 : decode cX11_start 242 = .ok (.iload 6, 2) := by decide +kernel
theorem dX11_start_244 : decode cX11_start 244 = .ok (.iadd, 1) := by decide +kernel
theorem dX11_start_245 : decode cX11_start 245 = .ok (.iaload, 1) := by decide +kernel
theorem dX11_start_246 : decode cX11_start 246 = .ok (.iload 6, 2) := by decide +kernel
theorem dX11_start_248 : decode cX11_start 248 = .ok (.aload_n 0, 1) := by decide +kernel
theorem dX11_start_249 : decode cX11_start 249 = .ok (.getfield 120, 3) := by decide +kernel
theorem dX11_start_252 : decode cX11_start 252 = .ok (.iconst 1, 1) := by decide +kernel
theorem dX11_start_253 : decode cX11_start 253 = .ok (.isub, 1) := by decide +kernel
theorem dX11_start_254 : decode cX11_start 254 = .ok (.if_icmp .ge 9, 3) := by decide +kernel
theorem dX11_start_257 : decode cX11_start 257 = .ok (.sipush 10000, 3) := by decide +kernel
theorem dX11_start_260 : decode cX11_start 260 = .ok (.goto 4, 3) := by decide +kernel
theorem dX11_start_263 : decode cX11_start 263 = .ok (.iconst 0, 1) := by decide +kernel
theorem dX11_start_264 : decode cX11_start 264 = .ok (.iadd, 1) := by decide +kernel
theorem dX11_start_265 : decode cX11_start 265 = .ok (.iastore, 1) := by decide +kernel
theorem dX11_start_266 : decode cX11_start 266 = .ok (.aload_n 0, 1) := by decide +kernel
theorem dX11_start_267 : decode cX11_start 267 = .ok (.getfield 79, 3) := by decide +kernel
theorem dX11_start_270 : decode cX11_start 270 = .ok (.iload_n 3, 1) := by decide +kernel
theorem dX11_start_271 : decode cX11_start 271 = .ok (.iconst 1, 1) := by decide +kernel
theorem dX11_start_272 : decode cX11_start 272 = .ok (.bastore, 1) := by decide +kernel
theorem dX11_start_273 : decode cX11_start 273 = .ok (.aload_n 0, 1) := by decide +kernel
theorem dX11_start_274 : decode cX11_start 274 = .ok (.dup, 1) := by decide +kernel
theorem dX11_start_275 : decode cX11_start 275 = .ok (.getfield 220, 3) := by decide +kernel
theorem dX11_start_278 : decode cX11_start 278 = .ok (.iconst 1, 1) := by decide +kernel
theorem dX11_start_279 : decode cX11_start 279 = .ok (.iadd, 1) := by decide +kernel
theorem dX11_start_280 : decode cX11_start 280 = .ok (.putfield 220, 3) := by decide +kernel
theorem dX11_start_283 : decode cX11_start 283 = .ok (.aload_n 0, 1) := by decide +kernel
theorem dX11_start_284 : decode cX11_start 284 = .ok (.getfield 220, 3) := by decide +kernel
theorem dX11_start_287 : decode cX11_start 287 = .ok (.aload_n 0, 1) := by decide +kernel
theorem dX11_start_288 : decode cX11_start 288 = .ok (.getfield 217, 3) := by decide +kernel
theorem dX11_start_291 : decode cX11_start 291 = .ok (.if_icmp .ne 30, 3) := by decide +kernel
theorem dX11_start_294 : decode cX11_start 294 = .ok (.aload_n 0, 1) := by decide +kernel
theorem dX11_start_295 : decode cX11_start 295 = .ok (.getfield 69, 3) := by decide +kernel
theorem dX11_start_298 : decode cX11_start 298 = .ok (.iload_n 1, 1) := by decide +kernel
theorem dX11_start_299 : decode cX11_start 299 = .ok (.iconst 2, 1) := by decide +kernel
theorem dX11_start_300 : decode cX11_start 300 = .ok (.iastore, 1) := by decide +kernel
theorem dX11_start_301 : decode cX11_start 301 = .ok (.aload_n 0, 1) := by decide +kernel
theorem dX11_start_302 : decode cX11_start 302 = .ok (.getfield 94, 3) := by decide +kernel
theorem dX11_start_305 : decode cX11_start 305 = .ok (.aload_n 0, 1) := by decide +kernel
theorem dX11_start_306 : decode cX11_start 306 = .ok (.getfield 223, 3) := by decide +kernel
theorem dX11_start_309 : decode cX11_start 309 = .ok (.iload_n 1, 1) := by decide +kernel
theorem dX11_start_310 : decode cX11_start 310 = .ok (.iastore, 1) := by decide +kernel
theorem dX11_start_311 : decode cX11_start 311 = .ok (.aload_n 0, 1) := by decide +kernel
theorem dX11_start_312 : decode cX11_start 312 = .ok (.dup, 1) := by decide +kernel
theorem dX11_start_313 : decode cX11_start 313 = .ok (.getfield 223, 3) := by decide +kernel
theorem dX11_start_316 : decode cX11_start 316 = .ok (.iconst 1, 1) := by decide +kernel
theorem dX11_start_317 : decode cX11_start 317 = .ok (.iadd, 1) := by decide +kernel
theorem dX11_start_318 : decode cX11_start 318 = .ok (.putfield 223, 3) := by decide +kernel
theorem dX11_start_321 : decode cX11_start 321 = .ok (.aload_n 0, 1) := by decide +kernel
theorem dX11_start_322 : decode cX11_start 322 = .ok (.getfield 88, 3) := by decide +kernel
theorem dX11_start_325 : decode cX11_start 325 = .ok (.iload_n 3, 1) := by decide +kernel
theorem dX11_start_326 : decode cX11_start 326 = .ok (.iaload, 1) := by decide +kernel
theorem dX11_start_327 : decode cX11_start 327 = .ok (.ireturn, 1) := by decide +kernel
theorem dX11_passes_0 : decode cX11_passes 0 = .ok (.aload_n 0, 1) := by decide +kernel
theorem dX11_passes_1 : decode cX11_passes 1 = .ok (.getfield 28, 3) := by decide +kernel
theorem dX11_passes_4 : decode cX11_passes 4 = .ok (.iconst 2, 1) := by decide +kernel
theorem dX11_passes_5 : decode cX11_passes 5 = .ok (.iload_n 2, 1) := by decide +kernel
theorem dX11_passes_6 : decode cX11_passes 6 = .ok (.imul, 1) := by decide +kernel
theorem dX11_passes_7 : decode cX11_passes 7 = .ok (.iaload, 1) := by decide +kernel
theorem dX11_passes_8 : decode cX11_passes 8 = .ok (.istore 4, 2) := by decide +kernel
theorem dX11_passes_10 : decode cX11_passes 10 = .ok (.aload_n 0, 1) := by decide +kernel
theorem dX11_passes_11 : decode cX11_passes 11 = .ok (.getfield 28, 3) := by decide +kernel
theorem dX11_passes_14 : decode cX11_passes 14 = .ok (.iconst 2, 1) := by decide +kernel
theorem dX11_passes_15 : decode cX11_passes 15 = .ok (.iload_n 2, 1) := by decide +kernel
theorem dX11_passes_16 : decode cX11_passes 16 = .ok (.imul, 1) := by decide +kernel
theorem dX11_passes_17 : decode cX11_passes 17 = .ok (.iconst 1, 1) := by decide +kernel
theorem dX11_passes_18 : decode cX11_passes 18 = .ok (.iadd, 1) := by decide +kernel
theorem dX11_passes_19 : decode cX11_passes 19 = .ok (.iaload, 1) := by decide +kernel
theorem dX11_passes_20 : decode cX11_passes 20 = .ok (.istore 5, 2) := by decide +kernel
theorem dX11_passes_22 : decode cX11_passes 22 = .ok (.iload_n 2, 1) := by decide +kernel
theorem dX11_passes_23 : decode cX11_passes 23 = .ok (.ifCond .ne 7, 3) := by decide +kernel
theorem dX11_passes_26 : decode cX11_passes 26 = .ok (.iconst 1, 1) := by decide +kernel
theorem dX11_passes_27 : decode cX11_passes 27 = .ok (.goto 4, 3) := by decide +kernel
theorem dX11_passes_30 : decode cX11_passes 30 = .ok (.iconst 0, 1) := by decide +kernel
theorem dX11_passes_31 : decode cX11_passes 31 = .ok (.istore 6, 2) := by decide +kernel
theorem dX11_passes_33 : decode cX11_passes 33 = .ok (.aload_n 0, 1) := by decide +kernel
theorem dX11_passes_34 : decode cX11_passes 34 = .ok (.getfield 82, 3) := by decide +kernel
theorem dX11_passes_37 : decode cX11_passes 37 = .ok (.bipush 6, 2) := by decide +kernel
theorem dX11_passes_39 : decode cX11_passes 39 = .ok (.iload_n 1, 1) := by decide +kernel
theorem dX11_passes_40 : decode cX11_passes 40 = .ok (.imul, 1) := by decide +kernel
theorem dX11_passes_41 : decode cX11_passes 41 = .ok (.iload_n 2, 1) := by decide +kernel
theorem dX11_passes_42 : decode cX11_passes 42 = .ok (.iadd, 1) := by decide +kernel
theorem dX11_passes_43 : decode cX11_passes 43 = .ok (.iload 6, 2) := by decide +kernel
theorem dX11_passes_45 : decode cX11_passes 45 = .ok (.ifCond .eq 7, 3) := by decide +kernel
theorem dX11_passes_48 : decode cX11_passes 48 = .ok (.iconst 0, 1) := by decide +kernel
theorem dX11_passes_49 : decode cX11_passes 49 = .ok (.goto 33, 3) := by decide +kernel
theorem dX11_passes_52 : decode cX11_passes 52 = .ok (.iload 4, 2) := by decide +kernel
theorem dX11_passes_54 : decode cX11_passes 54 = .ok (.bipush 100, 2) := by decide +kernel
theorem dX11_passes_56 : decode cX11_passes 56 = .ok (.if_icmp .eq 10, 3) := by decide +kernel
theorem dX11_passes_59 : decode cX11_passes 59 = .ok (.iload_n 3, 1) := by decide +kernel
theorem dX11_passes_60 : decode cX11_passes 60 = .ok (.iload 4, 2) := by decide +kernel
theorem dX11_passes_62 : decode cX11_passes 62 = .ok (.iadd, 1) := by decide +kernel
theorem dX11_passes_63 : decode cX11_passes 63 = .ok (.goto 19, 3) := by decide +kernel
theorem dX11_passes_66 : decode cX11_passes 66 = .ok (.iload 5, 2) := by decide +kernel
theorem dX11_passes_68 : decode cX11_passes 68 = .ok (.bipush 100, 2) := by decide +kernel
theorem dX11_passes_70 : decode cX11_passes 70 = .ok (.if_icmp .eq 10, 3) := by decide +kernel
theorem dX11_passes_73 : decode cX11_passes 73 = .ok (.iload_n 3, 1) := by decide +kernel
theorem dX11_passes_74 : decode cX11_passes 74 = .ok (.iload 5, 2) := by decide +kernel
theorem dX11_passes_76 : decode cX11_passes 76 = .ok (.iadd, 1) := by decide +kernel
theorem dX11_passes_77 : decode cX11_passes 77 = .ok (.goto 5, 3) := by decide +kernel
theorem dX11_passes_80 : decode cX11_passes 80 = .ok (.ldc 245, 2) := by decide +kernel
theorem dX11_passes_82 : decode cX11_passes 82 = .ok (.iastore, 1) := by decide +kernel
theorem dX11_passes_83 : decode cX11_passes 83 = .ok (.aload_n 0, 1) := by decide +kernel
theorem dX11_passes_84 : decode cX11_passes 84 = .ok (.getfield 85, 3) := by decide +kernel
theorem dX11_passes_87 : decode cX11_passes 87 = .ok (.bipush 6, 2) := by decide +kernel
theorem dX11_passes_89 : decode cX11_passes 89 = .ok (.iload_n 1, 1) := by decide +kernel
theorem dX11_passes_90 : decode cX11_passes 90 = .ok (.imul, 1) := by decide +kernel
theorem dX11_passes_91 : decode cX11_passes 91 = .ok (.iload_n 2, 1) := by decide +kernel
theorem dX11_passes_92 : decode cX11_passes 92 = .ok (.iadd, 1) := by decide +kernel
theorem dX11_passes_93 : decode cX11_passes 93 = .ok (.iload 6, 2) := by decide +kernel
theorem dX11_passes_95 : decode cX11_passes 95 = .ok (.ifCond .ne 17, 3) := by decide +kernel
theorem dX11_passes_98 : decode cX11_passes 98 = .ok (.iload 4, 2) := by decide +kernel
theorem dX11_passes_100 : decode cX11_passes 100 = .ok (.bipush 100, 2) := by decide +kernel
theorem dX11_passes_102 : decode cX11_passes 102 = .ok (.if_icmp .eq 10, 3) := by decide +kernel
theorem dX11_passes_105 : decode cX11_passes 105 = .ok (.iload 5, 2) := by decide +kernel
theorem dX11_passes_107 : decode cX11_passes 107 = .ok (.bipush 100, 2) := by decide +kernel
theorem dX11_passes_109 : decode cX11_passes 109 = .ok (.if_icmp .ne 7, 3) := by decide +kernel
theorem dX11_passes_112 : decode cX11_passes 112 = .ok (.iconst 0, 1) := by decide +kernel
theorem dX11_passes_113 : decode cX11_passes 113 = .ok (.goto 23, 3) := by decide +kernel
theorem dX11_passes_116 : decode cX11_passes 116 = .ok (.iload 4, 2) := by decide +kernel
theorem dX11_passes_118 : decode cX11_passes 118 = .ok (.iload 5, 2) := by decide +kernel
theorem dX11_passes_120 : decode cX11_passes 120 = .ok (.if_icmp .le 11, 3) := by decide +kernel
theorem dX11_passes_123 : decode cX11_passes 123 = .ok (.iload 4, 2) := by decide +kernel
theorem dX11_passes_125 : decode cX11_passes 125 = .ok (.iload 5, 2) := by decide +kernel
theorem dX11_passes_127 : decode cX11_passes 127 = .ok (.isub, 1) := by decide +kernel
theorem dX11_passes_128 : decode cX11_passes 128 = .ok (.goto 8, 3) := by decide +kernel
theorem dX11_passes_131 : decode cX11_passes 131 = .ok (.iload 5, 2) := by decide +kernel
theorem dX11_passes_133 : decode cX11_passes 133 = .ok (.iload 4, 2) := by decide +kernel
theorem dX11_passes_135 : decode cX11_passes 135 = .ok (.isub, 1) := by decide +kernel
theorem dX11_passes_136 : decode cX11_passes 136 = .ok (.iastore, 1) := by decide +kernel
theorem dX11_passes_137 : decode cX11_passes 137 = .ok (.return_, 1) := by decide +kernel
theorem dX11_shut_0 : decode cX11_shut 0 = .ok (.aload_n 0, 1) := by decide +kernel
theorem dX11_shut_1 : decode cX11_shut 1 = .ok (.iconst 0, 1) := by decide +kernel
theorem dX11_shut_2 : decode cX11_shut 2 = .ok (.putfield 106, 3) := by decide +kernel
theorem dX11_shut_5 : decode cX11_shut 5 = .ok (.aload_n 0, 1) := by decide +kernel
theorem dX11_shut_6 : decode cX11_shut 6 = .ok (.invokevirtual 127, 3) := by decide +kernel
theorem dX11_shut_9 : decode cX11_shut 9 = .ok (.ifCond .ne 5, 3) := by decide +kernel
theorem dX11_shut_12 : decode cX11_shut 12 = .ok (.iconst (-1), 1) := by decide +kernel
theorem dX11_shut_13 : decode cX11_shut 13 = .ok (.ireturn, 1) := by decide +kernel
theorem dX11_shut_14 : decode cX11_shut 14 = .ok (.aload_n 0, 1) := by decide +kernel
theorem dX11_shut_15 : decode cX11_shut 15 = .ok (.getfield 69, 3) := by decide +kernel
theorem dX11_shut_18 : decode cX11_shut 18 = .ok (.aload_n 0, 1) := by decide +kernel
theorem dX11_shut_19 : decode cX11_shut 19 = .ok (.getfield 212, 3) := by decide +kernel
theorem dX11_shut_22 : decode cX11_shut 22 = .ok (.iconst 1, 1) := by decide +kernel
theorem dX11_shut_23 : decode cX11_shut 23 = .ok (.isub, 1) := by decide +kernel
theorem dX11_shut_24 : decode cX11_shut 24 = .ok (.iconst 3, 1) := by decide +kernel
theorem dX11_shut_25 : decode cX11_shut 25 = .ok (.iastore, 1) := by decide +kernel
theorem dX11_shut_26 : decode cX11_shut 26 = .ok (.aload_n 0, 1) := by decide +kernel
theorem dX11_shut_27 : decode cX11_shut 27 = .ok (.getfield 220, 3) := by decide +kernel
theorem dX11_shut_30 : decode cX11_shut 30 = .ok (.ireturn, 1) := by decide +kernel
theorem dX11_touch_0 : decode cX11_touch 0 = .ok (.aload_n 0, 1) := by decide +kernel
theorem dX11_touch_1 : decode cX11_touch 1 = .ok (.iconst 0, 1) := by decide +kernel
theorem dX11_touch_2 : decode cX11_touch 2 = .ok (.putfield 106, 3) := by decide +kernel
theorem dX11_touch_5 : decode cX11_touch 5 = .ok (.iload_n 2, 1) := by decide +kernel
theorem dX11_touch_6 : decode cX11_touch 6 = .ok (.iconst 0, 1) := by decide +kernel
theorem dX11_touch_7 : decode cX11_touch 7 = .ok (.sipush 200, 3) := by decide +kernel
theorem dX11_touch_10 : decode cX11_touch 10 = .ok (.invokestatic 109, 3) := by decide +kernel
theorem dX11_touch_13 : decode cX11_touch 13 = .ok (.ifCond .eq 33, 3) := by decide +kernel
theorem dX11_touch_16 : decode cX11_touch 16 = .ok (.aload_n 0, 1) := by decide +kernel
theorem dX11_touch_17 : decode cX11_touch 17 = .ok (.iload_n 1, 1) := by decide +kernel
theorem dX11_touch_18 : decode cX11_touch 18 = .ok (.invokevirtual 246, 3) := by decide +kernel
theorem dX11_touch_21 : decode cX11_touch 21 = .ok (.ifCond .eq 25, 3) := by decide +kernel
theorem dX11_touch_24 : decode cX11_touch 24 = .ok (.iload_n 2, 1) := by decide +kernel
theorem dX11_touch_25 : decode cX11_touch 25 = .ok (.aload_n 0, 1) := by decide +kernel
theorem dX11_touch_26 : decode cX11_touch 26 = .ok (.getfield 55, 3) := by decide +kernel
theorem dX11_touch_29 : decode cX11_touch 29 = .ok (.iconst 1, 1) := by decide +kernel
theorem dX11_touch_30 : decode cX11_touch 30 = .ok (.iaload, 1) := by decide +kernel
theorem dX11_touch_31 : decode cX11_touch 31 = .ok (.if_icmp .le 15, 3) := by decide +kernel
theorem dX11_touch_34 : decode cX11_touch 34 = .ok (.aload_n 0, 1) := by decide +kernel
theorem dX11_touch_35 : decode cX11_touch 35 = .ok (.iload_n 1, 1) := by decide +kernel
theorem dX11_touch_36 : decode cX11_touch 36 = .ok (.aload_n 0, 1) := by decide +kernel
theorem dX11_touch_37 : decode cX11_touch 37 = .ok (.getfield 223, 3) := by decide +kernel
theorem dX11_touch_40 : decode cX11_touch 40 = .ok (.invokevirtual 249, 3) := by decide +kernel
theorem dX11_touch_43 : decode cX11_touch 43 = .ok (.ifCond .eq 5, 3) := by decide +kernel
theorem dX11_touch_46 : decode cX11_touch 46 = .ok (.iconst 0, 1) := by decide +kernel
theorem dX11_touch_47 : decode cX11_touch 47 = .ok (.ireturn, 1) := by decide +kernel
theorem dX11_touch_48 : decode cX11_touch 48 = .ok (.aload_n 0, 1) := by decide +kernel
theorem dX11_touch_49 : decode cX11_touch 49 = .ok (.getfield 94, 3) := by decide +kernel
theorem dX11_touch_52 : decode cX11_touch 52 = .ok (.aload_n 0, 1) := by decide +kernel
theorem dX11_touch_53 : decode cX11_touch 53 = .ok (.getfield 223, 3) := by decide +kernel
theorem dX11_touch_56 : decode cX11_touch 56 = .ok (.bipush 10, 2) := by decide +kernel
theorem dX11_touch_58 : decode cX11_touch 58 = .ok (.iload_n 1, 1) := by decide +kernel
theorem dX11_touch_59 : decode cX11_touch 59 = .ok (.iadd, 1) := by decide +kernel
theorem dX11_touch_60 : decode cX11_touch 60 = .ok (.iastore, 1) := by decide +kernel
theorem dX11_touch_61 : decode cX11_touch 61 = .ok (.aload_n 0, 1) := by decide +kernel
theorem dX11_touch_62 : decode cX11_touch 62 = .ok (.dup, 1) := by decide +kernel
theorem dX11_touch_63 : decode cX11_touch 63 = .ok (.getfield 223, 3) := by decide +kernel
theorem dX11_touch_66 : decode cX11_touch 66 = .ok (.iconst 1, 1) := by decide +kernel
theorem dX11_touch_67 : decode cX11_touch 67 = .ok (.iadd, 1) := by decide +kernel
theorem dX11_touch_68 : decode cX11_touch 68 = .ok (.putfield 223, 3) := by decide +kernel
theorem dX11_touch_71 : decode cX11_touch 71 = .ok (.iconst 1, 1) := by decide +kernel
theorem dX11_touch_72 : decode cX11_touch 72 = .ok (.ireturn, 1) := by decide +kernel
theorem dX11_isStruck_0 : decode cX11_isStruck 0 = .ok (.iconst 0, 1) := by decide +kernel
theorem dX11_isStruck_1 : decode cX11_isStruck 1 = .ok (.istore_n 3, 1) := by decide +kernel
theorem dX11_isStruck_2 : decode cX11_isStruck 2 = .ok (.iconst 0, 1) := by decide +kernel
theorem dX11_isStruck_3 : decode cX11_isStruck 3 = .ok (.istore 4, 2) := by decide +kernel
theorem dX11_isStruck_5 : decode cX11_isStruck 5 = .ok (.iload 4, 2) := by decide +kernel
theorem dX11_isStruck_7 : decode cX11_isStruck 7 = .ok (.iload_n 2, 1) := by decide +kernel
theorem dX11_isStruck_8 : decode cX11_isStruck 8 = .ok (.if_icmp .ge 33, 3) := by decide +kernel
theorem dX11_isStruck_11 : decode cX11_isStruck 11 = .ok (.iload_n 3, 1) := by decide +kernel
theorem dX11_isStruck_12 : decode cX11_isStruck 12 = .ok (.ifCond .ne 17, 3) := by decide +kernel
theorem dX11_isStruck_15 : decode cX11_isStruck 15 = .ok (.aload_n 0, 1) := by decide +kernel
theorem dX11_isStruck_16 : decode cX11_isStruck 16 = .ok (.getfield 94, 3) := by decide +kernel
theorem dX11_isStruck_19 : decode cX11_isStruck 19 = .ok (.iload 4, 2) := by decide +kernel
theorem dX11_isStruck_21 : decode cX11_isStruck 21 = .ok (.iaload, 1) := by decide +kernel
theorem dX11_isStruck_22 : decode cX11_isStruck 22 = .ok (.bipush 10, 2) := by decide +kernel
theorem dX11_isStruck_24 : decode cX11_isStruck 24 = .ok (.iload_n 1, 1) := by decide +kernel
theorem dX11_isStruck_25 : decode cX11_isStruck 25 = .ok (.iadd, 1) := by decide +kernel
theorem dX11_isStruck_26 : decode cX11_isStruck 26 = .ok (.if_icmp .ne 7, 3) := by decide +kernel
theorem dX11_isStruck_29 : decode cX11_isStruck 29 = .ok (.iconst 1, 1) := by decide +kernel
theorem dX11_isStruck_30 : decode cX11_isStruck 30 = .ok (.goto 4, 3) := by decide +kernel
theorem dX11_isStruck_33 : decode cX11_isStruck 33 = .ok (.iconst 0, 1) := by decide +kernel
theorem dX11_isStruck_34 : decode cX11_isStruck 34 = .ok (.istore_n 3, 1) := by decide +kernel
theorem dX11_isStruck_35 : decode cX11_isStruck 35 = .ok (.iinc 4 1, 3) := by decide +kernel
theorem dX11_isStruck_38 : decode cX11_isStruck 38 = .ok (.goto (-33), 3) := by decide +kernel
theorem dX11_isStruck_41 : decode cX11_isStruck 41 = .ok (.iload_n 3, 1) := by decide +kernel
theorem dX11_isStruck_42 : decode cX11_isStruck 42 = .ok (.ireturn, 1) := by decide +kernel
theorem dX11_hasCome_0 : decode cX11_hasCome 0 = .ok (.aload_n 0, 1) := by decide +kernel
theorem dX11_hasCome_1 : decode cX11_hasCome 1 = .ok (.getfield 113, 3) := by decide +kernel
theorem dX11_hasCome_4 : decode cX11_hasCome 4 = .ok (.ifCond .eq 69, 3) := by decide +kernel
theorem dX11_hasCome_7 : decode cX11_hasCome 7 = .ok (.iload_n 1, 1) := by decide +kernel
theorem dX11_hasCome_8 : decode cX11_hasCome 8 = .ok (.iconst 0, 1) := by decide +kernel
theorem dX11_hasCome_9 : decode cX11_hasCome 9 = .ok (.aload_n 0, 1) := by decide +kernel
theorem dX11_hasCome_10 : decode cX11_hasCome 10 = .ok (.getfield 212, 3) := by decide +kernel
theorem dX11_hasCome_13 : decode cX11_hasCome 13 = .ok (.iconst 1, 1) := by decide +kernel
theorem dX11_hasCome_14 : decode cX11_hasCome 14 = .ok (.isub, 1) := by decide +kernel
theorem dX11_hasCome_15 : decode cX11_hasCome 15 = .ok (.invokestatic 109, 3) := by decide +kernel
theorem dX11_hasCome_18 : decode cX11_hasCome 18 = .ok (.ifCond .eq 55, 3) := by decide +kernel
theorem dX11_hasCome_21 : decode cX11_hasCome 21 = .ok (.aload_n 0, 1) := by decide +kernel
theorem dX11_hasCome_22 : decode cX11_hasCome 22 = .ok (.getfield 69, 3) := by decide +kernel
theorem dX11_hasCome_25 : decode cX11_hasCome 25 = .ok (.iload_n 1, 1) := by decide +kernel
theorem dX11_hasCome_26 : decode cX11_hasCome 26 = .ok (.iaload, 1) := by decide +kernel
theorem dX11_hasCome_27 : decode cX11_hasCome 27 = .ok (.iconst 1, 1) := by decide +kernel
theorem dX11_hasCome_28 : decode cX11_hasCome 28 = .ok (.if_icmp .eq 13, 3) := by decide +kernel
theorem dX11_hasCome_31 : decode cX11_hasCome 31 = .ok (.aload_n 0, 1) := by decide +kernel
theorem dX11_hasCome_32 : decode cX11_hasCome 32 = .ok (.getfield 69, 3) := by decide +kernel
theorem dX11_hasCome_35 : decode cX11_hasCome 35 = .ok (.iload_n 1, 1) := by decide +kernel
theorem dX11_hasCome_36 : decode cX11_hasCome 36 = .ok (.iaload, 1) := by decide +kernel
theorem dX11_hasCome_37 : decode cX11_hasCome 37 = .ok (.iconst 2, 1) := by decide +kernel
theorem dX11_hasCome_38 : decode cX11_hasCome 38 = .ok (.if_icmp .ne 35, 3) := by decide +kernel
theorem dX11_hasCome_41 : decode cX11_hasCome 41 = .ok (.iload_n 2, 1) := by decide +kernel
theorem dX11_hasCome_42 : decode cX11_hasCome 42 = .ok (.iconst 0, 1) := by decide +kernel
theorem dX11_hasCome_43 : decode cX11_hasCome 43 = .ok (.aload_n 0, 1) := by decide +kernel
theorem dX11_hasCome_44 : decode cX11_hasCome 44 = .ok (.getfield 139, 3) := by decide +kernel
theorem dX11_hasCome_47 : decode cX11_hasCome 47 = .ok (.iconst 1, 1) := by decide +kernel
theorem dX11_hasCome_48 : decode cX11_hasCome 48 = .ok (.isub, 1) := by decide +kernel
theorem dX11_hasCome_49 : decode cX11_hasCome 49 = .ok (.invokestatic 109, 3) := by decide +kernel
theorem dX11_hasCome_52 : decode cX11_hasCome 52 = .ok (.ifCond .eq 21, 3) := by decide +kernel
theorem dX11_hasCome_55 : decode cX11_hasCome 55 = .ok (.aload_n 0, 1) := by decide +kernel
theorem dX11_hasCome_56 : decode cX11_hasCome 56 = .ok (.getfield 79, 3) := by decide +kernel
theorem dX11_hasCome_59 : decode cX11_hasCome 59 = .ok (.bipush 16, 2) := by decide +kernel
theorem dX11_hasCome_61 : decode cX11_hasCome 61 = .ok (.iload_n 1, 1) := by decide +kernel
theorem dX11_hasCome_62 : decode cX11_hasCome 62 = .ok (.imul, 1) := by decide +kernel
theorem dX11_hasCome_63 : decode cX11_hasCome 63 = .ok (.iload_n 2, 1) := by decide +kernel
theorem dX11_hasCome_64 : decode cX11_hasCome 64 = .ok (.iadd, 1) := by decide +kernel
theorem dX11_hasCome_65 : decode cX11_hasCome 65 = .ok (.baload, 1) := by decide +kernel
theorem dX11_hasCome_66 : decode cX11_hasCome 66 = .ok (.ifCond .eq 7, 3) := by decide +kernel
theorem dX11_hasCome_69 : decode cX11_hasCome 69 = .ok (.iconst 1, 1) := by decide +kernel
theorem dX11_hasCome_70 : decode cX11_hasCome 70 = .ok (.goto 4, 3) := by decide +kernel
theorem dX11_hasCome_73 : decode cX11_hasCome 73 = .ok (.iconst 0, 1) := by decide +kernel
theorem dX11_hasCome_74 : decode cX11_hasCome 74 = .ok (.ireturn, 1) := by decide +kernel
theorem dX11_time_0 : decode cX11_time 0 = .ok (.aload_n 0, 1) := by decide +kernel
theorem dX11_time_1 : decode cX11_time 1 = .ok (.iconst 0, 1) := by decide +kernel
theorem dX11_time_2 : decode cX11_time 2 = .ok (.putfield 106, 3) := by decide +kernel
theorem dX11_time_5 : decode cX11_time 5 = .ok (.aload_n 0, 1) := by decide +kernel
theorem dX11_time_6 : decode cX11_time 6 = .ok (.iload_n 1, 1) := by decide +kernel
theorem dX11_time_7 : decode cX11_time 7 = .ok (.iload_n 2, 1) := by decide +kernel
theorem dX11_time_8 : decode cX11_time 8 = .ok (.invokevirtual 253, 3) := by decide +kernel
theorem dX11_time_11 : decode cX11_time 11 = .ok (.ifCond .eq 17, 3) := by decide +kernel
theorem dX11_time_14 : decode cX11_time 14 = .ok (.iload_n 3, 1) := by decide +kernel
theorem dX11_time_15 : decode cX11_time 15 = .ok (.iconst 0, 1) := by decide +kernel
theorem dX11_time_16 : decode cX11_time 16 = .ok (.aload_n 0, 1) := by decide +kernel
theorem dX11_time_17 : decode cX11_time 17 = .ok (.getfield 120, 3) := by decide +kernel
theorem dX11_time_20 : decode cX11_time 20 = .ok (.iconst 1, 1) := by decide +kernel
theorem dX11_time_21 : decode cX11_time 21 = .ok (.isub, 1) := by decide +kernel
theorem dX11_time_22 : decode cX11_time 22 = .ok (.invokestatic 109, 3) := by decide +kernel
theorem dX11_time_25 : decode cX11_time 25 = .ok (.ifCond .ne 5, 3) := by decide +kernel
theorem dX11_time_28 : decode cX11_time 28 = .ok (.iconst (-1), 1) := by decide +kernel
theorem dX11_time_29 : decode cX11_time 29 = .ok (.ireturn, 1) := by decide +kernel
theorem dX11_time_30 : decode cX11_time 30 = .ok (.aload_n 0, 1) := by decide +kernel
theorem dX11_time_31 : decode cX11_time 31 = .ok (.getfield 82, 3) := by decide +kernel
theorem dX11_time_34 : decode cX11_time 34 = .ok (.bipush 6, 2) := by decide +kernel
theorem dX11_time_36 : decode cX11_time 36 = .ok (.bipush 16, 2) := by decide +kernel
theorem dX11_time_38 : decode cX11_time 38 = .ok (.iload_n 1, 1) := by decide +kernel
theorem dX11_time_39 : decode cX11_time 39 = .ok (.imul, 1) := by decide +kernel
theorem dX11_time_40 : decode cX11_time 40 = .ok (.iload_n 2, 1) := by decide +kernel
theorem dX11_time_41 : decode cX11_time 41 = .ok (.iadd, 1) := by decide +kernel
theorem dX11_time_42 : decode cX11_time 42 = .ok (.imul, 1) := by decide +kernel
theorem dX11_time_43 : decode cX11_time 43 = .ok (.iload_n 3, 1) := by decide +kernel
theorem dX11_time_44 : decode cX11_time 44 = .ok (.iadd, 1) := by decide +kernel
theorem dX11_time_45 : decode cX11_time 45 = .ok (.iaload, 1) := by decide +kernel
theorem dX11_time_46 : decode cX11_time 46 = .ok (.istore 4, 2) := by decide +kernel
theorem dX11_time_48 : decode cX11_time 48 = .ok (.iload 4, 2) := by decide +kernel
theorem dX11_time_50 : decode cX11_time 50 = .ok (.ldc 245, 2) := by decide +kernel
theorem dX11_time_52 : decode cX11_time 52 = .ok (.if_icmp .ne 7, 3) := by decide +kernel
theorem dX11_time_55 : decode cX11_time 55 = .ok (.iconst (-1), 1) := by decide +kernel
theorem dX11_time_56 : decode cX11_time 56 = .ok (.goto 5, 3) := by decide +kernel
theorem dX11_time_59 : decode cX11_time 59 = .ok (.iload 4, 2) := by decide +kernel
theorem dX11_time_61 : decode cX11_time 61 = .ok (.ireturn, 1) := by decide +kernel
theorem dX11_twice_0 : decode cX11_twice 0 = .ok (.aload_n 0, 1) := by decide +kernel
theorem dX11_twice_1 : decode cX11_twice 1 = .ok (.iconst 0, 1) := by decide +kernel
theorem dX11_twice_2 : decode cX11_twice 2 = .ok (.putfield 106, 3) := by decide +kernel
theorem dX11_twice_5 : decode cX11_twice 5 = .ok (.aload_n 0, 1) := by decide +kernel
theorem dX11_twice_6 : decode cX11_twice 6 = .ok (.iload_n 1, 1) := by decide +kernel
theorem dX11_twice_7 : decode cX11_twice 7 = .ok (.iload_n 2, 1) := by decide +kernel
theorem dX11_twice_8 : decode cX11_twice 8 = .ok (.invokevirtual 253, 3) := by decide +kernel
theorem dX11_twice_11 : decode cX11_twice 11 = .ok (.ifCond .eq 36, 3) := by decide +kernel
theorem dX11_twice_14 : decode cX11_twice 14 = .ok (.iload_n 3, 1) := by decide +kernel
theorem dX11_twice_15 : decode cX11_twice 15 = .ok (.iconst 0, 1) := by decide +kernel
theorem dX11_twice_16 : decode cX11_twice 16 = .ok (.aload_n 0, 1) := by decide +kernel
theorem dX11_twice_17 : decode cX11_twice 17 = .ok (.getfield 120, 3) := by decide +kernel
theorem dX11_twice_20 : decode cX11_twice 20 = .ok (.iconst 1, 1) := by decide +kernel
theorem dX11_twice_21 : decode cX11_twice 21 = .ok (.isub, 1) := by decide +kernel
theorem dX11_twice_22 : decode cX11_twice 22 = .ok (.invokestatic 109, 3) := by decide +kernel
theorem dX11_twice_25 : decode cX11_twice 25 = .ok (.ifCond .eq 22, 3) := by decide +kernel
theorem dX11_twice_28 : decode cX11_twice 28 = .ok (.aload_n 0, 1) := by decide +kernel
theorem dX11_twice_29 : decode cX11_twice 29 = .ok (.getfield 85, 3) := by decide +kernel
theorem dX11_twice_32 : decode cX11_twice 32 = .ok (.bipush 6, 2) := by decide +kernel
theorem dX11_twice_34 : decode cX11_twice 34 = .ok (.bipush 16, 2) := by decide +kernel
theorem dX11_twice_36 : decode cX11_twice 36 = .ok (.iload_n 1, 1) := by decide +kernel
theorem dX11_twice_37 : decode cX11_twice 37 = .ok (.imul, 1) := by decide +kernel
theorem dX11_twice_38 : decode cX11_twice 38 = .ok (.iload_n 2, 1) := by decide +kernel
theorem dX11_twice_39 : decode cX11_twice 39 = .ok (.iadd, 1) := by decide +kernel
theorem dX11_twice_40 : decode cX11_twice 40 = .ok (.imul, 1) := by decide +kernel
theorem dX11_twice_41 : decode cX11_twice 41 = .ok (.iload_n 3, 1) := by decide +kernel
theorem dX11_twice_42 : decode cX11_twice 42 = .ok (.iadd, 1) := by decide +kernel
theorem dX11_twice_43 : decode cX11_twice 43 = .ok (.iaload, 1) := by decide +kernel
theorem dX11_twice_44 : decode cX11_twice 44 = .ok (.goto 4, 3) := by decide +kernel
theorem dX11_twice_47 : decode cX11_twice 47 = .ok (.iconst (-1), 1) := by decide +kernel
theorem dX11_twice_48 : decode cX11_twice 48 = .ok (.ireturn, 1) := by decide +kernel
theorem dX11_sumOf_0 : decode cX11_sumOf 0 = .ok (.aload_n 0, 1) := by decide +kernel
theorem dX11_sumOf_1 : decode cX11_sumOf 1 = .ok (.iload_n 1, 1) := by decide +kernel
theorem dX11_sumOf_2 : decode cX11_sumOf 2 = .ok (.invokevirtual 246, 3) := by decide +kernel
theorem dX11_sumOf_5 : decode cX11_sumOf 5 = .ok (.ifCond .eq 12, 3) := by decide +kernel
theorem dX11_sumOf_8 : decode cX11_sumOf 8 = .ok (.aload_n 0, 1) := by decide +kernel
theorem dX11_sumOf_9 : decode cX11_sumOf 9 = .ok (.iload_n 1, 1) := by decide +kernel
theorem dX11_sumOf_10 : decode cX11_sumOf 10 = .ok (.iload_n 2, 1) := by decide +kernel
theorem dX11_sumOf_11 : decode cX11_sumOf 11 = .ok (.invokevirtual 249, 3) := by decide +kernel
theorem dX11_sumOf_14 : decode cX11_sumOf 14 = .ok (.ifCond .eq 5, 3) := by decide +kernel
theorem dX11_sumOf_17 : decode cX11_sumOf 17 = .ok (.iconst (-1), 1) := by decide +kernel
theorem dX11_sumOf_18 : decode cX11_sumOf 18 = .ok (.ireturn, 1) := by decide +kernel
theorem dX11_sumOf_19 : decode cX11_sumOf 19 = .ok (.iconst 0, 1) := by decide +kernel
theorem dX11_sumOf_20 : decode cX11_sumOf 20 = .ok (.istore_n 3, 1) := by decide +kernel
theorem dX11_sumOf_21 : decode cX11_sumOf 21 = .ok (.iconst 0, 1) := by decide +kernel
theorem dX11_sumOf_22 : decode cX11_sumOf 22 = .ok (.istore 4, 2) := by decide +kernel
theorem dX11_sumOf_24 : decode cX11_sumOf 24 = .ok (.iconst 0, 1) := by decide +kernel
theorem dX11_sumOf_25 : decode cX11_sumOf 25 = .ok (.istore 5, 2) := by decide +kernel
theorem dX11_sumOf_27 : decode cX11_sumOf 27 = .ok (.iload 5, 2) := by decide +kernel
theorem dX11_sumOf_29 : decode cX11_sumOf 29 = .ok (.iload_n 2, 1) := by decide +kernel
theorem dX11_sumOf_30 : decode cX11_sumOf 30 = .ok (.if_icmp .ge 65, 3) := by decide +kernel
theorem dX11_sumOf_33 : decode cX11_sumOf 33 = .ok (.aload_n 0, 1) := by decide +kernel
theorem dX11_sumOf_34 : decode cX11_sumOf 34 = .ok (.getfield 94, 3) := by decide +kernel
theorem dX11_sumOf_37 : decode cX11_sumOf 37 = .ok (.iload 5, 2) := by decide +kernel
theorem dX11_sumOf_39 : decode cX11_sumOf 39 = .ok (.iaload, 1) := by decide +kernel
theorem dX11_sumOf_40 : decode cX11_sumOf 40 = .ok (.istore 6, 2) := by decide +kernel
theorem dX11_sumOf_42 : decode cX11_sumOf 42 = .ok (.iload 6, 2) := by decide +kernel
theorem dX11_sumOf_44 : decode cX11_sumOf 44 = .ok (.bipush 10, 2) := by decide +kernel
theorem dX11_sumOf_46 : decode cX11_sumOf 46 = .ok (.if_icmp .lt 6, 3) := by decide +kernel
theorem dX11_sumOf_49 : decode cX11_sumOf 49 = .ok (.goto 40, 3) := by decide +kernel
theorem dX11_sumOf_52 : decode cX11_sumOf 52 = .ok (.aload_n 0, 1) := by decide +kernel
theorem dX11_sumOf_53 : decode cX11_sumOf 53 = .ok (.getfield 79, 3) := by decide +kernel
theorem dX11_sumOf_56 : decode cX11_sumOf 56 = .ok (.bipush 16, 2) := by decide +kernel
theorem dX11_sumOf_58 : decode cX11_sumOf 58 = .ok (.iload 6, 2) := by decide +kernel
theorem dX11_sumOf_60 : decode cX11_sumOf 60 = .ok (.imul, 1) := by decide +kernel
theorem dX11_sumOf_61 : decode cX11_sumOf 61 = .ok (.iload_n 1, 1) := by decide +kernel
theorem dX11_sumOf_62 : decode cX11_sumOf 62 = .ok (.iadd, 1) := by decide +kernel
theorem dX11_sumOf_63 : decode cX11_sumOf 63 = .ok (.baload, 1) := by decide +kernel
theorem dX11_sumOf_64 : decode cX11_sumOf 64 = .ok (.ifCond .ne 5, 3) := by decide +kernel
theorem dX11_sumOf_67 : decode cX11_sumOf 67 = .ok (.iconst (-1), 1) := by decide +kernel
theorem dX11_sumOf_68 : decode cX11_sumOf 68 = .ok (.ireturn, 1) := by decide +kernel
theorem dX11_sumOf_69 : decode cX11_sumOf 69 = .ok (.iinc 3 1, 3) := by decide +kernel
theorem dX11_sumOf_72 : decode cX11_sumOf 72 = .ok (.iload 4, 2) := by decide +kernel
theorem dX11_sumOf_74 : decode cX11_sumOf 74 = .ok (.aload_n 0, 1) := by decide +kernel
theorem dX11_sumOf_75 : decode cX11_sumOf 75 = .ok (.getfield 88, 3) := by decide +kernel
theorem dX11_sumOf_78 : decode cX11_sumOf 78 = .ok (.bipush 16, 2) := by decide +kernel
theorem dX11_sumOf_80 : decode cX11_sumOf 80 = .ok (.iload 6, 2) := by decide +kernel
theorem dX11_sumOf_82 : decode cX11_sumOf 82 = .ok (.imul, 1) := by decide +kernel
theorem dX11_sumOf_83 : decode cX11_sumOf 83 = .ok (.iload_n 1, 1) := by decide +kernel
theorem dX11_sumOf_84 : decode cX11_sumOf 84 = .ok (.iadd, 1) := by decide +kernel
theorem dX11_sumOf_85 : decode cX11_sumOf 85 = .ok (.iaload, 1) := by decide +kernel
theorem dX11_sumOf_86 : decode cX11_sumOf 86 = .ok (.iadd, 1) := by decide +kernel
theorem dX11_sumOf_87 : decode cX11_sumOf 87 = .ok (.istore 4, 2) := by decide +kernel
theorem dX11_sumOf_89 : decode cX11_sumOf 89 = .ok (.iinc 5 1, 3) := by decide +kernel
theorem dX11_sumOf_92 : decode cX11_sumOf 92 = .ok (.goto (-65), 3) := by decide +kernel
theorem dX11_sumOf_95 : decode cX11_sumOf 95 = .ok (.iload_n 3, 1) := by decide +kernel
theorem dX11_sumOf_96 : decode cX11_sumOf 96 = .ok (.ifCond .ne 7, 3) := by decide +kernel
theorem dX11_sumOf_99 : decode cX11_sumOf 99 = .ok (.iconst (-1), 1) := by decide +kernel
theorem dX11_sumOf_100 : decode cX11_sumOf 100 = .ok (.goto 5, 3) := by decide +kernel
theorem dX11_sumOf_103 : decode cX11_sumOf 103 = .ok (.iload 4, 2) := by decide +kernel
theorem dX11_sumOf_105 : decode cX11_sumOf 105 = .ok (.ireturn, 1) := by decide +kernel
theorem dX11_isRanked_0 : decode cX11_isRanked 0 = .ok (.aload_n 0, 1) := by decide +kernel
theorem dX11_isRanked_1 : decode cX11_isRanked 1 = .ok (.iload_n 1, 1) := by decide +kernel
theorem dX11_isRanked_2 : decode cX11_isRanked 2 = .ok (.invokevirtual 246, 3) := by decide +kernel
theorem dX11_isRanked_5 : decode cX11_isRanked 5 = .ok (.ifCond .eq 12, 3) := by decide +kernel
theorem dX11_isRanked_8 : decode cX11_isRanked 8 = .ok (.aload_n 0, 1) := by decide +kernel
theorem dX11_isRanked_9 : decode cX11_isRanked 9 = .ok (.iload_n 1, 1) := by decide +kernel
theorem dX11_isRanked_10 : decode cX11_isRanked 10 = .ok (.iload_n 2, 1) := by decide +kernel
theorem dX11_isRanked_11 : decode cX11_isRanked 11 = .ok (.invokevirtual 249, 3) := by decide +kernel
theorem dX11_isRanked_14 : decode cX11_isRanked 14 = .ok (.ifCond .eq 5, 3) := by decide +kernel
theorem dX11_isRanked_17 : decode cX11_isRanked 17 = .ok (.iconst 0, 1) := by decide +kernel
theorem dX11_isRanked_18 : decode cX11_isRanked 18 = .ok (.ireturn, 1) := by decide +kernel
theorem dX11_isRanked_19 : decode cX11_isRanked 19 = .ok (.iconst 0, 1) := by decide +kernel
theorem dX11_isRanked_20 : decode cX11_isRanked 20 = .ok (.istore_n 3, 1) := by decide +kernel
theorem dX11_isRanked_21 : decode cX11_isRanked 21 = .ok (.iconst 0, 1) := by decide +kernel
theorem dX11_isRanked_22 : decode cX11_isRanked 22 = .ok (.istore 4, 2) := by decide +kernel
theorem dX11_isRanked_24 : decode cX11_isRanked 24 = .ok (.iload 4, 2) := by decide +kernel
theorem dX11_isRanked_26 : decode cX11_isRanked 26 = .ok (.iload_n 2, 1) := by decide +kernel
theorem dX11_isRanked_27 : decode cX11_isRanked 27 = .ok (.if_icmp .ge 49, 3) := by decide +kernel
theorem dX11_isRanked_30 : decode cX11_isRanked 30 = .ok (.aload_n 0, 1) := by decide +kernel
theorem dX11_isRanked_31 : decode cX11_isRanked 31 = .ok (.getfield 94, 3) := by decide +kernel
theorem dX11_isRanked_34 : decode cX11_isRanked 34 = .ok (.iload 4, 2) := by decide +kernel
theorem dX11_isRanked_36 : decode cX11_isRanked 36 = .ok (.iaload, 1) := by decide +kernel
theorem dX11_isRanked_37 : decode cX11_isRanked 37 = .ok (.bipush 10, 2) := by decide +kernel
theorem dX11_isRanked_39 : decode cX11_isRanked 39 = .ok (.if_icmp .lt 6, 3) := by decide +kernel
theorem dX11_isRanked_42 : decode cX11_isRanked 42 = .ok (.goto 28, 3) := by decide +kernel
theorem dX11_isRanked_45 : decode cX11_isRanked 45 = .ok (.aload_n 0, 1) := by decide +kernel
theorem dX11_isRanked_46 : decode cX11_isRanked 46 = .ok (.getfield 79, 3) := by decide +kernel
theorem dX11_isRanked_49 : decode cX11_isRanked 49 = .ok (.bipush 16, 2) := by decide +kernel
theorem dX11_isRanked_51 : decode cX11_isRanked 51 = .ok (.aload_n 0, 1) := by decide +kernel
theorem dX11_isRanked_52 : decode cX11_isRanked 52 = .ok (.getfield 94, 3) := by decide +kernel
theorem dX11_isRanked_55 : decode cX11_isRanked 55 = .ok (.iload 4, 2) := by decide +kernel
theorem dX11_isRanked_57 : decode cX11_isRanked 57 = .ok (.iaload, 1) := by decide +kernel
theorem dX11_isRanked_58 : decode cX11_isRanked 58 = .ok (.imul, 1) := by decide +kernel
theorem dX11_isRanked_59 : decode cX11_isRanked 59 = .ok (.iload_n 1, 1) := by decide +kernel
theorem dX11_isRanked_60 : decode cX11_isRanked 60 = .ok (.iadd, 1) := by decide +kernel
theorem dX11_isRanked_61 : decode cX11_isRanked 61 = .ok (.baload, 1) := by decide +kernel
theorem dX11_isRanked_62 : decode cX11_isRanked 62 = .ok (.ifCond .ne 5, 3) := by decide +kernel
theorem dX11_isRanked_65 : decode cX11_isRanked 65 = .ok (.iconst 0, 1) := by decide +kernel
theorem dX11_isRanked_66 : decode cX11_isRanked 66 = .ok (.ireturn, 1) := by decide +kernel
theorem dX11_isRanked_67 : decode cX11_isRanked 67 = .ok (.iinc 3 1, 3) := by decide +kernel
theorem dX11_isRanked_70 : decode cX11_isRanked 70 = .ok (.iinc 4 1, 3) := by decide +kernel
theorem dX11_isRanked_73 : decode cX11_isRanked 73 = .ok (.goto (-49), 3) := by decide +kernel
theorem dX11_isRanked_76 : decode cX11_isRanked 76 = .ok (.iload_n 3, 1) := by decide +kernel
theorem dX11_isRanked_77 : decode cX11_isRanked 77 = .ok (.ifCond .le 7, 3) := by decide +kernel
theorem dX11_isRanked_80 : decode cX11_isRanked 80 = .ok (.iconst 1, 1) := by decide +kernel
theorem dX11_isRanked_81 : decode cX11_isRanked 81 = .ok (.goto 4, 3) := by decide +kernel
theorem dX11_isRanked_84 : decode cX11_isRanked 84 = .ok (.iconst 0, 1) := by decide +kernel
theorem dX11_isRanked_85 : decode cX11_isRanked 85 = .ok (.ireturn, 1) := by decide +kernel
theorem dX11_rankOf_0 : decode cX11_rankOf 0 = .ok (.aload_n 0, 1) := by decide +kernel
theorem dX11_rankOf_1 : decode cX11_rankOf 1 = .ok (.iload_n 1, 1) := by decide +kernel
theorem dX11_rankOf_2 : decode cX11_rankOf 2 = .ok (.iload_n 2, 1) := by decide +kernel
theorem dX11_rankOf_3 : decode cX11_rankOf 3 = .ok (.invokevirtual 256, 3) := by decide +kernel
theorem dX11_rankOf_6 : decode cX11_rankOf 6 = .ok (.ifCond .ne 5, 3) := by decide +kernel
theorem dX11_rankOf_9 : decode cX11_rankOf 9 = .ok (.iconst (-1), 1) := by decide +kernel
theorem dX11_rankOf_10 : decode cX11_rankOf 10 = .ok (.ireturn, 1) := by decide +kernel
theorem dX11_rankOf_11 : decode cX11_rankOf 11 = .ok (.iconst 1, 1) := by decide +kernel
theorem dX11_rankOf_12 : decode cX11_rankOf 12 = .ok (.istore_n 3, 1) := by decide +kernel
theorem dX11_rankOf_13 : decode cX11_rankOf 13 = .ok (.iconst 0, 1) := by decide +kernel
theorem dX11_rankOf_14 : decode cX11_rankOf 14 = .ok (.istore 4, 2) := by decide +kernel
theorem dX11_rankOf_16 : decode cX11_rankOf 16 = .ok (.iload 4, 2) := by decide +kernel
theorem dX11_rankOf_18 : decode cX11_rankOf 18 = .ok (.aload_n 0, 1) := by decide +kernel
theorem dX11_rankOf_19 : decode cX11_rankOf 19 = .ok (.getfield 139, 3) := by decide +kernel
theorem dX11_rankOf_22 : decode cX11_rankOf 22 = .ok (.if_icmp .ge 43, 3) := by decide +kernel
theorem dX11_rankOf_25 : decode cX11_rankOf 25 = .ok (.iload_n 3, 1) := by decide +kernel
theorem dX11_rankOf_26 : decode cX11_rankOf 26 = .ok (.aload_n 0, 1) := by decide +kernel
theorem dX11_rankOf_27 : decode cX11_rankOf 27 = .ok (.iload 4, 2) := by decide +kernel
theorem dX11_rankOf_29 : decode cX11_rankOf 29 = .ok (.iload_n 2, 1) := by decide +kernel
theorem dX11_rankOf_30 : decode cX11_rankOf 30 = .ok (.invokevirtual 256, 3) := by decide +kernel
theorem dX11_rankOf_33 : decode cX11_rankOf 33 = .ok (.ifCond .eq 23, 3) := by decide +kernel
theorem dX11_rankOf_36 : decode cX11_rankOf 36 = .ok (.aload_n 0, 1) := by decide +kernel
theorem dX11_rankOf_37 : decode cX11_rankOf 37 = .ok (.iload 4, 2) := by decide +kernel
theorem dX11_rankOf_39 : decode cX11_rankOf 39 = .ok (.iload_n 2, 1) := by decide +kernel
theorem dX11_rankOf_40 : decode cX11_rankOf 40 = .ok (.invokevirtual 259, 3) := by decide +kernel
theorem dX11_rankOf_43 : decode cX11_rankOf 43 = .ok (.aload_n 0, 1) := by decide +kernel
theorem dX11_rankOf_44 : decode cX11_rankOf 44 = .ok (.iload_n 1, 1) := by decide +kernel
theorem dX11_rankOf_45 : decode cX11_rankOf 45 = .ok (.iload_n 2, 1) := by decide +kernel
theorem dX11_rankOf_46 : decode cX11_rankOf 46 = .ok (.invokevirtual 259, 3) := by decide +kernel
theorem dX11_rankOf_49 : decode cX11_rankOf 49 = .ok (.if_icmp .ge 7, 3) := by decide +kernel
theorem dX11_rankOf_52 : decode cX11_rankOf 52 = .ok (.iconst 1, 1) := by decide +kernel
theorem dX11_rankOf_53 : decode cX11_rankOf 53 = .ok (.goto 4, 3) := by decide +kernel
theorem dX11_rankOf_56 : decode cX11_rankOf 56 = .ok (.iconst 0, 1) := by decide +kernel
theorem dX11_rankOf_57 : decode cX11_rankOf 57 = .ok (.iadd, 1) := by decide +kernel
theorem dX11_rankOf_58 : decode cX11_rankOf 58 = .ok (.istore_n 3, 1) := by decide +kernel
theorem dX11_rankOf_59 : decode cX11_rankOf 59 = .ok (.iinc 4 1, 3) := by decide +kernel
theorem dX11_rankOf_62 : decode cX11_rankOf 62 = .ok (.goto (-46), 3) := by decide +kernel
theorem dX11_rankOf_65 : decode cX11_rankOf 65 = .ok (.iload_n 3, 1) := by decide +kernel
theorem dX11_rankOf_66 : decode cX11_rankOf 66 = .ok (.ireturn, 1) := by decide +kernel
theorem dX11_sum_0 : decode cX11_sum 0 = .ok (.aload_n 0, 1) := by decide +kernel
theorem dX11_sum_1 : decode cX11_sum 1 = .ok (.iconst 0, 1) := by decide +kernel
theorem dX11_sum_2 : decode cX11_sum 2 = .ok (.putfield 106, 3) := by decide +kernel
theorem dX11_sum_5 : decode cX11_sum 5 = .ok (.aload_n 0, 1) := by decide +kernel
theorem dX11_sum_6 : decode cX11_sum 6 = .ok (.getfield 113, 3) := by decide +kernel
theorem dX11_sum_9 : decode cX11_sum 9 = .ok (.ifCond .eq 33, 3) := by decide +kernel
theorem dX11_sum_12 : decode cX11_sum 12 = .ok (.iload_n 2, 1) := by decide +kernel
theorem dX11_sum_13 : decode cX11_sum 13 = .ok (.iconst 0, 1) := by decide +kernel
theorem dX11_sum_14 : decode cX11_sum 14 = .ok (.aload_n 0, 1) := by decide +kernel
theorem dX11_sum_15 : decode cX11_sum 15 = .ok (.getfield 223, 3) := by decide +kernel
theorem dX11_sum_18 : decode cX11_sum 18 = .ok (.invokestatic 109, 3) := by decide +kernel
theorem dX11_sum_21 : decode cX11_sum 21 = .ok (.ifCond .eq 21, 3) := by decide +kernel
theorem dX11_sum_24 : decode cX11_sum 24 = .ok (.aload_n 0, 1) := by decide +kernel
theorem dX11_sum_25 : decode cX11_sum 25 = .ok (.iload_n 1, 1) := by decide +kernel
theorem dX11_sum_26 : decode cX11_sum 26 = .ok (.iload_n 2, 1) := by decide +kernel
theorem dX11_sum_27 : decode cX11_sum 27 = .ok (.invokevirtual 256, 3) := by decide +kernel
theorem dX11_sum_30 : decode cX11_sum 30 = .ok (.ifCond .eq 12, 3) := by decide +kernel
theorem dX11_sum_33 : decode cX11_sum 33 = .ok (.aload_n 0, 1) := by decide +kernel
theorem dX11_sum_34 : decode cX11_sum 34 = .ok (.iload_n 1, 1) := by decide +kernel
theorem dX11_sum_35 : decode cX11_sum 35 = .ok (.iload_n 2, 1) := by decide +kernel
theorem dX11_sum_36 : decode cX11_sum 36 = .ok (.invokevirtual 259, 3) := by decide +kernel
theorem dX11_sum_39 : decode cX11_sum 39 = .ok (.goto 4, 3) := by decide +kernel
theorem dX11_sum_42 : decode cX11_sum 42 = .ok (.iconst (-1), 1) := by decide +kernel
theorem dX11_sum_43 : decode cX11_sum 43 = .ok (.ireturn, 1) := by decide +kernel
theorem dX11_rank_0 : decode cX11_rank 0 = .ok (.aload_n 0, 1) := by decide +kernel
theorem dX11_rank_1 : decode cX11_rank 1 = .ok (.iconst 0, 1) := by decide +kernel
theorem dX11_rank_2 : decode cX11_rank 2 = .ok (.putfield 106, 3) := by decide +kernel
theorem dX11_rank_5 : decode cX11_rank 5 = .ok (.aload_n 0, 1) := by decide +kernel
theorem dX11_rank_6 : decode cX11_rank 6 = .ok (.getfield 113, 3) := by decide +kernel
theorem dX11_rank_9 : decode cX11_rank 9 = .ok (.ifCond .eq 24, 3) := by decide +kernel
theorem dX11_rank_12 : decode cX11_rank 12 = .ok (.iload_n 2, 1) := by decide +kernel
theorem dX11_rank_13 : decode cX11_rank 13 = .ok (.iconst 0, 1) := by decide +kernel
theorem dX11_rank_14 : decode cX11_rank 14 = .ok (.aload_n 0, 1) := by decide +kernel
theorem dX11_rank_15 : decode cX11_rank 15 = .ok (.getfield 223, 3) := by decide +kernel
theorem dX11_rank_18 : decode cX11_rank 18 = .ok (.invokestatic 109, 3) := by decide +kernel
theorem dX11_rank_21 : decode cX11_rank 21 = .ok (.ifCond .eq 12, 3) := by decide +kernel
theorem dX11_rank_24 : decode cX11_rank 24 = .ok (.aload_n 0, 1) := by decide +kernel
theorem dX11_rank_25 : decode cX11_rank 25 = .ok (.iload_n 1, 1) := by decide +kernel
theorem dX11_rank_26 : decode cX11_rank 26 = .ok (.iload_n 2, 1) := by decide +kernel
theorem dX11_rank_27 : decode cX11_rank 27 = .ok (.invokevirtual 226, 3) := by decide +kernel
theorem dX11_rank_30 : decode cX11_rank 30 = .ok (.goto 4, 3) := by decide +kernel
theorem dX11_rank_33 : decode cX11_rank 33 = .ok (.iconst (-1), 1) := by decide +kernel
theorem dX11_rank_34 : decode cX11_rank 34 = .ok (.ireturn, 1) := by decide +kernel
theorem dX11_ice_0 : decode cX11_ice 0 = .ok (.aload_n 0, 1) := by decide +kernel
theorem dX11_ice_1 : decode cX11_ice 1 = .ok (.iload_n 1, 1) := by decide +kernel
theorem dX11_ice_2 : decode cX11_ice 2 = .ok (.iload_n 2, 1) := by decide +kernel
theorem dX11_ice_3 : decode cX11_ice 3 = .ok (.invokevirtual 253, 3) := by decide +kernel
theorem dX11_ice_6 : decode cX11_ice 6 = .ok (.ifCond .eq 17, 3) := by decide +kernel
theorem dX11_ice_9 : decode cX11_ice 9 = .ok (.aload_n 0, 1) := by decide +kernel
theorem dX11_ice_10 : decode cX11_ice 10 = .ok (.getfield 69, 3) := by decide +kernel
theorem dX11_ice_13 : decode cX11_ice 13 = .ok (.iload_n 1, 1) := by decide +kernel
theorem dX11_ice_14 : decode cX11_ice 14 = .ok (.iaload, 1) := by decide +kernel
theorem dX11_ice_15 : decode cX11_ice 15 = .ok (.iconst 2, 1) := by decide +kernel
theorem dX11_ice_16 : decode cX11_ice 16 = .ok (.if_icmp .ne 7, 3) := by decide +kernel
theorem dX11_ice_19 : decode cX11_ice 19 = .ok (.iconst 1, 1) := by decide +kernel
theorem dX11_ice_20 : decode cX11_ice 20 = .ok (.goto 4, 3) := by decide +kernel
theorem dX11_ice_23 : decode cX11_ice 23 = .ok (.iconst 0, 1) := by decide +kernel
theorem dX11_ice_24 : decode cX11_ice 24 = .ok (.istore_n 3, 1) := by decide +kernel
theorem dX11_ice_25 : decode cX11_ice 25 = .ok (.aload_n 0, 1) := by decide +kernel
theorem dX11_ice_26 : decode cX11_ice 26 = .ok (.iload_n 3, 1) := by decide +kernel
theorem dX11_ice_27 : decode cX11_ice 27 = .ok (.ifCond .eq 7, 3) := by decide +kernel
theorem dX11_ice_30 : decode cX11_ice 30 = .ok (.iconst 0, 1) := by decide +kernel
theorem dX11_ice_31 : decode cX11_ice 31 = .ok (.goto 4, 3) := by decide +kernel
theorem dX11_ice_34 : decode cX11_ice 34 = .ok (.iconst 1, 1) := by decide +kernel
theorem dX11_ice_35 : decode cX11_ice 35 = .ok (.putfield 106, 3) := by decide +kernel
theorem dX11_ice_38 : decode cX11_ice 38 = .ok (.iload_n 3, 1) := by decide +kernel
theorem dX11_ice_39 : decode cX11_ice 39 = .ok (.ifCond .ne 5, 3) := by decide +kernel
theorem dX11_ice_42 : decode cX11_ice 42 = .ok (.iconst 0, 1) := by decide +kernel
theorem dX11_ice_43 : decode cX11_ice 43 = .ok (.ireturn, 1) := by decide +kernel
theorem dX11_ice_44 : decode cX11_ice 44 = .ok (.iconst 0, 1) := by decide +kernel
theorem dX11_ice_45 : decode cX11_ice 45 = .ok (.istore 4, 2) := by decide +kernel
theorem dX11_ice_47 : decode cX11_ice 47 = .ok (.iconst 0, 1) := by decide +kernel
theorem dX11_ice_48 : decode cX11_ice 48 = .ok (.istore 5, 2) := by decide +kernel
theorem dX11_ice_50 : decode cX11_ice 50 = .ok (.iload 5, 2) := by decide +kernel
theorem dX11_ice_52 : decode cX11_ice 52 = .ok (.bipush 16, 2) := by decide +kernel
theorem dX11_ice_54 : decode cX11_ice 54 = .ok (.if_icmp .ge 57, 3) := by decide +kernel
theorem dX11_ice_57 : decode cX11_ice 57 = .ok (.iload 4, 2) := by decide +kernel
theorem dX11_ice_59 : decode cX11_ice 59 = .ok (.aload_n 0, 1) := by decide +kernel
theorem dX11_ice_60 : decode cX11_ice 60 = .ok (.getfield 79, 3) := by decide +kernel
theorem dX11_ice_63 : decode cX11_ice 63 = .ok (.bipush 16, 2) := by decide +kernel
theorem dX11_ice_65 : decode cX11_ice 65 = .ok (.iload_n 1, 1) := by decide +kernel
theorem dX11_ice_66 : decode cX11_ice 66 = .ok (.imul, 1) := by decide +kernel
theorem dX11_ice_67 : decode cX11_ice 67 = .ok (.iload 5, 2) := by decide +kernel
theorem dX11_ice_69 : decode cX11_ice 69 = .ok (.iadd, 1) := by decide +kernel
theorem dX11_ice_70 : decode cX11_ice 70 = .ok (.baload, 1) := by decide +kernel
theorem dX11_ice_71 : decode cX11_ice 71 = .ok (.ifCond .eq 30, 3) := by decide +kernel
theorem dX11_ice_74 : decode cX11_ice 74 = .ok (.aload_n 0, 1) := by decide +kernel
theorem dX11_ice_75 : decode cX11_ice 75 = .ok (.getfield 91, 3) := by decide +kernel
theorem dX11_ice_78 : decode cX11_ice 78 = .ok (.bipush 16, 2) := by decide +kernel
theorem dX11_ice_80 : decode cX11_ice 80 = .ok (.iload_n 1, 1) := by decide +kernel
theorem dX11_ice_81 : decode cX11_ice 81 = .ok (.imul, 1) := by decide +kernel
theorem dX11_ice_82 : decode cX11_ice 82 = .ok (.iload_n 2, 1) := by decide +kernel
theorem dX11_ice_83 : decode cX11_ice 83 = .ok (.iadd, 1) := by decide +kernel
theorem dX11_ice_84 : decode cX11_ice 84 = .ok (.iaload, 1) := by decide +kernel
theorem dX11_ice_85 : decode cX11_ice 85 = .ok (.aload_n 0, 1) := by decide +kernel
theorem dX11_ice_86 : decode cX11_ice 86 = .ok (.getfield 91, 3) := by decide +kernel
theorem dX11_ice_89 : decode cX11_ice 89 = .ok (.bipush 16, 2) := by decide +kernel
theorem dX11_ice_91 : decode cX11_ice 91 = .ok (.iload_n 1, 1) := by decide +kernel
theorem dX11_ice_92 : decode cX11_ice 92 = .ok (.imul, 1) := by decide +kernel
theorem dX11_ice_93 : decode cX11_ice 93 = .ok (.iload 5, 2) := by decide +kernel
theorem dX11_ice_95 : decode cX11_ice 95 = .ok (.iadd, 1) := by decide +kernel
theorem dX11_ice_96 : decode cX11_ice 96 = .ok (.iaload, 1) := by decide +kernel
theorem dX11_ice_97 : decode cX11_ice 97 = .ok (.isub, 1) := by decide +kernel
theorem dX11_ice_98 : decode cX11_ice 98 = .ok (.goto 4, 3) := by decide +kernel
theorem dX11_ice_101 : decode cX11_ice 101 = .ok (.iconst 0, 1) := by decide +kernel
theorem dX11_ice_102 : decode cX11_ice 102 = .ok (.iadd, 1) := by decide +kernel
theorem dX11_ice_103 : decode cX11_ice 103 = .ok (.istore 4, 2) := by decide +kernel
theorem dX11_ice_105 : decode cX11_ice 105 = .ok (.iinc 5 1, 3) := by decide +kernel
theorem dX11_ice_108 : decode cX11_ice 108 = .ok (.goto (-58), 3) := by decide +kernel
theorem dX11_ice_111 : decode cX11_ice 111 = .ok (.iload 4, 2) := by decide +kernel
theorem dX11_ice_113 : decode cX11_ice 113 = .ok (.ireturn, 1) := by decide +kernel
theorem dX11_timeAt_0 : decode cX11_timeAt 0 = .ok (.aload_n 0, 1) := by decide +kernel
theorem dX11_timeAt_1 : decode cX11_timeAt 1 = .ok (.getfield 82, 3) := by decide +kernel
theorem dX11_timeAt_4 : decode cX11_timeAt 4 = .ok (.bipush 6, 2) := by decide +kernel
theorem dX11_timeAt_6 : decode cX11_timeAt 6 = .ok (.bipush 16, 2) := by decide +kernel
theorem dX11_timeAt_8 : decode cX11_timeAt 8 = .ok (.iload_n 1, 1) := by decide +kernel
theorem dX11_timeAt_9 : decode cX11_timeAt 9 = .ok (.imul, 1) := by decide +kernel
theorem dX11_timeAt_10 : decode cX11_timeAt 10 = .ok (.iload_n 2, 1) := by decide +kernel
theorem dX11_timeAt_11 : decode cX11_timeAt 11 = .ok (.iadd, 1) := by decide +kernel
theorem dX11_timeAt_12 : decode cX11_timeAt 12 = .ok (.imul, 1) := by decide +kernel
theorem dX11_timeAt_13 : decode cX11_timeAt 13 = .ok (.iload_n 3, 1) := by decide +kernel
theorem dX11_timeAt_14 : decode cX11_timeAt 14 = .ok (.iadd, 1) := by decide +kernel
theorem dX11_timeAt_15 : decode cX11_timeAt 15 = .ok (.iaload, 1) := by decide +kernel
theorem dX11_timeAt_16 : decode cX11_timeAt 16 = .ok (.ireturn, 1) := by decide +kernel
theorem dX11_lost_0 : decode cX11_lost 0 = .ok (.aload_n 0, 1) := by decide +kernel
theorem dX11_lost_1 : decode cX11_lost 1 = .ok (.iconst 0, 1) := by decide +kernel
theorem dX11_lost_2 : decode cX11_lost 2 = .ok (.putfield 106, 3) := by decide +kernel
theorem dX11_lost_5 : decode cX11_lost 5 = .ok (.aload_n 0, 1) := by decide +kernel
theorem dX11_lost_6 : decode cX11_lost 6 = .ok (.iload_n 1, 1) := by decide +kernel
theorem dX11_lost_7 : decode cX11_lost 7 = .ok (.iload_n 2, 1) := by decide +kernel
theorem dX11_lost_8 : decode cX11_lost 8 = .ok (.invokevirtual 253, 3) := by decide +kernel
theorem dX11_lost_11 : decode cX11_lost 11 = .ok (.ifCond .eq 27, 3) := by decide +kernel
theorem dX11_lost_14 : decode cX11_lost 14 = .ok (.aload_n 0, 1) := by decide +kernel
theorem dX11_lost_15 : decode cX11_lost 15 = .ok (.getfield 69, 3) := by decide +kernel
theorem dX11_lost_18 : decode cX11_lost 18 = .ok (.iload_n 1, 1) := by decide +kernel
theorem dX11_lost_19 : decode cX11_lost 19 = .ok (.iaload, 1) := by decide +kernel
theorem dX11_lost_20 : decode cX11_lost 20 = .ok (.iconst 2, 1) := by decide +kernel
theorem dX11_lost_21 : decode cX11_lost 21 = .ok (.if_icmp .ne 17, 3) := by decide +kernel
theorem dX11_lost_24 : decode cX11_lost 24 = .ok (.iload_n 3, 1) := by decide +kernel
theorem dX11_lost_25 : decode cX11_lost 25 = .ok (.iconst 0, 1) := by decide +kernel
theorem dX11_lost_26 : decode cX11_lost 26 = .ok (.aload_n 0, 1) := by decide +kernel
theorem dX11_lost_27 : decode cX11_lost 27 = .ok (.getfield 120, 3) := by decide +kernel
theorem dX11_lost_30 : decode cX11_lost 30 = .ok (.iconst 2, 1) := by decide +kernel
theorem dX11_lost_31 : decode cX11_lost 31 = .ok (.isub, 1) := by decide +kernel
theorem dX11_lost_32 : decode cX11_lost 32 = .ok (.invokestatic 109, 3) := by decide +kernel
theorem dX11_lost_35 : decode cX11_lost 35 = .ok (.ifCond .ne 5, 3) := by decide +kernel
theorem dX11_lost_38 : decode cX11_lost 38 = .ok (.iconst (-1), 1) := by decide +kernel
theorem dX11_lost_39 : decode cX11_lost 39 = .ok (.ireturn, 1) := by decide +kernel
theorem dX11_lost_40 : decode cX11_lost 40 = .ok (.iload_n 3, 1) := by decide +kernel
theorem dX11_lost_41 : decode cX11_lost 41 = .ok (.istore 4, 2) := by decide +kernel
theorem dX11_lost_43 : decode cX11_lost 43 = .ok (.aload_n 0, 1) := by decide +kernel
theorem dX11_lost_44 : decode cX11_lost 44 = .ok (.iload_n 1, 1) := by decide +kernel
theorem dX11_lost_45 : decode cX11_lost 45 = .ok (.iload_n 2, 1) := by decide +kernel
theorem dX11_lost_46 : decode cX11_lost 46 = .ok (.iload 4, 2) := by decide +kernel
theorem dX11_lost_48 : decode cX11_lost 48 = .ok (.invokevirtual 262, 3) := by decide +kernel
theorem dX11_lost_51 : decode cX11_lost 51 = .ok (.ldc 245, 2) := by decide +kernel
theorem dX11_lost_53 : decode cX11_lost 53 = .ok (.if_icmp .ne 9, 3) := by decide +kernel
theorem dX11_lost_56 : decode cX11_lost 56 = .ok (.iinc 4 (-1), 3) := by decide +kernel
theorem dX11_lost_59 : decode cX11_lost 59 = .ok (.goto (-16), 3) := by decide +kernel
theorem dX11_lost_62 : decode cX11_lost 62 = .ok (.iload_n 3, 1) := by decide +kernel
theorem dX11_lost_63 : decode cX11_lost 63 = .ok (.iconst 1, 1) := by decide +kernel
theorem dX11_lost_64 : decode cX11_lost 64 = .ok (.iadd, 1) := by decide +kernel
theorem dX11_lost_65 : decode cX11_lost 65 = .ok (.istore 5, 2) := by decide +kernel
theorem dX11_lost_67 : decode cX11_lost 67 = .ok (.iload 5, 2) := by decide +kernel
theorem dX11_lost_69 : decode cX11_lost 69 = .ok (.aload_n 0, 1) := by decide +kernel
theorem dX11_lost_70 : decode cX11_lost 70 = .ok (.getfield 120, 3) := by decide +kernel
theorem dX11_lost_73 : decode cX11_lost 73 = .ok (.if_icmp .ge 22, 3) := by decide +kernel
theorem dX11_lost_76 : decode cX11_lost 76 = .ok (.aload_n 0, 1) := by decide +kernel
theorem dX11_lost_77 : decode cX11_lost 77 = .ok (.iload_n 1, 1) := by decide +kernel
theorem dX11_lost_78 : decode cX11_lost 78 = .ok (.iload_n 2, 1) := by decide +kernel
theorem dX11_lost_79 : decode cX11_lost 79 = .ok (.iload 5, 2) := by decide +kernel
theorem dX11_lost_81 : decode cX11_lost 81 = .ok (.invokevirtual 262, 3) := by decide +kernel
theorem dX11_lost_84 : decode cX11_lost 84 = .ok (.ldc 245, 2) := by decide +kernel
theorem dX11_lost_86 : decode cX11_lost 86 = .ok (.if_icmp .ne 9, 3) := by decide +kernel
theorem dX11_lost_89 : decode cX11_lost 89 = .ok (.iinc 5 1, 3) := by decide +kernel
theorem dX11_lost_92 : decode cX11_lost 92 = .ok (.goto (-25), 3) := by decide +kernel
theorem dX11_lost_95 : decode cX11_lost 95 = .ok (.iload 5, 2) := by decide +kernel
theorem dX11_lost_97 : decode cX11_lost 97 = .ok (.aload_n 0, 1) := by decide +kernel
theorem dX11_lost_98 : decode cX11_lost 98 = .ok (.getfield 120, 3) := by decide +kernel
theorem dX11_lost_101 : decode cX11_lost 101 = .ok (.if_icmp .ne 5, 3) := by decide +kernel
theorem dX11_lost_104 : decode cX11_lost 104 = .ok (.iconst (-1), 1) := by decide +kernel
theorem dX11_lost_105 : decode cX11_lost 105 = .ok (.ireturn, 1) := by decide +kernel
theorem dX11_lost_106 : decode cX11_lost 106 = .ok (.aload_n 0, 1) := by decide +kernel
theorem dX11_lost_107 : decode cX11_lost 107 = .ok (.iload_n 1, 1) := by decide +kernel
theorem dX11_lost_108 : decode cX11_lost 108 = .ok (.iload_n 2, 1) := by decide +kernel
theorem dX11_lost_109 : decode cX11_lost 109 = .ok (.iload 5, 2) := by decide +kernel
theorem dX11_lost_111 : decode cX11_lost 111 = .ok (.invokevirtual 262, 3) := by decide +kernel
theorem dX11_lost_114 : decode cX11_lost 114 = .ok (.aload_n 0, 1) := by decide +kernel
theorem dX11_lost_115 : decode cX11_lost 115 = .ok (.iload_n 1, 1) := by decide +kernel
theorem dX11_lost_116 : decode cX11_lost 116 = .ok (.iload_n 2, 1) := by decide +kernel
theorem dX11_lost_117 : decode cX11_lost 117 = .ok (.iload 4, 2) := by decide +kernel
theorem dX11_lost_119 : decode cX11_lost 119 = .ok (.invokevirtual 262, 3) := by decide +kernel
theorem dX11_lost_122 : decode cX11_lost 122 = .ok (.isub, 1) := by decide +kernel
theorem dX11_lost_123 : decode cX11_lost 123 = .ok (.istore 6, 2) := by decide +kernel
theorem dX11_lost_125 : decode cX11_lost 125 = .ok (.iload 6, 2) := by decide +kernel
theorem dX11_lost_127 : decode cX11_lost 127 = .ok (.istore 7, 2) := by decide +kernel
theorem dX11_lost_129 : decode cX11_lost 129 = .ok (.iconst 0, 1) := by decide +kernel
theorem dX11_lost_130 : decode cX11_lost 130 = .ok (.istore 8, 2) := by decide +kernel
theorem dX11_lost_132 : decode cX11_lost 132 = .ok (.iload 8, 2) := by decide +kernel
theorem dX11_lost_134 : decode cX11_lost 134 = .ok (.aload_n 0, 1) := by decide +kernel
theorem dX11_lost_135 : decode cX11_lost 135 = .ok (.getfield 139, 3) := by decide +kernel
theorem dX11_lost_138 : decode cX11_lost 138 = .ok (.if_icmp .ge 81, 3) := by decide +kernel
theorem dX11_lost_141 : decode cX11_lost 141 = .ok (.aload_n 0, 1) := by decide +kernel
theorem dX11_lost_142 : decode cX11_lost 142 = .ok (.getfield 79, 3) := by decide +kernel
theorem dX11_lost_145 : decode cX11_lost 145 = .ok (.bipush 16, 2) := by decide +kernel
theorem dX11_lost_147 : decode cX11_lost 147 = .ok (.iload_n 1, 1) := by decide +kernel
theorem dX11_lost_148 : decode cX11_lost 148 = .ok (.imul, 1) := by decide +kernel
theorem dX11_lost_149 : decode cX11_lost 149 = .ok (.iload 8, 2) := by decide +kernel
theorem dX11_lost_151 : decode cX11_lost 151 = .ok (.iadd, 1) := by decide +kernel
theorem dX11_lost_152 : decode cX11_lost 152 = .ok (.baload, 1) := by decide +kernel
theorem dX11_lost_153 : decode cX11_lost 153 = .ok (.ifCond .eq 60, 3) := by decide +kernel
theorem dX11_lost_156 : decode cX11_lost 156 = .ok (.aload_n 0, 1) := by decide +kernel
theorem dX11_lost_157 : decode cX11_lost 157 = .ok (.iload_n 1, 1) := by decide +kernel
theorem dX11_lost_158 : decode cX11_lost 158 = .ok (.iload 8, 2) := by decide +kernel
theorem dX11_lost_160 : decode cX11_lost 160 = .ok (.iload 4, 2) := by decide +kernel
theorem dX11_lost_162 : decode cX11_lost 162 = .ok (.invokevirtual 262, 3) := by decide +kernel
theorem dX11_lost_165 : decode cX11_lost 165 = .ok (.ldc 245, 2) := by decide +kernel
theorem dX11_lost_167 : decode cX11_lost 167 = .ok (.if_icmp .eq 46, 3) := by decide +kernel
theorem dX11_lost_170 : decode cX11_lost 170 = .ok (.aload_n 0, 1) := by decide +kernel
theorem dX11_lost_171 : decode cX11_lost 171 = .ok (.iload_n 1, 1) := by decide +kernel
theorem dX11_lost_172 : decode cX11_lost 172 = .ok (.iload 8, 2) := by decide +kernel
theorem dX11_lost_174 : decode cX11_lost 174 = .ok (.iload 5, 2) := by decide +kernel
theorem dX11_lost_176 : decode cX11_lost 176 = .ok (.invokevirtual 262, 3) := by decide +kernel
theorem dX11_lost_179 : decode cX11_lost 179 = .ok (.ldc 245, 2) := by decide +kernel
theorem dX11_lost_181 : decode cX11_lost 181 = .ok (.if_icmp .ne 6, 3) := by decide +kernel
theorem dX11_lost_184 : decode cX11_lost 184 = .ok (.goto 29, 3) := by decide +kernel
theorem dX11_lost_187 : decode cX11_lost 187 = .ok (.iload 6, 2) := by decide +kernel
theorem dX11_lost_189 : decode cX11_lost 189 = .ok (.aload_n 0, 1) := by decide +kernel
theorem dX11_lost_190 : decode cX11_lost 190 = .ok (.iload_n 1, 1) := by decide +kernel
theorem dX11_lost_191 : decode cX11_lost 191 = .ok (.iload 8, 2) := by decide +kernel
theorem dX11_lost_193 : decode cX11_lost 193 = .ok (.iload 5, 2) := by decide +kernel
theorem dX11_lost_195 : decode cX11_lost 195 = .ok (.invokevirtual 262, 3) := by decide +kernel
theorem dX11_lost_198 : decode cX11_lost 198 = .ok (.aload_n 0, 1) := by decide +kernel
theorem dX11_lost_199 : decode cX11_lost 199 = .ok (.iload_n 1, 1) := by decide +kernel
theorem dX11_lost_200 : decode cX11_lost 200 = .ok (.iload 8, 2) := by decide +kernel
theorem dX11_lost_202 : decode cX11_lost 202 = .ok (.iload 4, 2) := by decide +kernel
theorem dX11_lost_204 : decode cX11_lost 204 = .ok (.invokevirtual 262, 3) := by decide +kernel
theorem dX11_lost_207 : decode cX11_lost 207 = .ok (.isub, 1) := by decide +kernel
theorem dX11_lost_208 : decode cX11_lost 208 = .ok (.invokestatic 265, 3) := by decide +kernel
theorem dX11_lost_211 : decode cX11_lost 211 = .ok (.istore 6, 2) := by decide +kernel
theorem dX11_lost_213 : decode cX11_lost 213 = .ok (.iinc 8 1, 3) := by decide +kernel
theorem dX11_lost_216 : decode cX11_lost 216 = .ok (.goto (-84), 3) := by decide +kernel
theorem dX11_lost_219 : decode cX11_lost 219 = .ok (.iload 7, 2) := by decide +kernel
theorem dX11_lost_221 : decode cX11_lost 221 = .ok (.iload 6, 2) := by decide +kernel
theorem dX11_lost_223 : decode cX11_lost 223 = .ok (.isub, 1) := by decide +kernel
theorem dX11_lost_224 : decode cX11_lost 224 = .ok (.istore 8, 2) := by decide +kernel
theorem dX11_lost_226 : decode cX11_lost 226 = .ok (.iload 8, 2) := by decide +kernel
theorem dX11_lost_228 : decode cX11_lost 228 = .ok (.iload 5, 2) := by decide +kernel
theorem dX11_lost_230 : decode cX11_lost 230 = .ok (.iload 4, 2) := by decide +kernel
theorem dX11_lost_232 : decode cX11_lost 232 = .ok (.isub, 1) := by decide +kernel
theorem dX11_lost_233 : decode cX11_lost 233 = .ok (.idiv, 1) := by decide +kernel
theorem dX11_lost_234 : decode cX11_lost 234 = .ok (.iload_n 3, 1) := by decide +kernel
theorem dX11_lost_235 : decode cX11_lost 235 = .ok (.iload 4, 2) := by decide +kernel
theorem dX11_lost_237 : decode cX11_lost 237 = .ok (.isub, 1) := by decide +kernel
theorem dX11_lost_238 : decode cX11_lost 238 = .ok (.iload 8, 2) := by decide +kernel
theorem dX11_lost_240 : decode cX11_lost 240 = .ok (.iload 5, 2) := by decide +kernel
theorem dX11_lost_242 : decode cX11_lost 242 = .ok (.iload 4, 2) := by decide +kernel
theorem dX11_lost_244 : decode cX11_lost 244 = .ok (.isub, 1) := by decide +kernel
theorem dX11_lost_245 : decode cX11_lost 245 = .ok (.irem, 1) := by decide +kernel
theorem dX11_lost_246 : decode cX11_lost 246 = .ok (.if_icmp .ge 7, 3) := by decide +kernel
theorem dX11_lost_249 : decode cX11_lost 249 = .ok (.iconst 1, 1) := by decide +kernel
theorem dX11_lost_250 : decode cX11_lost 250 = .ok (.goto 4, 3) := by decide +kernel
theorem dX11_lost_253 : decode cX11_lost 253 = .ok (.iconst 0, 1) := by decide +kernel
theorem dX11_lost_254 : decode cX11_lost 254 = .ok (.iadd, 1) := by decide +kernel
theorem dX11_lost_255 : decode cX11_lost 255 = .ok (.ireturn, 1) := by decide +kernel
theorem dX11_pointsOf_0 : decode cX11_pointsOf 0 = .ok (.iload_n 0, 1) := by decide +kernel
theorem dX11_pointsOf_1 : decode cX11_pointsOf 1 = .ok (.iconst 1, 1) := by decide +kernel
theorem dX11_pointsOf_2 : decode cX11_pointsOf 2 = .ok (.if_icmp .ne 8, 3) := by decide +kernel
theorem dX11_pointsOf_5 : decode cX11_pointsOf 5 = .ok (.bipush 25, 2) := by decide +kernel
theorem dX11_pointsOf_7 : decode cX11_pointsOf 7 = .ok (.goto 57, 3) := by decide +kernel
theorem dX11_pointsOf_10 : decode cX11_pointsOf 10 = .ok (.iload_n 0, 1) := by decide +kernel
theorem dX11_pointsOf_11 : decode cX11_pointsOf 11 = .ok (.iconst 2, 1) := by decide +kernel
theorem dX11_pointsOf_12 : decode cX11_pointsOf 12 = .ok (.if_icmp .ne 8, 3) := by decide +kernel
theorem dX11_pointsOf_15 : decode cX11_pointsOf 15 = .ok (.bipush 20, 2) := by decide +kernel
theorem dX11_pointsOf_17 : decode cX11_pointsOf 17 = .ok (.goto 47, 3) := by decide +kernel
theorem dX11_pointsOf_20 : decode cX11_pointsOf 20 = .ok (.iload_n 0, 1) := by decide +kernel
theorem dX11_pointsOf_21 : decode cX11_pointsOf 21 = .ok (.iconst 3, 1) := by decide +kernel
theorem dX11_pointsOf_22 : decode cX11_pointsOf 22 = .ok (.if_icmp .ne 8, 3) := by decide +kernel
theorem dX11_pointsOf_25 : decode cX11_pointsOf 25 = .ok (.bipush 16, 2) := by decide +kernel
theorem dX11_pointsOf_27 : decode cX11_pointsOf 27 = .ok (.goto 37, 3) := by decide +kernel
theorem dX11_pointsOf_30 : decode cX11_pointsOf 30 = .ok (.iload_n 0, 1) := by decide +kernel
theorem dX11_pointsOf_31 : decode cX11_pointsOf 31 = .ok (.iconst 4, 1) := by decide +kernel
theorem dX11_pointsOf_32 : decode cX11_pointsOf 32 = .ok (.if_icmp .ne 8, 3) := by decide +kernel
theorem dX11_pointsOf_35 : decode cX11_pointsOf 35 = .ok (.bipush 13, 2) := by decide +kernel
theorem dX11_pointsOf_37 : decode cX11_pointsOf 37 = .ok (.goto 27, 3) := by decide +kernel
theorem dX11_pointsOf_40 : decode cX11_pointsOf 40 = .ok (.iload_n 0, 1) := by decide +kernel
theorem dX11_pointsOf_41 : decode cX11_pointsOf 41 = .ok (.iconst 5, 1) := by decide +kernel
theorem dX11_pointsOf_42 : decode cX11_pointsOf 42 = .ok (.if_icmp .ne 8, 3) := by decide +kernel
theorem dX11_pointsOf_45 : decode cX11_pointsOf 45 = .ok (.bipush 11, 2) := by decide +kernel
theorem dX11_pointsOf_47 : decode cX11_pointsOf 47 = .ok (.goto 17, 3) := by decide +kernel
theorem dX11_pointsOf_50 : decode cX11_pointsOf 50 = .ok (.iload_n 0, 1) := by decide +kernel
theorem dX11_pointsOf_51 : decode cX11_pointsOf 51 = .ok (.bipush 15, 2) := by decide +kernel
theorem dX11_pointsOf_53 : decode cX11_pointsOf 53 = .ok (.if_icmp .le 7, 3) := by decide +kernel
theorem dX11_pointsOf_56 : decode cX11_pointsOf 56 = .ok (.iconst 0, 1) := by decide +kernel
theorem dX11_pointsOf_57 : decode cX11_pointsOf 57 = .ok (.goto 7, 3) := by decide +kernel
theorem dX11_pointsOf_60 : decode cX11_pointsOf 60 = .ok (.bipush 16, 2) := by decide +kernel
theorem dX11_pointsOf_62 : decode cX11_pointsOf 62 = .ok (.iload_n 0, 1) := by decide +kernel
theorem dX11_pointsOf_63 : decode cX11_pointsOf 63 = .ok (.isub, 1) := by decide +kernel
theorem dX11_pointsOf_64 : decode cX11_pointsOf 64 = .ok (.ireturn, 1) := by decide +kernel
theorem dX11_close_0 : decode cX11_close 0 = .ok (.aload_n 0, 1) := by decide +kernel
theorem dX11_close_1 : decode cX11_close 1 = .ok (.iconst 0, 1) := by decide +kernel
theorem dX11_close_2 : decode cX11_close 2 = .ok (.putfield 106, 3) := by decide +kernel
theorem dX11_close_5 : decode cX11_close 5 = .ok (.iconst 0, 1) := by decide +kernel
theorem dX11_close_6 : decode cX11_close 6 = .ok (.istore_n 1, 1) := by decide +kernel
theorem dX11_close_7 : decode cX11_close 7 = .ok (.iconst 0, 1) := by decide +kernel
theorem dX11_close_8 : decode cX11_close 8 = .ok (.istore_n 2, 1) := by decide +kernel
theorem dX11_close_9 : decode cX11_close 9 = .ok (.iload_n 2, 1) := by decide +kernel
theorem dX11_close_10 : decode cX11_close 10 = .ok (.aload_n 0, 1) := by decide +kernel
theorem dX11_close_11 : decode cX11_close 11 = .ok (.getfield 212, 3) := by decide +kernel
theorem dX11_close_14 : decode cX11_close 14 = .ok (.if_icmp .ge 29, 3) := by decide +kernel
theorem dX11_close_17 : decode cX11_close 17 = .ok (.iload_n 1, 1) := by decide +kernel
theorem dX11_close_18 : decode cX11_close 18 = .ok (.ifCond .ne 13, 3) := by decide +kernel
theorem dX11_close_21 : decode cX11_close 21 = .ok (.aload_n 0, 1) := by decide +kernel
theorem dX11_close_22 : decode cX11_close 22 = .ok (.getfield 69, 3) := by decide +kernel
theorem dX11_close_25 : decode cX11_close 25 = .ok (.iload_n 2, 1) := by decide +kernel
theorem dX11_close_26 : decode cX11_close 26 = .ok (.iaload, 1) := by decide +kernel
theorem dX11_close_27 : decode cX11_close 27 = .ok (.iconst 2, 1) := by decide +kernel
theorem dX11_close_28 : decode cX11_close 28 = .ok (.if_icmp .ne 7, 3) := by decide +kernel
theorem dX11_close_31 : decode cX11_close 31 = .ok (.iconst 1, 1) := by decide +kernel
theorem dX11_close_32 : decode cX11_close 32 = .ok (.goto 4, 3) := by decide +kernel
theorem dX11_close_35 : decode cX11_close 35 = .ok (.iconst 0, 1) := by decide +kernel
theorem dX11_close_36 : decode cX11_close 36 = .ok (.istore_n 1, 1) := by decide +kernel
theorem dX11_close_37 : decode cX11_close 37 = .ok (.iinc 2 1, 3) := by decide +kernel
theorem dX11_close_40 : decode cX11_close 40 = .ok (.goto (-31), 3) := by decide +kernel
theorem dX11_close_43 : decode cX11_close 43 = .ok (.aload_n 0, 1) := by decide +kernel
theorem dX11_close_44 : decode cX11_close 44 = .ok (.getfield 113, 3) := by decide +kernel
theorem dX11_close_47 : decode cX11_close 47 = .ok (.ifCond .eq 14, 3) := by decide +kernel
theorem dX11_close_50 : decode cX11_close 50 = .ok (.aload_n 0, 1) := by decide +kernel
theorem dX11_close_51 : decode cX11_close 51 = .ok (.invokevirtual 127, 3) := by decide +kernel
theorem dX11_close_54 : decode cX11_close 54 = .ok (.ifCond .ne 7, 3) := by decide +kernel
theorem dX11_close_57 : decode cX11_close 57 = .ok (.iload_n 1, 1) := by decide +kernel
theorem dX11_close_58 : decode cX11_close 58 = .ok (.ifCond .ne 5, 3) := by decide +kernel
theorem dX11_close_61 : decode cX11_close 61 = .ok (.iconst (-1), 1) := by decide +kernel
theorem dX11_close_62 : decode cX11_close 62 = .ok (.ireturn, 1) := by decide +kernel
theorem dX11_close_63 : decode cX11_close 63 = .ok (.iconst 0, 1) := by decide +kernel
theorem dX11_close_64 : decode cX11_close 64 = .ok (.istore_n 2, 1) := by decide +kernel
theorem dX11_close_65 : decode cX11_close 65 = .ok (.iconst 0, 1) := by decide +kernel
theorem dX11_close_66 : decode cX11_close 66 = .ok (.istore_n 3, 1) := by decide +kernel
theorem dX11_close_67 : decode cX11_close 67 = .ok (.iload_n 3, 1) := by decide +kernel
theorem dX11_close_68 : decode cX11_close 68 = .ok (.aload_n 0, 1) := by decide +kernel
theorem dX11_close_69 : decode cX11_close 69 = .ok (.getfield 139, 3) := by decide +kernel
theorem dX11_close_72 : decode cX11_close 72 = .ok (.if_icmp .ge 143, 3) := by decide +kernel
theorem dX11_close_75 : decode cX11_close 75 = .ok (.aload_n 0, 1) := by decide +kernel
theorem dX11_close_76 : decode cX11_close 76 = .ok (.iload_n 3, 1) := by decide +kernel
theorem dX11_close_77 : decode cX11_close 77 = .ok (.aload_n 0, 1) := by decide +kernel
theorem dX11_close_78 : decode cX11_close 78 = .ok (.getfield 223, 3) := by decide +kernel
theorem dX11_close_81 : decode cX11_close 81 = .ok (.invokevirtual 226, 3) := by decide +kernel
theorem dX11_close_84 : decode cX11_close 84 = .ok (.istore 4, 2) := by decide +kernel
theorem dX11_close_86 : decode cX11_close 86 = .ok (.iload 4, 2) := by decide +kernel
theorem dX11_close_88 : decode cX11_close 88 = .ok (.iconst (-1), 1) := by decide +kernel
theorem dX11_close_89 : decode cX11_close 89 = .ok (.if_icmp .ne 6, 3) := by decide +kernel
theorem dX11_close_92 : decode cX11_close 92 = .ok (.goto 117, 3) := by decide +kernel
theorem dX11_close_95 : decode cX11_close 95 = .ok (.iinc 2 1, 3) := by decide +kernel
theorem dX11_close_98 : decode cX11_close 98 = .ok (.iconst 0, 1) := by decide +kernel
theorem dX11_close_99 : decode cX11_close 99 = .ok (.istore 5, 2) := by decide +kernel
theorem dX11_close_101 : decode cX11_close 101 = .ok (.iconst 0, 1) := by decide +kernel
theorem dX11_close_102 : decode cX11_close 102 = .ok (.istore 6, 2) := by decide +kernel
theorem dX11_close_104 : decode cX11_close 104 = .ok (.iload 6, 2) := by decide +kernel
theorem dX11_close_106 : decode cX11_close 106 = .ok (.aload_n 0, 1) := by decide +kernel
theorem dX11_close_107 : decode cX11_close 107 = .ok (.getfield 139, 3) := by decide +kernel
theorem dX11_close_110 : decode cX11_close 110 = .ok (.if_icmp .ge 34, 3) := by decide +kernel
theorem dX11_close_113 : decode cX11_close 113 = .ok (.iload 5, 2) := by decide +kernel
theorem dX11_close_115 : decode cX11_close 115 = .ok (.aload_n 0, 1) := by decide +kernel
theorem dX11_close_116 : decode cX11_close 116 = .ok (.iload 6, 2) := by decide +kernel
theorem dX11_close_118 : decode cX11_close 118 = .ok (.aload_n 0, 1) := by decide +kernel
theorem dX11_close_119 : decode cX11_close 119 = .ok (.getfield 223, 3) := by decide +kernel
theorem dX11_close_122 : decode cX11_close 122 = .ok (.invokevirtual 226, 3) := by decide +kernel
theorem dX11_close_125 : decode cX11_close 125 = .ok (.iload 4, 2) := by decide +kernel
theorem dX11_close_127 : decode cX11_close 127 = .ok (.if_icmp .ne 7, 3) := by decide +kernel
theorem dX11_close_130 : decode cX11_close 130 = .ok (.iconst 1, 1) := by decide +kernel
theorem dX11_close_131 : decode cX11_close 131 = .ok (.goto 4, 3) := by decide +kernel
theorem dX11_close_134 : decode cX11_close 134 = .ok (.iconst 0, 1) := by decide +kernel
theorem dX11_close_135 : decode cX11_close 135 = .ok (.iadd, 1) := by decide +kernel
theorem dX11_close_136 : decode cX11_close 136 = .ok (.istore 5, 2) := by decide +kernel
theorem dX11_close_138 : decode cX11_close 138 = .ok (.iinc 6 1, 3) := by decide +kernel
theorem dX11_close_141 : decode cX11_close 141 = .ok (.goto (-37), 3) := by decide +kernel
theorem dX11_close_144 : decode cX11_close 144 = .ok (.iconst 0, 1) := by decide +kernel
theorem dX11_close_145 : decode cX11_close 145 = .ok (.istore 6, 2) := by decide +kernel
theorem dX11_close_147 : decode cX11_close 147 = .ok (.iload 4, 2) := by decide +kernel
theorem dX11_close_149 : decode cX11_close 149 = .ok (.istore 7, 2) := by decide +kernel
theorem dX11_close_151 : decode cX11_close 151 = .ok (.iload 7, 2) := by decide +kernel
theorem dX11_close_153 : decode cX11_close 153 = .ok (.iload 4, 2) := by decide +kernel
theorem dX11_close_155 : decode cX11_close 155 = .ok (.iload 5, 2) := by decide +kernel
theorem dX11_close_157 : decode cX11_close 157 = .ok (.iadd, 1) := by decide +kernel
theorem dX11_close_158 : decode cX11_close 158 = .ok (.if_icmp .ge 19, 3) := by decide +kernel
theorem dX11_close_161 : decode cX11_close 161 = .ok (.iload 6, 2) := by decide +kernel
theorem dX11_close_163 : decode cX11_close 163 = .ok (.iload 7, 2) := by decide +kernel
theorem dX11_close_165 : decode cX11_close 165 = .ok (.invokestatic 270, 3) := by decide +kernel
theorem dX11_close_168 : decode cX11_close 168 = .ok (.iadd, 1) := by decide +kernel
theorem dX11_close_169 : decode cX11_close 169 = .ok (.istore 6, 2) := by decide +kernel
theorem dX11_close_171 : decode cX11_close 171 = .ok (.iinc 7 1, 3) := by decide +kernel
theorem dX11_close_174 : decode cX11_close 174 = .ok (.goto (-23), 3) := by decide +kernel
theorem dX11_close_177 : decode cX11_close 177 = .ok (.aload_n 0, 1) := by decide +kernel
theorem dX11_close_178 : decode cX11_close 178 = .ok (.getfield 52, 3) := by decide +kernel
theorem dX11_close_181 : decode cX11_close 181 = .ok (.iload_n 3, 1) := by decide +kernel
theorem dX11_close_182 : decode cX11_close 182 = .ok (.dup2, 1) := by decide +kernel
theorem dX11_close_183 : decode cX11_close 183 = .ok (.iaload, 1) := by decide +kernel
theorem dX11_close_184 : decode cX11_close 184 = .ok (.aload_n 0, 1) := by decide +kernel
theorem dX11_close_185 : decode cX11_close 185 = .ok (.getfield 55, 3) := by decide +kernel
theorem dX11_close_188 : decode cX11_close 188 = .ok (.iconst 5, 1) := by decide +kernel
theorem dX11_close_189 : decode cX11_close 189 = .ok (.iaload, 1) := by decide +kernel
theorem dX11_close_190 : decode cX11_close 190 = .ok (.iconst 1, 1) := by decide +kernel
theorem dX11_close_191 : decode cX11_close 191 = .ok (.if_icmp .ne 11, 3) := by decide +kernel
theorem dX11_close_194 : decode cX11_close 194 = .ok (.iload 6, 2) := by decide +kernel
theorem dX11_close_196 : decode cX11_close 196 = .ok (.iload 5, 2) := by decide +kernel
theorem dX11_close_198 : decode cX11_close 198 = .ok (.idiv, 1) := by decide +kernel
theorem dX11_close_199 : decode cX11_close 199 = .ok (.goto 8, 3) := by decide +kernel
theorem dX11_close_202 : decode cX11_close 202 = .ok (.iload 4, 2) := by decide +kernel
theorem dX11_close_204 : decode cX11_close 204 = .ok (.invokestatic 270, 3) := by decide +kernel
theorem dX11_close_207 : decode cX11_close 207 = .ok (.iadd, 1) := by decide +kernel
theorem dX11_close_208 : decode cX11_close 208 = .ok (.iastore, 1) := by decide +kernel
theorem dX11_close_209 : decode cX11_close 209 = .ok (.iinc 3 1, 3) := by decide +kernel
theorem dX11_close_212 : decode cX11_close 212 = .ok (.goto (-145), 3) := by decide +kernel
theorem dX11_close_215 : decode cX11_close 215 = .ok (.aload_n 0, 1) := by decide +kernel
theorem dX11_close_216 : decode cX11_close 216 = .ok (.iconst 0, 1) := by decide +kernel
theorem dX11_close_217 : decode cX11_close 217 = .ok (.putfield 113, 3) := by decide +kernel
theorem dX11_close_220 : decode cX11_close 220 = .ok (.aload_n 0, 1) := by decide +kernel
theorem dX11_close_221 : decode cX11_close 221 = .ok (.invokevirtual 214, 3) := by decide +kernel
theorem dX11_close_224 : decode cX11_close 224 = .ok (.aload_n 0, 1) := by decide +kernel
theorem dX11_close_225 : decode cX11_close 225 = .ok (.dup, 1) := by decide +kernel
theorem dX11_close_226 : decode cX11_close 226 = .ok (.getfield 273, 3) := by decide +kernel
theorem dX11_close_229 : decode cX11_close 229 = .ok (.iconst 1, 1) := by decide +kernel
theorem dX11_close_230 : decode cX11_close 230 = .ok (.iadd, 1) := by decide +kernel
theorem dX11_close_231 : decode cX11_close 231 = .ok (.putfield 273, 3) := by decide +kernel
theorem dX11_close_234 : decode cX11_close 234 = .ok (.iload_n 2, 1) := by decide +kernel
theorem dX11_close_235 : decode cX11_close 235 = .ok (.ireturn, 1) := by decide +kernel
theorem dX11_points_0 : decode cX11_points 0 = .ok (.aload_n 0, 1) := by decide +kernel
theorem dX11_points_1 : decode cX11_points 1 = .ok (.iconst 0, 1) := by decide +kernel
theorem dX11_points_2 : decode cX11_points 2 = .ok (.putfield 106, 3) := by decide +kernel
theorem dX11_points_5 : decode cX11_points 5 = .ok (.iload_n 1, 1) := by decide +kernel
theorem dX11_points_6 : decode cX11_points 6 = .ok (.ifCond .ne 28, 3) := by decide +kernel
theorem dX11_points_9 : decode cX11_points 9 = .ok (.iload_n 2, 1) := by decide +kernel
theorem dX11_points_10 : decode cX11_points 10 = .ok (.iconst 0, 1) := by decide +kernel
theorem dX11_points_11 : decode cX11_points 11 = .ok (.aload_n 0, 1) := by decide +kernel
theorem dX11_points_12 : decode cX11_points 12 = .ok (.getfield 139, 3) := by decide +kernel
theorem dX11_points_15 : decode cX11_points 15 = .ok (.iconst 1, 1) := by decide +kernel
theorem dX11_points_16 : decode cX11_points 16 = .ok (.isub, 1) := by decide +kernel
theorem dX11_points_17 : decode cX11_points 17 = .ok (.invokestatic 109, 3) := by decide +kernel
theorem dX11_points_20 : decode cX11_points 20 = .ok (.ifCond .eq 12, 3) := by decide +kernel
theorem dX11_points_23 : decode cX11_points 23 = .ok (.aload_n 0, 1) := by decide +kernel
theorem dX11_points_24 : decode cX11_points 24 = .ok (.getfield 52, 3) := by decide +kernel
theorem dX11_points_27 : decode cX11_points 27 = .ok (.iload_n 2, 1) := by decide +kernel
theorem dX11_points_28 : decode cX11_points 28 = .ok (.iaload, 1) := by decide +kernel
theorem dX11_points_29 : decode cX11_points 29 = .ok (.goto 4, 3) := by decide +kernel
theorem dX11_points_32 : decode cX11_points 32 = .ok (.iconst (-1), 1) := by decide +kernel
theorem dX11_points_33 : decode cX11_points 33 = .ok (.ireturn, 1) := by decide +kernel
theorem dX11_points_34 : decode cX11_points 34 = .ok (.iload_n 1, 1) := by decide +kernel
theorem dX11_points_35 : decode cX11_points 35 = .ok (.iconst 1, 1) := by decide +kernel
theorem dX11_points_36 : decode cX11_points 36 = .ok (.if_icmp .ne 12, 3) := by decide +kernel
theorem dX11_points_39 : decode cX11_points 39 = .ok (.iload_n 2, 1) := by decide +kernel
theorem dX11_points_40 : decode cX11_points 40 = .ok (.iconst 0, 1) := by decide +kernel
theorem dX11_points_41 : decode cX11_points 41 = .ok (.iconst 3, 1) := by decide +kernel
theorem dX11_points_42 : decode cX11_points 42 = .ok (.invokestatic 109, 3) := by decide +kernel
theorem dX11_points_45 : decode cX11_points 45 = .ok (.ifCond .ne 5, 3) := by decide +kernel
theorem dX11_points_48 : decode cX11_points 48 = .ok (.iconst (-1), 1) := by decide +kernel
theorem dX11_points_49 : decode cX11_points 49 = .ok (.ireturn, 1) := by decide +kernel
theorem dX11_points_50 : decode cX11_points 50 = .ok (.iconst 0, 1) := by decide +kernel
theorem dX11_points_51 : decode cX11_points 51 = .ok (.istore_n 3, 1) := by decide +kernel
theorem dX11_points_52 : decode cX11_points 52 = .ok (.iconst 0, 1) := by decide +kernel
theorem dX11_points_53 : decode cX11_points 53 = .ok (.istore 4, 2) := by decide +kernel
theorem dX11_points_55 : decode cX11_points 55 = .ok (.iload 4, 2) := by decide +kernel
theorem dX11_points_57 : decode cX11_points 57 = .ok (.aload_n 0, 1) := by decide +kernel
theorem dX11_points_58 : decode cX11_points 58 = .ok (.getfield 139, 3) := by decide +kernel
theorem dX11_points_61 : decode cX11_points 61 = .ok (.if_icmp .ge 34, 3) := by decide +kernel
theorem dX11_points_64 : decode cX11_points 64 = .ok (.iload_n 3, 1) := by decide +kernel
theorem dX11_points_65 : decode cX11_points 65 = .ok (.aload_n 0, 1) := by decide +kernel
theorem dX11_points_66 : decode cX11_points 66 = .ok (.getfield 40, 3) := by decide +kernel
theorem dX11_points_69 : decode cX11_points 69 = .ok (.iload 4, 2) := by decide +kernel
theorem dX11_points_71 : decode cX11_points 71 = .ok (.iaload, 1) := by decide +kernel
theorem dX11_points_72 : decode cX11_points 72 = .ok (.iload_n 2, 1) := by decide +kernel
theorem dX11_points_73 : decode cX11_points 73 = .ok (.if_icmp .ne 13, 3) := by decide +kernel
theorem dX11_points_76 : decode cX11_points 76 = .ok (.aload_n 0, 1) := by decide +kernel
theorem dX11_points_77 : decode cX11_points 77 = .ok (.getfield 52, 3) := by decide +kernel
theorem dX11_points_80 : decode cX11_points 80 = .ok (.iload 4, 2) := by decide +kernel
theorem dX11_points_82 : decode cX11_points 82 = .ok (.iaload, 1) := by decide +kernel
theorem dX11_points_83 : decode cX11_points 83 = .ok (.goto 4, 3) := by decide +kernel
theorem dX11_points_86 : decode cX11_points 86 = .ok (.iconst 0, 1) := by decide +kernel
theorem dX11_points_87 : decode cX11_points 87 = .ok (.iadd, 1) := by decide +kernel
theorem dX11_points_88 : decode cX11_points 88 = .ok (.istore_n 3, 1) := by decide +kernel
theorem dX11_points_89 : decode cX11_points 89 = .ok (.iinc 4 1, 3) := by decide +kernel
theorem dX11_points_92 : decode cX11_points 92 = .ok (.goto (-37), 3) := by decide +kernel
theorem dX11_points_95 : decode cX11_points 95 = .ok (.iload_n 3, 1) := by decide +kernel
theorem dX11_points_96 : decode cX11_points 96 = .ok (.ireturn, 1) := by decide +kernel
theorem dX11_count_0 : decode cX11_count 0 = .ok (.aload_n 0, 1) := by decide +kernel
theorem dX11_count_1 : decode cX11_count 1 = .ok (.iconst 0, 1) := by decide +kernel
theorem dX11_count_2 : decode cX11_count 2 = .ok (.putfield 106, 3) := by decide +kernel
theorem dX11_count_5 : decode cX11_count 5 = .ok (.iconst 0, 1) := by decide +kernel
theorem dX11_count_6 : decode cX11_count 6 = .ok (.istore_n 2, 1) := by decide +kernel
theorem dX11_count_7 : decode cX11_count 7 = .ok (.iload_n 1, 1) := by decide +kernel
theorem dX11_count_8 : decode cX11_count 8 = .ok (.tableswitch 208 0 10 #[60, 65, 70, 75, 80, 93, 129, 147, 163, 168, 173], 60) := by decide +kernel
theorem dX11_count_68 : decode cX11_count 68 = .ok (.aload_n 0, 1) := by decide +kernel
theorem dX11_count_69 : decode cX11_count 69 = .ok (.getfield 117, 3) := by decide +kernel
theorem dX11_count_72 : decode cX11_count 72 = .ok (.ireturn, 1) := by decide +kernel
theorem dX11_count_73 : decode cX11_count 73 = .ok (.aload_n 0, 1) := by decide +kernel
theorem dX11_count_74 : decode cX11_count 74 = .ok (.getfield 120, 3) := by decide +kernel
theorem dX11_count_77 : decode cX11_count 77 = .ok (.ireturn, 1) := by decide +kernel
theorem dX11_count_78 : decode cX11_count 78 = .ok (.aload_n 0, 1) := by decide +kernel
theorem dX11_count_79 : decode cX11_count 79 = .ok (.getfield 139, 3) := by decide +kernel
theorem dX11_count_82 : decode cX11_count 82 = .ok (.ireturn, 1) := by decide +kernel
theorem dX11_count_83 : decode cX11_count 83 = .ok (.aload_n 0, 1) := by decide +kernel
theorem dX11_count_84 : decode cX11_count 84 = .ok (.getfield 146, 3) := by decide +kernel
theorem dX11_count_87 : decode cX11_count 87 = .ok (.ireturn, 1) := by decide +kernel
theorem dX11_count_88 : decode cX11_count 88 = .ok (.aload_n 0, 1) := by decide +kernel
theorem dX11_count_89 : decode cX11_count 89 = .ok (.getfield 113, 3) := by decide +kernel
theorem dX11_count_92 : decode cX11_count 92 = .ok (.ifCond .eq 7, 3) := by decide +kernel
theorem dX11_count_95 : decode cX11_count 95 = .ok (.iconst 1, 1) := by decide +kernel
theorem dX11_count_96 : decode cX11_count 96 = .ok (.goto 4, 3) := by decide +kernel
theorem dX11_count_99 : decode cX11_count 99 = .ok (.iconst 0, 1) := by decide +kernel
theorem dX11_count_100 : decode cX11_count 100 = .ok (.ireturn, 1) := by decide +kernel
theorem dX11_count_101 : decode cX11_count 101 = .ok (.iconst 0, 1) := by decide +kernel
theorem dX11_count_102 : decode cX11_count 102 = .ok (.istore_n 3, 1) := by decide +kernel
theorem dX11_count_103 : decode cX11_count 103 = .ok (.iload_n 3, 1) := by decide +kernel
theorem dX11_count_104 : decode cX11_count 104 = .ok (.aload_n 0, 1) := by decide +kernel
theorem dX11_count_105 : decode cX11_count 105 = .ok (.getfield 212, 3) := by decide +kernel
theorem dX11_count_108 : decode cX11_count 108 = .ok (.if_icmp .ge 27, 3) := by decide +kernel
theorem dX11_count_111 : decode cX11_count 111 = .ok (.iload_n 2, 1) := by decide +kernel
theorem dX11_count_112 : decode cX11_count 112 = .ok (.aload_n 0, 1) := by decide +kernel
theorem dX11_count_113 : decode cX11_count 113 = .ok (.getfield 69, 3) := by decide +kernel
theorem dX11_count_116 : decode cX11_count 116 = .ok (.iload_n 3, 1) := by decide +kernel
theorem dX11_count_117 : decode cX11_count 117 = .ok (.iaload, 1) := by decide +kernel
theorem dX11_count_118 : decode cX11_count 118 = .ok (.iconst 2, 1) := by decide +kernel
theorem dX11_count_119 : decode cX11_count 119 = .ok (.if_icmp .ne 7, 3) := by decide +kernel
theorem dX11_count_122 : decode cX11_count 122 = .ok (.iconst 1, 1) := by decide +kernel
theorem dX11_count_123 : decode cX11_count 123 = .ok (.goto 4, 3) := by decide +kernel
theorem dX11_count_126 : decode cX11_count 126 = .ok (.iconst 0, 1) := by decide +kernel
theorem dX11_count_127 : decode cX11_count 127 = .ok (.iadd, 1) := by decide +kernel
theorem dX11_count_128 : decode cX11_count 128 = .ok (.istore_n 2, 1) := by decide +kernel
theorem dX11_count_129 : decode cX11_count 129 = .ok (.iinc 3 1, 3) := by decide +kernel
theorem dX11_count_132 : decode cX11_count 132 = .ok (.goto (-29), 3) := by decide +kernel
theorem dX11_count_135 : decode cX11_count 135 = .ok (.iload_n 2, 1) := by decide +kernel
theorem dX11_count_136 : decode cX11_count 136 = .ok (.ireturn, 1) := by decide +kernel
theorem dX11_count_137 : decode cX11_count 137 = .ok (.aload_n 0, 1) := by decide +kernel
theorem dX11_count_138 : decode cX11_count 138 = .ok (.invokevirtual 127, 3) := by decide +kernel
theorem dX11_count_141 : decode cX11_count 141 = .ok (.ifCond .eq 12, 3) := by decide +kernel
theorem dX11_count_144 : decode cX11_count 144 = .ok (.aload_n 0, 1) := by decide +kernel
theorem dX11_count_145 : decode cX11_count 145 = .ok (.getfield 212, 3) := by decide +kernel
theorem dX11_count_148 : decode cX11_count 148 = .ok (.iconst 1, 1) := by decide +kernel
theorem dX11_count_149 : decode cX11_count 149 = .ok (.isub, 1) := by decide +kernel
theorem dX11_count_150 : decode cX11_count 150 = .ok (.goto 4, 3) := by decide +kernel
theorem dX11_count_153 : decode cX11_count 153 = .ok (.iconst (-1), 1) := by decide +kernel
theorem dX11_count_154 : decode cX11_count 154 = .ok (.ireturn, 1) := by decide +kernel
theorem dX11_count_155 : decode cX11_count 155 = .ok (.aload_n 0, 1) := by decide +kernel
theorem dX11_count_156 : decode cX11_count 156 = .ok (.invokevirtual 127, 3) := by decide +kernel
theorem dX11_count_159 : decode cX11_count 159 = .ok (.ifCond .eq 10, 3) := by decide +kernel
theorem dX11_count_162 : decode cX11_count 162 = .ok (.aload_n 0, 1) := by decide +kernel
theorem dX11_count_163 : decode cX11_count 163 = .ok (.getfield 220, 3) := by decide +kernel
theorem dX11_count_166 : decode cX11_count 166 = .ok (.goto 4, 3) := by decide +kernel
theorem dX11_count_169 : decode cX11_count 169 = .ok (.iconst 0, 1) := by decide +kernel
theorem dX11_count_170 : decode cX11_count 170 = .ok (.ireturn, 1) := by decide +kernel
theorem dX11_count_171 : decode cX11_count 171 = .ok (.aload_n 0, 1) := by decide +kernel
theorem dX11_count_172 : decode cX11_count 172 = .ok (.getfield 223, 3) := by decide +kernel
theorem dX11_count_175 : decode cX11_count 175 = .ok (.ireturn, 1) := by decide +kernel
theorem dX11_count_176 : decode cX11_count 176 = .ok (.aload_n 0, 1) := by decide +kernel
theorem dX11_count_177 : decode cX11_count 177 = .ok (.getfield 273, 3) := by decide +kernel
theorem dX11_count_180 : decode cX11_count 180 = .ok (.ireturn, 1) := by decide +kernel
theorem dX11_count_181 : decode cX11_count 181 = .ok (.iconst 0, 1) := by decide +kernel
theorem dX11_count_182 : decode cX11_count 182 = .ok (.istore_n 3, 1) := by decide +kernel
theorem dX11_count_183 : decode cX11_count 183 = .ok (.iload_n 3, 1) := by decide +kernel
theorem dX11_count_184 : decode cX11_count 184 = .ok (.aload_n 0, 1) := by decide +kernel
theorem dX11_count_185 : decode cX11_count 185 = .ok (.getfield 139, 3) := by decide +kernel
theorem dX11_count_188 : decode cX11_count 188 = .ok (.if_icmp .ge 26, 3) := by decide +kernel
theorem dX11_count_191 : decode cX11_count 191 = .ok (.iload_n 2, 1) := by decide +kernel
theorem dX11_count_192 : decode cX11_count 192 = .ok (.aload_n 0, 1) := by decide +kernel
theorem dX11_count_193 : decode cX11_count 193 = .ok (.getfield 75, 3) := by decide +kernel
theorem dX11_count_196 : decode cX11_count 196 = .ok (.iload_n 3, 1) := by decide +kernel
theorem dX11_count_197 : decode cX11_count 197 = .ok (.baload, 1) := by decide +kernel
theorem dX11_count_198 : decode cX11_count 198 = .ok (.ifCond .eq 7, 3) := by decide +kernel
theorem dX11_count_201 : decode cX11_count 201 = .ok (.iconst 1, 1) := by decide +kernel
theorem dX11_count_202 : decode cX11_count 202 = .ok (.goto 4, 3) := by decide +kernel
theorem dX11_count_205 : decode cX11_count 205 = .ok (.iconst 0, 1) := by decide +kernel
theorem dX11_count_206 : decode cX11_count 206 = .ok (.iadd, 1) := by decide +kernel
theorem dX11_count_207 : decode cX11_count 207 = .ok (.istore_n 2, 1) := by decide +kernel
theorem dX11_count_208 : decode cX11_count 208 = .ok (.iinc 3 1, 3) := by decide +kernel
theorem dX11_count_211 : decode cX11_count 211 = .ok (.goto (-28), 3) := by decide +kernel
theorem dX11_count_214 : decode cX11_count 214 = .ok (.iload_n 2, 1) := by decide +kernel
theorem dX11_count_215 : decode cX11_count 215 = .ok (.ireturn, 1) := by decide +kernel
theorem dX11_count_216 : decode cX11_count 216 = .ok (.iconst (-1), 1) := by decide +kernel
theorem dX11_count_217 : decode cX11_count 217 = .ok (.ireturn, 1) := by decide +kernel
end
section
theorem dX0_init_0 : decode cX0_init 0 = .ok (.aload_n 0, 1) := by decide +kernel
theorem dX0_init_1 : decode cX0_init 1 = .ok (.invokespecial 3, 3) := by decide +kernel
theorem dX0_init_4 : decode cX0_init 4 = .ok (.aload_n 0, 1) := by decide +kernel
theorem dX0_init_5 : decode cX0_init 5 = .ok (.new 9, 3) := by decide +kernel
theorem dX0_init_8 : decode cX0_init 8 = .ok (.dup, 1) := by decide +kernel
theorem dX0_init_9 : decode cX0_init 9 = .ok (.invokespecial 11, 3) := by decide +kernel
theorem dX0_init_12 : decode cX0_init 12 = .ok (.putfield 12, 3) := by decide +kernel
theorem dX0_init_15 : decode cX0_init 15 = .ok (.aload_n 0, 1) := by decide +kernel
theorem dX0_init_16 : decode cX0_init 16 = .ok (.bipush 6, 2) := by decide +kernel
theorem dX0_init_18 : decode cX0_init 18 = .ok (.newarray .int, 2) := by decide +kernel
theorem dX0_init_20 : decode cX0_init 20 = .ok (.putfield 18, 3) := by decide +kernel
theorem dX0_init_23 : decode cX0_init 23 = .ok (.aload_n 0, 1) := by decide +kernel
theorem dX0_init_24 : decode cX0_init 24 = .ok (.iconst (-1), 1) := by decide +kernel
theorem dX0_init_25 : decode cX0_init 25 = .ok (.putfield 22, 3) := by decide +kernel
theorem dX0_init_28 : decode cX0_init 28 = .ok (.getstatic 26, 3) := by decide +kernel
theorem dX0_init_31 : decode cX0_init 31 = .ok (.iconst 0, 1) := by decide +kernel
theorem dX0_init_32 : decode cX0_init 32 = .ok (.aload_n 0, 1) := by decide +kernel
theorem dX0_init_33 : decode cX0_init 33 = .ok (.getfield 18, 3) := by decide +kernel
theorem dX0_init_36 : decode cX0_init 36 = .ok (.iconst 0, 1) := by decide +kernel
theorem dX0_init_37 : decode cX0_init 37 = .ok (.bipush 6, 2) := by decide +kernel
theorem dX0_init_39 : decode cX0_init 39 = .ok (.invokestatic 29, 3) := by decide +kernel
theorem dX0_init_42 : decode cX0_init 42 = .ok (.return_, 1) := by decide +kernel
theorem dX0_take_0 : decode cX0_take 0 = .ok (.aload_n 0, 1) := by decide +kernel
theorem dX0_take_1 : decode cX0_take 1 = .ok (.getfield 12, 3) := by decide +kernel
theorem dX0_take_4 : decode cX0_take 4 = .ok (.aload_n 1, 1) := by decide +kernel
theorem dX0_take_5 : decode cX0_take 5 = .ok (.invokevirtual 35, 3) := by decide +kernel
theorem dX0_take_8 : decode cX0_take 8 = .ok (.istore_n 2, 1) := by decide +kernel
theorem dX0_take_9 : decode cX0_take 9 = .ok (.aload_n 0, 1) := by decide +kernel
theorem dX0_take_10 : decode cX0_take 10 = .ok (.iload_n 2, 1) := by decide +kernel
theorem dX0_take_11 : decode cX0_take 11 = .ok (.ifCond .ne 7, 3) := by decide +kernel
theorem dX0_take_14 : decode cX0_take 14 = .ok (.iconst (-1), 1) := by decide +kernel
theorem dX0_take_15 : decode cX0_take 15 = .ok (.goto 10, 3) := by decide +kernel
theorem dX0_take_18 : decode cX0_take 18 = .ok (.aload_n 0, 1) := by decide +kernel
theorem dX0_take_19 : decode cX0_take 19 = .ok (.getfield 12, 3) := by decide +kernel
theorem dX0_take_22 : decode cX0_take 22 = .ok (.getfield 39, 3) := by decide +kernel
theorem dX0_take_25 : decode cX0_take 25 = .ok (.putfield 22, 3) := by decide +kernel
theorem dX0_take_28 : decode cX0_take 28 = .ok (.iload_n 2, 1) := by decide +kernel
theorem dX0_take_29 : decode cX0_take 29 = .ok (.ifCond .ne 21, 3) := by decide +kernel
theorem dX0_take_32 : decode cX0_take 32 = .ok (.aload_n 0, 1) := by decide +kernel
theorem dX0_take_33 : decode cX0_take 33 = .ok (.getfield 12, 3) := by decide +kernel
theorem dX0_take_36 : decode cX0_take 36 = .ok (.getfield 42, 3) := by decide +kernel
theorem dX0_take_39 : decode cX0_take 39 = .ok (.iconst 0, 1) := by decide +kernel
theorem dX0_take_40 : decode cX0_take 40 = .ok (.aload_n 0, 1) := by decide +kernel
theorem dX0_take_41 : decode cX0_take 41 = .ok (.getfield 18, 3) := by decide +kernel
theorem dX0_take_44 : decode cX0_take 44 = .ok (.iconst 0, 1) := by decide +kernel
theorem dX0_take_45 : decode cX0_take 45 = .ok (.bipush 6, 2) := by decide +kernel
theorem dX0_take_47 : decode cX0_take 47 = .ok (.invokestatic 29, 3) := by decide +kernel
theorem dX0_take_50 : decode cX0_take 50 = .ok (.iload_n 2, 1) := by decide +kernel
theorem dX0_take_51 : decode cX0_take 51 = .ok (.ireturn, 1) := by decide +kernel
theorem dX0_inForce_0 : decode cX0_inForce 0 = .ok (.iload_n 1, 1) := by decide +kernel
theorem dX0_inForce_1 : decode cX0_inForce 1 = .ok (.iconst 0, 1) := by decide +kernel
theorem dX0_inForce_2 : decode cX0_inForce 2 = .ok (.iconst 5, 1) := by decide +kernel
theorem dX0_inForce_3 : decode cX0_inForce 3 = .ok (.invokestatic 45, 3) := by decide +kernel
theorem dX0_inForce_6 : decode cX0_inForce 6 = .ok (.ifCond .eq 12, 3) := by decide +kernel
theorem dX0_inForce_9 : decode cX0_inForce 9 = .ok (.aload_n 0, 1) := by decide +kernel
theorem dX0_inForce_10 : decode cX0_inForce 10 = .ok (.getfield 18, 3) := by decide +kernel
theorem dX0_inForce_13 : decode cX0_inForce 13 = .ok (.iload_n 1, 1) := by decide +kernel
theorem dX0_inForce_14 : decode cX0_inForce 14 = .ok (.iaload, 1) := by decide +kernel
theorem dX0_inForce_15 : decode cX0_inForce 15 = .ok (.goto 4, 3) := by decide +kernel
theorem dX0_inForce_18 : decode cX0_inForce 18 = .ok (.iconst (-1), 1) := by decide +kernel
theorem dX0_inForce_19 : decode cX0_inForce 19 = .ok (.ireturn, 1) := by decide +kernel
theorem dX1_init_0 : decode cX1_init 0 = .ok (.aload_n 0, 1) := by decide +kernel
theorem dX1_init_1 : decode cX1_init 1 = .ok (.invokespecial 3, 3) := by decide +kernel
theorem dX1_init_4 : decode cX1_init 4 = .ok (.aload_n 0, 1) := by decide +kernel
theorem dX1_init_5 : decode cX1_init 5 = .ok (.bipush 6, 2) := by decide +kernel
theorem dX1_init_7 : decode cX1_init 7 = .ok (.newarray .int, 2) := by decide +kernel
theorem dX1_init_9 : decode cX1_init 9 = .ok (.putfield 9, 3) := by decide +kernel
theorem dX1_init_12 : decode cX1_init 12 = .ok (.aload_n 0, 1) := by decide +kernel
theorem dX1_init_13 : decode cX1_init 13 = .ok (.iconst 0, 1) := by decide +kernel
theorem dX1_init_14 : decode cX1_init 14 = .ok (.putfield 15, 3) := by decide +kernel
theorem dX1_init_17 : decode cX1_init 17 = .ok (.aload_n 0, 1) := by decide +kernel
theorem dX1_init_18 : decode cX1_init 18 = .ok (.iconst 0, 1) := by decide +kernel
theorem dX1_init_19 : decode cX1_init 19 = .ok (.putfield 19, 3) := by decide +kernel
theorem dX1_init_22 : decode cX1_init 22 = .ok (.aload_n 0, 1) := by decide +kernel
theorem dX1_init_23 : decode cX1_init 23 = .ok (.iconst 0, 1) := by decide +kernel
theorem dX1_init_24 : decode cX1_init 24 = .ok (.putfield 22, 3) := by decide +kernel
theorem dX1_init_27 : decode cX1_init 27 = .ok (.aload_n 0, 1) := by decide +kernel
theorem dX1_init_28 : decode cX1_init 28 = .ok (.iconst 0, 1) := by decide +kernel
theorem dX1_init_29 : decode cX1_init 29 = .ok (.putfield 25, 3) := by decide +kernel
theorem dX1_init_32 : decode cX1_init 32 = .ok (.return_, 1) := by decide +kernel
theorem dX1_read_0 : decode cX1_read 0 = .ok (.getstatic 28, 3) := by decide +kernel
theorem dX1_read_3 : decode cX1_read 3 = .ok (.iconst 0, 1) := by decide +kernel
theorem dX1_read_4 : decode cX1_read 4 = .ok (.aload_n 0, 1) := by decide +kernel
theorem dX1_read_5 : decode cX1_read 5 = .ok (.getfield 9, 3) := by decide +kernel
theorem dX1_read_8 : decode cX1_read 8 = .ok (.iconst 0, 1) := by decide +kernel
theorem dX1_read_9 : decode cX1_read 9 = .ok (.bipush 6, 2) := by decide +kernel
theorem dX1_read_11 : decode cX1_read 11 = .ok (.invokestatic 31, 3) := by decide +kernel
theorem dX1_read_14 : decode cX1_read 14 = .ok (.aload_n 0, 1) := by decide +kernel
theorem dX1_read_15 : decode cX1_read 15 = .ok (.iconst 0, 1) := by decide +kernel
theorem dX1_read_16 : decode cX1_read 16 = .ok (.putfield 22, 3) := by decide +kernel
theorem dX1_read_19 : decode cX1_read 19 = .ok (.aload_n 0, 1) := by decide +kernel
theorem dX1_read_20 : decode cX1_read 20 = .ok (.iconst 0, 1) := by decide +kernel
theorem dX1_read_21 : decode cX1_read 21 = .ok (.putfield 25, 3) := by decide +kernel
theorem dX1_read_24 : decode cX1_read 24 = .ok (.aload_n 0, 1) := by decide +kernel
theorem dX1_read_25 : decode cX1_read 25 = .ok (.aload_n 1, 1) := by decide +kernel
theorem dX1_read_26 : decode cX1_read 26 = .ok (.invokevirtual 37, 3) := by decide +kernel
theorem dX1_read_29 : decode cX1_read 29 = .ok (.iconst 0, 1) := by decide +kernel
theorem dX1_read_30 : decode cX1_read 30 = .ok (.istore_n 2, 1) := by decide +kernel
theorem dX1_read_31 : decode cX1_read 31 = .ok (.iload_n 2, 1) := by decide +kernel
theorem dX1_read_32 : decode cX1_read 32 = .ok (.sipush 300, 3) := by decide +kernel
theorem dX1_read_35 : decode cX1_read 35 = .ok (.if_icmp .ge 28, 3) := by decide +kernel
theorem dX1_read_38 : decode cX1_read 38 = .ok (.aload_n 0, 1) := by decide +kernel
theorem dX1_read_39 : decode cX1_read 39 = .ok (.getfield 25, 3) := by decide +kernel
theorem dX1_read_42 : decode cX1_read 42 = .ok (.ifCond .ne 21, 3) := by decide +kernel
theorem dX1_read_45 : decode cX1_read 45 = .ok (.aload_n 0, 1) := by decide +kernel
theorem dX1_read_46 : decode cX1_read 46 = .ok (.getfield 15, 3) := by decide +kernel
theorem dX1_read_49 : decode cX1_read 49 = .ok (.ifCond .eq 14, 3) := by decide +kernel
theorem dX1_read_52 : decode cX1_read 52 = .ok (.aload_n 0, 1) := by decide +kernel
theorem dX1_read_53 : decode cX1_read 53 = .ok (.aload_n 1, 1) := by decide +kernel
theorem dX1_read_54 : decode cX1_read 54 = .ok (.invokevirtual 41, 3) := by decide +kernel
theorem dX1_read_57 : decode cX1_read 57 = .ok (.iinc 2 1, 3) := by decide +kernel
theorem dX1_read_60 : decode cX1_read 60 = .ok (.goto (-29), 3) := by decide +kernel
theorem dX1_read_63 : decode cX1_read 63 = .ok (.aload_n 0, 1) := by decide +kernel
theorem dX1_read_64 : decode cX1_read 64 = .ok (.getfield 25, 3) := by decide +kernel
theorem dX1_read_67 : decode cX1_read 67 = .ok (.ireturn, 1) := by decide +kernel
theorem dX1_readLaw_0 : decode cX1_readLaw 0 = .ok (.aload_n 0, 1) := by decide +kernel
theorem dX1_readLaw_1 : decode cX1_readLaw 1 = .ok (.aload_n 1, 1) := by decide +kernel
theorem dX1_readLaw_2 : decode cX1_readLaw 2 = .ok (.invokevirtual 44, 3) := by decide +kernel
theorem dX1_readLaw_5 : decode cX1_readLaw 5 = .ok (.astore_n 2, 1) := by decide +kernel
theorem dX1_readLaw_6 : decode cX1_readLaw 6 = .ok (.aload_n 2, 1) := by decide +kernel
theorem dX1_readLaw_7 : decode cX1_readLaw 7 = .ok (.ifnonnull 9, 3) := by decide +kernel
theorem dX1_readLaw_10 : decode cX1_readLaw 10 = .ok (.aload_n 0, 1) := by decide +kernel
theorem dX1_readLaw_11 : decode cX1_readLaw 11 = .ok (.iconst 1, 1) := by decide +kernel
theorem dX1_readLaw_12 : decode cX1_readLaw 12 = .ok (.putfield 25, 3) := by decide +kernel
theorem dX1_readLaw_15 : decode cX1_readLaw 15 = .ok (.return_, 1) := by decide +kernel
theorem dX1_readLaw_16 : decode cX1_readLaw 16 = .ok (.aload_n 0, 1) := by decide +kernel
theorem dX1_readLaw_17 : decode cX1_readLaw 17 = .ok (.aload_n 1, 1) := by decide +kernel
theorem dX1_readLaw_18 : decode cX1_readLaw 18 = .ok (.invokevirtual 37, 3) := by decide +kernel
theorem dX1_readLaw_21 : decode cX1_readLaw 21 = .ok (.aload_n 2, 1) := by decide +kernel
theorem dX1_readLaw_22 : decode cX1_readLaw 22 = .ok (.getfield 48, 3) := by decide +kernel
theorem dX1_readLaw_25 : decode cX1_readLaw 25 = .ok (.ifCond .eq 19, 3) := by decide +kernel
theorem dX1_readLaw_28 : decode cX1_readLaw 28 = .ok (.aload_n 0, 1) := by decide +kernel
theorem dX1_readLaw_29 : decode cX1_readLaw 29 = .ok (.aload_n 1, 1) := by decide +kernel
theorem dX1_readLaw_30 : decode cX1_readLaw 30 = .ok (.aload_n 2, 1) := by decide +kernel
theorem dX1_readLaw_31 : decode cX1_readLaw 31 = .ok (.getfield 54, 3) := by decide +kernel
theorem dX1_readLaw_34 : decode cX1_readLaw 34 = .ok (.aload_n 2, 1) := by decide +kernel
theorem dX1_readLaw_35 : decode cX1_readLaw 35 = .ok (.getfield 57, 3) := by decide +kernel
theorem dX1_readLaw_38 : decode cX1_readLaw 38 = .ok (.invokevirtual 60, 3) := by decide +kernel
theorem dX1_readLaw_41 : decode cX1_readLaw 41 = .ok (.goto 7, 3) := by decide +kernel
theorem dX1_readLaw_44 : decode cX1_readLaw 44 = .ok (.aload_n 2, 1) := by decide +kernel
theorem dX1_readLaw_45 : decode cX1_readLaw 45 = .ok (.getfield 54, 3) := by decide +kernel
theorem dX1_readLaw_48 : decode cX1_readLaw 48 = .ok (.istore_n 3, 1) := by decide +kernel
theorem dX1_readLaw_49 : decode cX1_readLaw 49 = .ok (.aload_n 0, 1) := by decide +kernel
theorem dX1_readLaw_50 : decode cX1_readLaw 50 = .ok (.getfield 25, 3) := by decide +kernel
theorem dX1_readLaw_53 : decode cX1_readLaw 53 = .ok (.ifCond .ne 16, 3) := by decide +kernel
theorem dX1_readLaw_56 : decode cX1_readLaw 56 = .ok (.aload_n 0, 1) := by decide +kernel
theorem dX1_readLaw_57 : decode cX1_readLaw 57 = .ok (.getfield 15, 3) := by decide +kernel
theorem dX1_readLaw_60 : decode cX1_readLaw 60 = .ok (.iconst 3, 1) := by decide +kernel
theorem dX1_readLaw_61 : decode cX1_readLaw 61 = .ok (.if_icmp .eq 8, 3) := by decide +kernel
theorem dX1_readLaw_64 : decode cX1_readLaw 64 = .ok (.aload_n 0, 1) := by decide +kernel
theorem dX1_readLaw_65 : decode cX1_readLaw 65 = .ok (.iconst 1, 1) := by decide +kernel
theorem dX1_readLaw_66 : decode cX1_readLaw 66 = .ok (.putfield 25, 3) := by decide +kernel
theorem dX1_readLaw_69 : decode cX1_readLaw 69 = .ok (.aload_n 0, 1) := by decide +kernel
theorem dX1_readLaw_70 : decode cX1_readLaw 70 = .ok (.getfield 25, 3) := by decide +kernel
theorem dX1_readLaw_73 : decode cX1_readLaw 73 = .ok (.ifCond .ne 18, 3) := by decide +kernel
theorem dX1_readLaw_76 : decode cX1_readLaw 76 = .ok (.aload_n 0, 1) := by decide +kernel
theorem dX1_readLaw_77 : decode cX1_readLaw 77 = .ok (.getfield 9, 3) := by decide +kernel
theorem dX1_readLaw_80 : decode cX1_readLaw 80 = .ok (.aload_n 2, 1) := by decide +kernel
theorem dX1_readLaw_81 : decode cX1_readLaw 81 = .ok (.getfield 64, 3) := by decide +kernel
theorem dX1_readLaw_84 : decode cX1_readLaw 84 = .ok (.iload_n 3, 1) := by decide +kernel
theorem dX1_readLaw_85 : decode cX1_readLaw 85 = .ok (.iastore, 1) := by decide +kernel
theorem dX1_readLaw_86 : decode cX1_readLaw 86 = .ok (.aload_n 0, 1) := by decide +kernel
theorem dX1_readLaw_87 : decode cX1_readLaw 87 = .ok (.aload_n 1, 1) := by decide +kernel
theorem dX1_readLaw_88 : decode cX1_readLaw 88 = .ok (.invokevirtual 37, 3) := by decide +kernel
theorem dX1_readLaw_91 : decode cX1_readLaw 91 = .ok (.return_, 1) := by decide +kernel
theorem dX1_readNumber_0 : decode cX1_readNumber 0 = .ok (.aload_n 0, 1) := by decide +kernel
theorem dX1_readNumber_1 : decode cX1_readNumber 1 = .ok (.getfield 15, 3) := by decide +kernel
theorem dX1_readNumber_4 : decode cX1_readNumber 4 = .ok (.iconst 2, 1) := by decide +kernel
theorem dX1_readNumber_5 : decode cX1_readNumber 5 = .ok (.if_icmp .eq 10, 3) := by decide +kernel
theorem dX1_readNumber_8 : decode cX1_readNumber 8 = .ok (.aload_n 0, 1) := by decide +kernel
theorem dX1_readNumber_9 : decode cX1_readNumber 9 = .ok (.iconst 1, 1) := by decide +kernel
theorem dX1_readNumber_10 : decode cX1_readNumber 10 = .ok (.putfield 25, 3) := by decide +kernel
theorem dX1_readNumber_13 : decode cX1_readNumber 13 = .ok (.iconst (-1), 1) := by decide +kernel
theorem dX1_readNumber_14 : decode cX1_readNumber 14 = .ok (.ireturn, 1) := by decide +kernel
theorem dX1_readNumber_15 : decode cX1_readNumber 15 = .ok (.iconst 0, 1) := by decide +kernel
theorem dX1_readNumber_16 : decode cX1_readNumber 16 = .ok (.istore 4, 2) := by decide +kernel
theorem dX1_readNumber_18 : decode cX1_readNumber 18 = .ok (.aload_n 0, 1) := by decide +kernel
theorem dX1_readNumber_19 : decode cX1_readNumber 19 = .ok (.getfield 19, 3) := by decide +kernel
theorem dX1_readNumber_22 : decode cX1_readNumber 22 = .ok (.istore 5, 2) := by decide +kernel
theorem dX1_readNumber_24 : decode cX1_readNumber 24 = .ok (.iload 5, 2) := by decide +kernel
theorem dX1_readNumber_26 : decode cX1_readNumber 26 = .ok (.aload_n 0, 1) := by decide +kernel
theorem dX1_readNumber_27 : decode cX1_readNumber 27 = .ok (.getfield 22, 3) := by decide +kernel
theorem dX1_readNumber_30 : decode cX1_readNumber 30 = .ok (.if_icmp .ge 26, 3) := by decide +kernel
theorem dX1_readNumber_33 : decode cX1_readNumber 33 = .ok (.iload 4, 2) := by decide +kernel
theorem dX1_readNumber_35 : decode cX1_readNumber 35 = .ok (.bipush 10, 2) := by decide +kernel
theorem dX1_readNumber_37 : decode cX1_readNumber 37 = .ok (.imul, 1) := by decide +kernel
theorem dX1_readNumber_38 : decode cX1_readNumber 38 = .ok (.aload_n 1, 1) := by decide +kernel
theorem dX1_readNumber_39 : decode cX1_readNumber 39 = .ok (.iload 5, 2) := by decide +kernel
theorem dX1_readNumber_41 : decode cX1_readNumber 41 = .ok (.invokevirtual 67, 3) := by decide +kernel
theorem dX1_readNumber_44 : decode cX1_readNumber 44 = .ok (.iadd, 1) := by decide +kernel
theorem dX1_readNumber_45 : decode cX1_readNumber 45 = .ok (.bipush 48, 2) := by decide +kernel
theorem dX1_readNumber_47 : decode cX1_readNumber 47 = .ok (.isub, 1) := by decide +kernel
theorem dX1_readNumber_48 : decode cX1_readNumber 48 = .ok (.istore 4, 2) := by decide +kernel
theorem dX1_readNumber_50 : decode cX1_readNumber 50 = .ok (.iinc 5 1, 3) := by decide +kernel
theorem dX1_readNumber_53 : decode cX1_readNumber 53 = .ok (.goto (-29), 3) := by decide +kernel
theorem dX1_readNumber_56 : decode cX1_readNumber 56 = .ok (.iload 4, 2) := by decide +kernel
theorem dX1_readNumber_58 : decode cX1_readNumber 58 = .ok (.iload_n 2, 1) := by decide +kernel
theorem dX1_readNumber_59 : decode cX1_readNumber 59 = .ok (.iload_n 3, 1) := by decide +kernel
theorem dX1_readNumber_60 : decode cX1_readNumber 60 = .ok (.invokestatic 73, 3) := by decide +kernel
theorem dX1_readNumber_63 : decode cX1_readNumber 63 = .ok (.ifCond .ne 10, 3) := by decide +kernel
theorem dX1_readNumber_66 : decode cX1_readNumber 66 = .ok (.aload_n 0, 1) := by decide +kernel
theorem dX1_readNumber_67 : decode cX1_readNumber 67 = .ok (.iconst 2, 1) := by decide +kernel
theorem dX1_readNumber_68 : decode cX1_readNumber 68 = .ok (.putfield 25, 3) := by decide +kernel
theorem dX1_readNumber_71 : decode cX1_readNumber 71 = .ok (.iconst (-1), 1) := by decide +kernel
theorem dX1_readNumber_72 : decode cX1_readNumber 72 = .ok (.ireturn, 1) := by decide +kernel
theorem dX1_readNumber_73 : decode cX1_readNumber 73 = .ok (.aload_n 0, 1) := by decide +kernel
theorem dX1_readNumber_74 : decode cX1_readNumber 74 = .ok (.aload_n 1, 1) := by decide +kernel
theorem dX1_readNumber_75 : decode cX1_readNumber 75 = .ok (.invokevirtual 37, 3) := by decide +kernel
theorem dX1_readNumber_78 : decode cX1_readNumber 78 = .ok (.iload 4, 2) := by decide +kernel
theorem dX1_readNumber_80 : decode cX1_readNumber 80 = .ok (.ireturn, 1) := by decide +kernel
theorem dX1_wordAtHand_0 : decode cX1_wordAtHand 0 = .ok (.aload_n 0, 1) := by decide +kernel
theorem dX1_wordAtHand_1 : decode cX1_wordAtHand 1 = .ok (.getfield 15, 3) := by decide +kernel
theorem dX1_wordAtHand_4 : decode cX1_wordAtHand 4 = .ok (.iconst 1, 1) := by decide +kernel
theorem dX1_wordAtHand_5 : decode cX1_wordAtHand 5 = .ok (.if_icmp .ne 41, 3) := by decide +kernel
theorem dX1_wordAtHand_8 : decode cX1_wordAtHand 8 = .ok (.iconst 0, 1) := by decide +kernel
theorem dX1_wordAtHand_9 : decode cX1_wordAtHand 9 = .ok (.istore_n 2, 1) := by decide +kernel
theorem dX1_wordAtHand_10 : decode cX1_wordAtHand 10 = .ok (.iload_n 2, 1) := by decide +kernel
theorem dX1_wordAtHand_11 : decode cX1_wordAtHand 11 = .ok (.getstatic 77, 3) := by decide +kernel
theorem dX1_wordAtHand_14 : decode cX1_wordAtHand 14 = .ok (.arraylength, 1) := by decide +kernel
theorem dX1_wordAtHand_15 : decode cX1_wordAtHand 15 = .ok (.if_icmp .ge 31, 3) := by decide +kernel
theorem dX1_wordAtHand_18 : decode cX1_wordAtHand 18 = .ok (.aload_n 0, 1) := by decide +kernel
theorem dX1_wordAtHand_19 : decode cX1_wordAtHand 19 = .ok (.aload_n 1, 1) := by decide +kernel
theorem dX1_wordAtHand_20 : decode cX1_wordAtHand 20 = .ok (.getstatic 77, 3) := by decide +kernel
theorem dX1_wordAtHand_23 : decode cX1_wordAtHand 23 = .ok (.iload_n 2, 1) := by decide +kernel
theorem dX1_wordAtHand_24 : decode cX1_wordAtHand 24 = .ok (.aaload, 1) := by decide +kernel
theorem dX1_wordAtHand_25 : decode cX1_wordAtHand 25 = .ok (.getfield 81, 3) := by decide +kernel
theorem dX1_wordAtHand_28 : decode cX1_wordAtHand 28 = .ok (.invokevirtual 85, 3) := by decide +kernel
theorem dX1_wordAtHand_31 : decode cX1_wordAtHand 31 = .ok (.ifCond .eq 9, 3) := by decide +kernel
theorem dX1_wordAtHand_34 : decode cX1_wordAtHand 34 = .ok (.getstatic 77, 3) := by decide +kernel
theorem dX1_wordAtHand_37 : decode cX1_wordAtHand 37 = .ok (.iload_n 2, 1) := by decide +kernel
theorem dX1_wordAtHand_38 : decode cX1_wordAtHand 38 = .ok (.aaload, 1) := by decide +kernel
theorem dX1_wordAtHand_39 : decode cX1_wordAtHand 39 = .ok (.areturn, 1) := by decide +kernel
theorem dX1_wordAtHand_40 : decode cX1_wordAtHand 40 = .ok (.iinc 2 1, 3) := by decide +kernel
theorem dX1_wordAtHand_43 : decode cX1_wordAtHand 43 = .ok (.goto (-33), 3) := by decide +kernel
theorem dX1_wordAtHand_46 : decode cX1_wordAtHand 46 = .ok (.aconst_null, 1) := by decide +kernel
theorem dX1_wordAtHand_47 : decode cX1_wordAtHand 47 = .ok (.areturn, 1) := by decide +kernel
theorem dX1_spells_0 : decode cX1_spells 0 = .ok (.aload_n 0, 1) := by decide +kernel
theorem dX1_spells_1 : decode cX1_spells 1 = .ok (.getfield 22, 3) := by decide +kernel
theorem dX1_spells_4 : decode cX1_spells 4 = .ok (.aload_n 0, 1) := by decide +kernel
theorem dX1_spells_5 : decode cX1_spells 5 = .ok (.getfield 19, 3) := by decide +kernel
theorem dX1_spells_8 : decode cX1_spells 8 = .ok (.isub, 1) := by decide +kernel
theorem dX1_spells_9 : decode cX1_spells 9 = .ok (.aload_n 2, 1) := by decide +kernel
theorem dX1_spells_10 : decode cX1_spells 10 = .ok (.invokevirtual 89, 3) := by decide +kernel
theorem dX1_spells_13 : decode cX1_spells 13 = .ok (.if_icmp .eq 5, 3) := by decide +kernel
theorem dX1_spells_16 : decode cX1_spells 16 = .ok (.iconst 0, 1) := by decide +kernel
theorem dX1_spells_17 : decode cX1_spells 17 = .ok (.ireturn, 1) := by decide +kernel
theorem dX1_spells_18 : decode cX1_spells 18 = .ok (.iconst 0, 1) := by decide +kernel
theorem dX1_spells_19 : decode cX1_spells 19 = .ok (.istore_n 3, 1) := by decide +kernel
theorem dX1_spells_20 : decode cX1_spells 20 = .ok (.iload_n 3, 1) := by decide +kernel
theorem dX1_spells_21 : decode cX1_spells 21 = .ok (.aload_n 2, 1) := by decide +kernel
theorem dX1_spells_22 : decode cX1_spells 22 = .ok (.invokevirtual 89, 3) := by decide +kernel
theorem dX1_spells_25 : decode cX1_spells 25 = .ok (.if_icmp .ge 29, 3) := by decide +kernel
theorem dX1_spells_28 : decode cX1_spells 28 = .ok (.aload_n 1, 1) := by decide +kernel
theorem dX1_spells_29 : decode cX1_spells 29 = .ok (.aload_n 0, 1) := by decide +kernel
theorem dX1_spells_30 : decode cX1_spells 30 = .ok (.getfield 19, 3) := by decide +kernel
theorem dX1_spells_33 : decode cX1_spells 33 = .ok (.iload_n 3, 1) := by decide +kernel
theorem dX1_spells_34 : decode cX1_spells 34 = .ok (.iadd, 1) := by decide +kernel
theorem dX1_spells_35 : decode cX1_spells 35 = .ok (.invokevirtual 67, 3) := by decide +kernel
theorem dX1_spells_38 : decode cX1_spells 38 = .ok (.aload_n 2, 1) := by decide +kernel
theorem dX1_spells_39 : decode cX1_spells 39 = .ok (.iload_n 3, 1) := by decide +kernel
theorem dX1_spells_40 : decode cX1_spells 40 = .ok (.invokevirtual 95, 3) := by decide +kernel
theorem dX1_spells_43 : decode cX1_spells 43 = .ok (.if_icmp .eq 5, 3) := by decide +kernel
theorem dX1_spells_46 : decode cX1_spells 46 = .ok (.iconst 0, 1) := by decide +kernel
theorem dX1_spells_47 : decode cX1_spells 47 = .ok (.ireturn, 1) := by decide +kernel
theorem dX1_spells_48 : decode cX1_spells 48 = .ok (.iinc 3 1, 3) := by decide +kernel
theorem dX1_spells_51 : decode cX1_spells 51 = .ok (.goto (-31), 3) := by decide +kernel
theorem dX1_spells_54 : decode cX1_spells 54 = .ok (.iconst 1, 1) := by decide +kernel
theorem dX1_spells_55 : decode cX1_spells 55 = .ok (.ireturn, 1) := by decide +kernel
theorem dX1_advance_0 : decode cX1_advance 0 = .ok (.aload_n 0, 1) := by decide +kernel
theorem dX1_advance_1 : decode cX1_advance 1 = .ok (.aload_n 0, 1) := by decide +kernel
theorem dX1_advance_2 : decode cX1_advance 2 = .ok (.getfield 22, 3) := by decide +kernel
theorem dX1_advance_5 : decode cX1_advance 5 = .ok (.putfield 19, 3) := by decide +kernel
theorem dX1_advance_8 : decode cX1_advance 8 = .ok (.aload_n 0, 1) := by decide +kernel
theorem dX1_advance_9 : decode cX1_advance 9 = .ok (.getfield 19, 3) := by decide +kernel
theorem dX1_advance_12 : decode cX1_advance 12 = .ok (.aload_n 1, 1) := by decide +kernel
theorem dX1_advance_13 : decode cX1_advance 13 = .ok (.getfield 99, 3) := by decide +kernel
theorem dX1_advance_16 : decode cX1_advance 16 = .ok (.if_icmp .ge 30, 3) := by decide +kernel
theorem dX1_advance_19 : decode cX1_advance 19 = .ok (.aload_n 1, 1) := by decide +kernel
theorem dX1_advance_20 : decode cX1_advance 20 = .ok (.aload_n 0, 1) := by decide +kernel
theorem dX1_advance_21 : decode cX1_advance 21 = .ok (.getfield 19, 3) := by decide +kernel
theorem dX1_advance_24 : decode cX1_advance 24 = .ok (.invokevirtual 67, 3) := by decide +kernel
theorem dX1_advance_27 : decode cX1_advance 27 = .ok (.invokestatic 102, 3) := by decide +kernel
theorem dX1_advance_30 : decode cX1_advance 30 = .ok (.ifCond .eq 16, 3) := by decide +kernel
theorem dX1_advance_33 : decode cX1_advance 33 = .ok (.aload_n 0, 1) := by decide +kernel
theorem dX1_advance_34 : decode cX1_advance 34 = .ok (.dup, 1) := by decide +kernel
theorem dX1_advance_35 : decode cX1_advance 35 = .ok (.getfield 19, 3) := by decide +kernel
theorem dX1_advance_38 : decode cX1_advance 38 = .ok (.iconst 1, 1) := by decide +kernel
theorem dX1_advance_39 : decode cX1_advance 39 = .ok (.iadd, 1) := by decide +kernel
theorem dX1_advance_40 : decode cX1_advance 40 = .ok (.putfield 19, 3) := by decide +kernel
theorem dX1_advance_43 : decode cX1_advance 43 = .ok (.goto (-35), 3) := by decide +kernel
theorem dX1_advance_46 : decode cX1_advance 46 = .ok (.aload_n 1, 1) := by decide +kernel
theorem dX1_advance_47 : decode cX1_advance 47 = .ok (.aload_n 0, 1) := by decide +kernel
theorem dX1_advance_48 : decode cX1_advance 48 = .ok (.getfield 19, 3) := by decide +kernel
theorem dX1_advance_51 : decode cX1_advance 51 = .ok (.invokevirtual 67, 3) := by decide +kernel
theorem dX1_advance_54 : decode cX1_advance 54 = .ok (.istore_n 2, 1) := by decide +kernel
theorem dX1_advance_55 : decode cX1_advance 55 = .ok (.aload_n 0, 1) := by decide +kernel
theorem dX1_advance_56 : decode cX1_advance 56 = .ok (.aload_n 0, 1) := by decide +kernel
theorem dX1_advance_57 : decode cX1_advance 57 = .ok (.getfield 19, 3) := by decide +kernel
theorem dX1_advance_60 : decode cX1_advance 60 = .ok (.iconst 1, 1) := by decide +kernel
theorem dX1_advance_61 : decode cX1_advance 61 = .ok (.iadd, 1) := by decide +kernel
theorem dX1_advance_62 : decode cX1_advance 62 = .ok (.putfield 22, 3) := by decide +kernel
theorem dX1_advance_65 : decode cX1_advance 65 = .ok (.iload_n 2, 1) := by decide +kernel
theorem dX1_advance_66 : decode cX1_advance 66 = .ok (.iconst (-1), 1) := by decide +kernel
theorem dX1_advance_67 : decode cX1_advance 67 = .ok (.if_icmp .ne 19, 3) := by decide +kernel
theorem dX1_advance_70 : decode cX1_advance 70 = .ok (.aload_n 0, 1) := by decide +kernel
theorem dX1_advance_71 : decode cX1_advance 71 = .ok (.iconst 0, 1) := by decide +kernel
theorem dX1_advance_72 : decode cX1_advance 72 = .ok (.putfield 15, 3) := by decide +kernel
theorem dX1_advance_75 : decode cX1_advance 75 = .ok (.aload_n 0, 1) := by decide +kernel
theorem dX1_advance_76 : decode cX1_advance 76 = .ok (.aload_n 0, 1) := by decide +kernel
theorem dX1_advance_77 : decode cX1_advance 77 = .ok (.getfield 19, 3) := by decide +kernel
theorem dX1_advance_80 : decode cX1_advance 80 = .ok (.putfield 22, 3) := by decide +kernel
theorem dX1_advance_83 : decode cX1_advance 83 = .ok (.goto 138, 3) := by decide +kernel
theorem dX1_advance_86 : decode cX1_advance 86 = .ok (.iload_n 2, 1) := by decide +kernel
theorem dX1_advance_87 : decode cX1_advance 87 = .ok (.invokestatic 106, 3) := by decide +kernel
theorem dX1_advance_90 : decode cX1_advance 90 = .ok (.ifCond .eq 46, 3) := by decide +kernel
theorem dX1_advance_93 : decode cX1_advance 93 = .ok (.aload_n 0, 1) := by decide +kernel
theorem dX1_advance_94 : decode cX1_advance 94 = .ok (.iconst 1, 1) := by decide +kernel
theorem dX1_advance_95 : decode cX1_advance 95 = .ok (.putfield 15, 3) := by decide +kernel
theorem dX1_advance_98 : decode cX1_advance 98 = .ok (.aload_n 0, 1) := by decide +kernel
theorem dX1_advance_99 : decode cX1_advance 99 = .ok (.getfield 22, 3) := by decide +kernel
theorem dX1_advance_102 : decode cX1_advance 102 = .ok (.aload_n 1, 1) := by decide +kernel
theorem dX1_advance_103 : decode cX1_advance 103 = .ok (.getfield 99, 3) := by decide +kernel
theorem dX1_advance_106 : decode cX1_advance 106 = .ok (.if_icmp .ge 115, 3) := by decide +kernel
theorem dX1_advance_109 : decode cX1_advance 109 = .ok (.aload_n 1, 1) := by decide +kernel
theorem dX1_advance_110 : decode cX1_advance 110 = .ok (.aload_n 0, 1) := by decide +kernel
theorem dX1_advance_111 : decode cX1_advance 111 = .ok (.getfield 22, 3) := by decide +kernel
theorem dX1_advance_114 : decode cX1_advance 114 = .ok (.invokevirtual 67, 3) := by decide +kernel
theorem dX1_advance_117 : decode cX1_advance 117 = .ok (.invokestatic 106, 3) := by decide +kernel
theorem dX1_advance_120 : decode cX1_advance 120 = .ok (.ifCond .eq 101, 3) := by decide +kernel
theorem dX1_advance_123 : decode cX1_advance 123 = .ok (.aload_n 0, 1) := by decide +kernel
theorem dX1_advance_124 : decode cX1_advance 124 = .ok (.dup, 1) := by decide +kernel
theorem dX1_advance_125 : decode cX1_advance 125 = .ok (.getfield 22, 3) := by decide +kernel
theorem dX1_advance_128 : decode cX1_advance 128 = .ok (.iconst 1, 1) := by decide +kernel
theorem dX1_advance_129 : decode cX1_advance 129 = .ok (.iadd, 1) := by decide +kernel
theorem dX1_advance_130 : decode cX1_advance 130 = .ok (.putfield 22, 3) := by decide +kernel
theorem dX1_advance_133 : decode cX1_advance 133 = .ok (.goto (-35), 3) := by decide +kernel
theorem dX1_advance_136 : decode cX1_advance 136 = .ok (.iload_n 2, 1) := by decide +kernel
theorem dX1_advance_137 : decode cX1_advance 137 = .ok (.invokestatic 109, 3) := by decide +kernel
theorem dX1_advance_140 : decode cX1_advance 140 = .ok (.ifCond .eq 66, 3) := by decide +kernel
theorem dX1_advance_143 : decode cX1_advance 143 = .ok (.aload_n 0, 1) := by decide +kernel
theorem dX1_advance_144 : decode cX1_advance 144 = .ok (.getfield 22, 3) := by decide +kernel
theorem dX1_advance_147 : decode cX1_advance 147 = .ok (.aload_n 1, 1) := by decide +kernel
theorem dX1_advance_148 : decode cX1_advance 148 = .ok (.getfield 99, 3) := by decide +kernel
theorem dX1_advance_151 : decode cX1_advance 151 = .ok (.if_icmp .ge 30, 3) := by decide +kernel
theorem dX1_advance_154 : decode cX1_advance 154 = .ok (.aload_n 1, 1) := by decide +kernel
theorem dX1_advance_155 : decode cX1_advance 155 = .ok (.aload_n 0, 1) := by decide +kernel
theorem dX1_advance_156 : decode cX1_advance 156 = .ok (.getfield 22, 3) := by decide +kernel
theorem dX1_advance_159 : decode cX1_advance 159 = .ok (.invokevirtual 67, 3) := by decide +kernel
theorem dX1_advance_162 : decode cX1_advance 162 = .ok (.invokestatic 109, 3) := by decide +kernel
theorem dX1_advance_165 : decode cX1_advance 165 = .ok (.ifCond .eq 16, 3) := by decide +kernel
theorem dX1_advance_168 : decode cX1_advance 168 = .ok (.aload_n 0, 1) := by decide +kernel
theorem dX1_advance_169 : decode cX1_advance 169 = .ok (.dup, 1) := by decide +kernel
theorem dX1_advance_170 : decode cX1_advance 170 = .ok (.getfield 22, 3) := by decide +kernel
theorem dX1_advance_173 : decode cX1_advance 173 = .ok (.iconst 1, 1) := by decide +kernel
theorem dX1_advance_174 : decode cX1_advance 174 = .ok (.iadd, 1) := by decide +kernel
theorem dX1_advance_175 : decode cX1_advance 175 = .ok (.putfield 22, 3) := by decide +kernel
theorem dX1_advance_178 : decode cX1_advance 178 = .ok (.goto (-35), 3) := by decide +kernel
theorem dX1_advance_181 : decode cX1_advance 181 = .ok (.aload_n 0, 1) := by decide +kernel
theorem dX1_advance_182 : decode cX1_advance 182 = .ok (.aload_n 0, 1) := by decide +kernel
theorem dX1_advance_183 : decode cX1_advance 183 = .ok (.getfield 22, 3) := by decide +kernel
theorem dX1_advance_186 : decode cX1_advance 186 = .ok (.aload_n 0, 1) := by decide +kernel
theorem dX1_advance_187 : decode cX1_advance 187 = .ok (.getfield 19, 3) := by decide +kernel
theorem dX1_advance_190 : decode cX1_advance 190 = .ok (.isub, 1) := by decide +kernel
theorem dX1_advance_191 : decode cX1_advance 191 = .ok (.iconst 4, 1) := by decide +kernel
theorem dX1_advance_192 : decode cX1_advance 192 = .ok (.if_icmp .gt 7, 3) := by decide +kernel
theorem dX1_advance_195 : decode cX1_advance 195 = .ok (.iconst 2, 1) := by decide +kernel
theorem dX1_advance_196 : decode cX1_advance 196 = .ok (.goto 4, 3) := by decide +kernel
theorem dX1_advance_199 : decode cX1_advance 199 = .ok (.iconst 4, 1) := by decide +kernel
theorem dX1_advance_200 : decode cX1_advance 200 = .ok (.putfield 15, 3) := by decide +kernel
theorem dX1_advance_203 : decode cX1_advance 203 = .ok (.goto 18, 3) := by decide +kernel
theorem dX1_advance_206 : decode cX1_advance 206 = .ok (.aload_n 0, 1) := by decide +kernel
theorem dX1_advance_207 : decode cX1_advance 207 = .ok (.iload_n 2, 1) := by decide +kernel
theorem dX1_advance_208 : decode cX1_advance 208 = .ok (.bipush 59, 2) := by decide +kernel
theorem dX1_advance_210 : decode cX1_advance 210 = .ok (.if_icmp .ne 7, 3) := by decide +kernel
theorem dX1_advance_213 : decode cX1_advance 213 = .ok (.iconst 3, 1) := by decide +kernel
theorem dX1_advance_214 : decode cX1_advance 214 = .ok (.goto 4, 3) := by decide +kernel
theorem dX1_advance_217 : decode cX1_advance 217 = .ok (.iconst 4, 1) := by decide +kernel
theorem dX1_advance_218 : decode cX1_advance 218 = .ok (.putfield 15, 3) := by decide +kernel
theorem dX1_advance_221 : decode cX1_advance 221 = .ok (.return_, 1) := by decide +kernel
theorem dX1_isBlank_0 : decode cX1_isBlank 0 = .ok (.iload_n 0, 1) := by decide +kernel
theorem dX1_isBlank_1 : decode cX1_isBlank 1 = .ok (.bipush 32, 2) := by decide +kernel
theorem dX1_isBlank_3 : decode cX1_isBlank 3 = .ok (.if_icmp .eq 9, 3) := by decide +kernel
theorem dX1_isBlank_6 : decode cX1_isBlank 6 = .ok (.iload_n 0, 1) := by decide +kernel
theorem dX1_isBlank_7 : decode cX1_isBlank 7 = .ok (.bipush 10, 2) := by decide +kernel
theorem dX1_isBlank_9 : decode cX1_isBlank 9 = .ok (.if_icmp .ne 7, 3) := by decide +kernel
theorem dX1_isBlank_12 : decode cX1_isBlank 12 = .ok (.iconst 1, 1) := by decide +kernel
theorem dX1_isBlank_13 : decode cX1_isBlank 13 = .ok (.goto 4, 3) := by decide +kernel
theorem dX1_isBlank_16 : decode cX1_isBlank 16 = .ok (.iconst 0, 1) := by decide +kernel
theorem dX1_isBlank_17 : decode cX1_isBlank 17 = .ok (.ireturn, 1) := by decide +kernel
theorem dX1_isLetter_0 : decode cX1_isLetter 0 = .ok (.iload_n 0, 1) := by decide +kernel
theorem dX1_isLetter_1 : decode cX1_isLetter 1 = .ok (.bipush 97, 2) := by decide +kernel
theorem dX1_isLetter_3 : decode cX1_isLetter 3 = .ok (.if_icmp .lt 13, 3) := by decide +kernel
theorem dX1_isLetter_6 : decode cX1_isLetter 6 = .ok (.iload_n 0, 1) := by decide +kernel
theorem dX1_isLetter_7 : decode cX1_isLetter 7 = .ok (.bipush 122, 2) := by decide +kernel
theorem dX1_isLetter_9 : decode cX1_isLetter 9 = .ok (.if_icmp .gt 7, 3) := by decide +kernel
theorem dX1_isLetter_12 : decode cX1_isLetter 12 = .ok (.iconst 1, 1) := by decide +kernel
theorem dX1_isLetter_13 : decode cX1_isLetter 13 = .ok (.goto 4, 3) := by decide +kernel
theorem dX1_isLetter_16 : decode cX1_isLetter 16 = .ok (.iconst 0, 1) := by decide +kernel
theorem dX1_isLetter_17 : decode cX1_isLetter 17 = .ok (.ireturn, 1) := by decide +kernel
theorem dX1_isDigit_0 : decode cX1_isDigit 0 = .ok (.iload_n 0, 1) := by decide +kernel
theorem dX1_isDigit_1 : decode cX1_isDigit 1 = .ok (.bipush 48, 2) := by decide +kernel
theorem dX1_isDigit_3 : decode cX1_isDigit 3 = .ok (.if_icmp .lt 13, 3) := by decide +kernel
theorem dX1_isDigit_6 : decode cX1_isDigit 6 = .ok (.iload_n 0, 1) := by decide +kernel
theorem dX1_isDigit_7 : decode cX1_isDigit 7 = .ok (.bipush 57, 2) := by decide +kernel
theorem dX1_isDigit_9 : decode cX1_isDigit 9 = .ok (.if_icmp .gt 7, 3) := by decide +kernel
theorem dX1_isDigit_12 : decode cX1_isDigit 12 = .ok (.iconst 1, 1) := by decide +kernel
theorem dX1_isDigit_13 : decode cX1_isDigit 13 = .ok (.goto 4, 3) := by decide +kernel
theorem dX1_isDigit_16 : decode cX1_isDigit 16 = .ok (.iconst 0, 1) := by decide +kernel
theorem dX1_isDigit_17 : decode cX1_isDigit 17 = .ok (.ireturn, 1) := by decide +kernel
theorem dX2_init_0 : decode cX2_init 0 = .ok (.aload_n 0, 1) := by decide +kernel
theorem dX2_init_1 : decode cX2_init 1 = .ok (.invokespecial 3, 3) := by decide +kernel
theorem dX2_init_4 : decode cX2_init 4 = .ok (.aload_n 0, 1) := by decide +kernel
theorem dX2_init_5 : decode cX2_init 5 = .ok (.bipush 16, 2) := by decide +kernel
theorem dX2_init_7 : decode cX2_init 7 = .ok (.newarray .int, 2) := by decide +kernel
theorem dX2_init_9 : decode cX2_init 9 = .ok (.putfield 9, 3) := by decide +kernel
theorem dX2_init_12 : decode cX2_init 12 = .ok (.aload_n 0, 1) := by decide +kernel
theorem dX2_init_13 : decode cX2_init 13 = .ok (.bipush 16, 2) := by decide +kernel
theorem dX2_init_15 : decode cX2_init 15 = .ok (.newarray .int, 2) := by decide +kernel
theorem dX2_init_17 : decode cX2_init 17 = .ok (.putfield 15, 3) := by decide +kernel
theorem dX2_init_20 : decode cX2_init 20 = .ok (.aload_n 0, 1) := by decide +kernel
theorem dX2_init_21 : decode cX2_init 21 = .ok (.bipush 16, 2) := by decide +kernel
theorem dX2_init_23 : decode cX2_init 23 = .ok (.newarray .boolean, 2) := by decide +kernel
theorem dX2_init_25 : decode cX2_init 25 = .ok (.putfield 18, 3) := by decide +kernel
theorem dX2_init_28 : decode cX2_init 28 = .ok (.aload_n 0, 1) := by decide +kernel
theorem dX2_init_29 : decode cX2_init 29 = .ok (.bipush 16, 2) := by decide +kernel
theorem dX2_init_31 : decode cX2_init 31 = .ok (.newarray .int, 2) := by decide +kernel
theorem dX2_init_33 : decode cX2_init 33 = .ok (.putfield 22, 3) := by decide +kernel
theorem dX2_init_36 : decode cX2_init 36 = .ok (.aload_n 0, 1) := by decide +kernel
theorem dX2_init_37 : decode cX2_init 37 = .ok (.iconst 4, 1) := by decide +kernel
theorem dX2_init_38 : decode cX2_init 38 = .ok (.newarray .int, 2) := by decide +kernel
theorem dX2_init_40 : decode cX2_init 40 = .ok (.putfield 25, 3) := by decide +kernel
theorem dX2_init_43 : decode cX2_init 43 = .ok (.aload_n 0, 1) := by decide +kernel
theorem dX2_init_44 : decode cX2_init 44 = .ok (.new 28, 3) := by decide +kernel
theorem dX2_init_47 : decode cX2_init 47 = .ok (.dup, 1) := by decide +kernel
theorem dX2_init_48 : decode cX2_init 48 = .ok (.invokespecial 30, 3) := by decide +kernel
theorem dX2_init_51 : decode cX2_init 51 = .ok (.putfield 31, 3) := by decide +kernel
theorem dX2_init_54 : decode cX2_init 54 = .ok (.aload_n 0, 1) := by decide +kernel
theorem dX2_init_55 : decode cX2_init 55 = .ok (.invokevirtual 35, 3) := by decide +kernel
theorem dX2_init_58 : decode cX2_init 58 = .ok (.return_, 1) := by decide +kernel
theorem dX2_forget_0 : decode cX2_forget 0 = .ok (.aload_n 0, 1) := by decide +kernel
theorem dX2_forget_1 : decode cX2_forget 1 = .ok (.iconst 0, 1) := by decide +kernel
theorem dX2_forget_2 : decode cX2_forget 2 = .ok (.putfield 38, 3) := by decide +kernel
theorem dX2_forget_5 : decode cX2_forget 5 = .ok (.aload_n 0, 1) := by decide +kernel
theorem dX2_forget_6 : decode cX2_forget 6 = .ok (.iconst 0, 1) := by decide +kernel
theorem dX2_forget_7 : decode cX2_forget 7 = .ok (.putfield 42, 3) := by decide +kernel
theorem dX2_forget_10 : decode cX2_forget 10 = .ok (.aload_n 0, 1) := by decide +kernel
theorem dX2_forget_11 : decode cX2_forget 11 = .ok (.iconst (-1), 1) := by decide +kernel
theorem dX2_forget_12 : decode cX2_forget 12 = .ok (.putfield 46, 3) := by decide +kernel
theorem dX2_forget_15 : decode cX2_forget 15 = .ok (.aload_n 0, 1) := by decide +kernel
theorem dX2_forget_16 : decode cX2_forget 16 = .ok (.iconst 0, 1) := by decide +kernel
theorem dX2_forget_17 : decode cX2_forget 17 = .ok (.putfield 49, 3) := by decide +kernel
theorem dX2_forget_20 : decode cX2_forget 20 = .ok (.aload_n 0, 1) := by decide +kernel
theorem dX2_forget_21 : decode cX2_forget 21 = .ok (.iconst 0, 1) := by decide +kernel
theorem dX2_forget_22 : decode cX2_forget 22 = .ok (.putfield 52, 3) := by decide +kernel
theorem dX2_forget_25 : decode cX2_forget 25 = .ok (.aload_n 0, 1) := by decide +kernel
theorem dX2_forget_26 : decode cX2_forget 26 = .ok (.iconst 0, 1) := by decide +kernel
theorem dX2_forget_27 : decode cX2_forget 27 = .ok (.putfield 55, 3) := by decide +kernel
theorem dX2_forget_30 : decode cX2_forget 30 = .ok (.aload_n 0, 1) := by decide +kernel
theorem dX2_forget_31 : decode cX2_forget 31 = .ok (.iconst 0, 1) := by decide +kernel
theorem dX2_forget_32 : decode cX2_forget 32 = .ok (.putfield 58, 3) := by decide +kernel
theorem dX2_forget_35 : decode cX2_forget 35 = .ok (.aload_n 0, 1) := by decide +kernel
theorem dX2_forget_36 : decode cX2_forget 36 = .ok (.iconst 0, 1) := by decide +kernel
theorem dX2_forget_37 : decode cX2_forget 37 = .ok (.putfield 61, 3) := by decide +kernel
theorem dX2_forget_40 : decode cX2_forget 40 = .ok (.iconst 0, 1) := by decide +kernel
theorem dX2_forget_41 : decode cX2_forget 41 = .ok (.istore_n 1, 1) := by decide +kernel
theorem dX2_forget_42 : decode cX2_forget 42 = .ok (.iload_n 1, 1) := by decide +kernel
theorem dX2_forget_43 : decode cX2_forget 43 = .ok (.bipush 16, 2) := by decide +kernel
theorem dX2_forget_45 : decode cX2_forget 45 = .ok (.if_icmp .ge 23, 3) := by decide +kernel
theorem dX2_forget_48 : decode cX2_forget 48 = .ok (.aload_n 0, 1) := by decide +kernel
theorem dX2_forget_49 : decode cX2_forget 49 = .ok (.getfield 18, 3) := by decide +kernel
theorem dX2_forget_52 : decode cX2_forget 52 = .ok (.iload_n 1, 1) := by decide +kernel
theorem dX2_forget_53 : decode cX2_forget 53 = .ok (.iconst 0, 1) := by decide +kernel
theorem dX2_forget_54 : decode cX2_forget 54 = .ok (.bastore, 1) := by decide +kernel
theorem dX2_forget_55 : decode cX2_forget 55 = .ok (.aload_n 0, 1) := by decide +kernel
theorem dX2_forget_56 : decode cX2_forget 56 = .ok (.getfield 22, 3) := by decide +kernel
theorem dX2_forget_59 : decode cX2_forget 59 = .ok (.iload_n 1, 1) := by decide +kernel
theorem dX2_forget_60 : decode cX2_forget 60 = .ok (.iconst (-1), 1) := by decide +kernel
theorem dX2_forget_61 : decode cX2_forget 61 = .ok (.iastore, 1) := by decide +kernel
theorem dX2_forget_62 : decode cX2_forget 62 = .ok (.iinc 1 1, 3) := by decide +kernel
theorem dX2_forget_65 : decode cX2_forget 65 = .ok (.goto (-23), 3) := by decide +kernel
theorem dX2_forget_68 : decode cX2_forget 68 = .ok (.iconst 0, 1) := by decide +kernel
theorem dX2_forget_69 : decode cX2_forget 69 = .ok (.istore_n 1, 1) := by decide +kernel
theorem dX2_forget_70 : decode cX2_forget 70 = .ok (.iload_n 1, 1) := by decide +kernel
theorem dX2_forget_71 : decode cX2_forget 71 = .ok (.iconst 4, 1) := by decide +kernel
theorem dX2_forget_72 : decode cX2_forget 72 = .ok (.if_icmp .ge 16, 3) := by decide +kernel
theorem dX2_forget_75 : decode cX2_forget 75 = .ok (.aload_n 0, 1) := by decide +kernel
theorem dX2_forget_76 : decode cX2_forget 76 = .ok (.getfield 25, 3) := by decide +kernel
theorem dX2_forget_79 : decode cX2_forget 79 = .ok (.iload_n 1, 1) := by decide +kernel
theorem dX2_forget_80 : decode cX2_forget 80 = .ok (.iconst (-1), 1) := by decide +kernel
theorem dX2_forget_81 : decode cX2_forget 81 = .ok (.iastore, 1) := by decide +kernel
theorem dX2_forget_82 : decode cX2_forget 82 = .ok (.iinc 1 1, 3) := by decide +kernel
theorem dX2_forget_85 : decode cX2_forget 85 = .ok (.goto (-15), 3) := by decide +kernel
theorem dX2_forget_88 : decode cX2_forget 88 = .ok (.aload_n 0, 1) := by decide +kernel
theorem dX2_forget_89 : decode cX2_forget 89 = .ok (.getfield 31, 3) := by decide +kernel
theorem dX2_forget_92 : decode cX2_forget 92 = .ok (.invokevirtual 64, 3) := by decide +kernel
theorem dX2_forget_95 : decode cX2_forget 95 = .ok (.return_, 1) := by decide +kernel
theorem dX2_enter_0 : decode cX2_enter 0 = .ok (.aload_n 0, 1) := by decide +kernel
theorem dX2_enter_1 : decode cX2_enter 1 = .ok (.iload_n 1, 1) := by decide +kernel
theorem dX2_enter_2 : decode cX2_enter 2 = .ok (.putfield 61, 3) := by decide +kernel
theorem dX2_enter_5 : decode cX2_enter 5 = .ok (.iconst 0, 1) := by decide +kernel
theorem dX2_enter_6 : decode cX2_enter 6 = .ok (.istore_n 2, 1) := by decide +kernel
theorem dX2_enter_7 : decode cX2_enter 7 = .ok (.iload_n 2, 1) := by decide +kernel
theorem dX2_enter_8 : decode cX2_enter 8 = .ok (.iload_n 1, 1) := by decide +kernel
theorem dX2_enter_9 : decode cX2_enter 9 = .ok (.if_icmp .ge 21, 3) := by decide +kernel
theorem dX2_enter_12 : decode cX2_enter 12 = .ok (.aload_n 0, 1) := by decide +kernel
theorem dX2_enter_13 : decode cX2_enter 13 = .ok (.getfield 18, 3) := by decide +kernel
theorem dX2_enter_16 : decode cX2_enter 16 = .ok (.aload_n 0, 1) := by decide +kernel
theorem dX2_enter_17 : decode cX2_enter 17 = .ok (.getfield 15, 3) := by decide +kernel
theorem dX2_enter_20 : decode cX2_enter 20 = .ok (.iload_n 2, 1) := by decide +kernel
theorem dX2_enter_21 : decode cX2_enter 21 = .ok (.iaload, 1) := by decide +kernel
theorem dX2_enter_22 : decode cX2_enter 22 = .ok (.iconst 1, 1) := by decide +kernel
theorem dX2_enter_23 : decode cX2_enter 23 = .ok (.bastore, 1) := by decide +kernel
theorem dX2_enter_24 : decode cX2_enter 24 = .ok (.iinc 2 1, 3) := by decide +kernel
theorem dX2_enter_27 : decode cX2_enter 27 = .ok (.goto (-20), 3) := by decide +kernel
theorem dX2_enter_30 : decode cX2_enter 30 = .ok (.return_, 1) := by decide +kernel
theorem dX2_drawOrder_0 : decode cX2_drawOrder 0 = .ok (.iload_n 1, 1) := by decide +kernel
theorem dX2_drawOrder_1 : decode cX2_drawOrder 1 = .ok (.istore_n 3, 1) := by decide +kernel
theorem dX2_drawOrder_2 : decode cX2_drawOrder 2 = .ok (.aload_n 0, 1) := by decide +kernel
theorem dX2_drawOrder_3 : decode cX2_drawOrder 3 = .ok (.iload_n 2, 1) := by decide +kernel
theorem dX2_drawOrder_4 : decode cX2_drawOrder 4 = .ok (.putfield 49, 3) := by decide +kernel
theorem dX2_drawOrder_7 : decode cX2_drawOrder 7 = .ok (.iconst 0, 1) := by decide +kernel
theorem dX2_drawOrder_8 : decode cX2_drawOrder 8 = .ok (.istore 4, 2) := by decide +kernel
theorem dX2_drawOrder_10 : decode cX2_drawOrder 10 = .ok (.iload 4, 2) := by decide +kernel
theorem dX2_drawOrder_12 : decode cX2_drawOrder 12 = .ok (.iload_n 2, 1) := by decide +kernel
theorem dX2_drawOrder_13 : decode cX2_drawOrder 13 = .ok (.if_icmp .ge 71, 3) := by decide +kernel
theorem dX2_drawOrder_16 : decode cX2_drawOrder 16 = .ok (.iload_n 2, 1) := by decide +kernel
theorem dX2_drawOrder_17 : decode cX2_drawOrder 17 = .ok (.iload 4, 2) := by decide +kernel
theorem dX2_drawOrder_19 : decode cX2_drawOrder 19 = .ok (.isub, 1) := by decide +kernel
theorem dX2_drawOrder_20 : decode cX2_drawOrder 20 = .ok (.istore 5, 2) := by decide +kernel
theorem dX2_drawOrder_22 : decode cX2_drawOrder 22 = .ok (.iload_n 3, 1) := by decide +kernel
theorem dX2_drawOrder_23 : decode cX2_drawOrder 23 = .ok (.ldc 67, 2) := by decide +kernel
theorem dX2_drawOrder_25 : decode cX2_drawOrder 25 = .ok (.imul, 1) := by decide +kernel
theorem dX2_drawOrder_26 : decode cX2_drawOrder 26 = .ok (.sipush 12345, 3) := by decide +kernel
theorem dX2_drawOrder_29 : decode cX2_drawOrder 29 = .ok (.iadd, 1) := by decide +kernel
theorem dX2_drawOrder_30 : decode cX2_drawOrder 30 = .ok (.istore_n 3, 1) := by decide +kernel
theorem dX2_drawOrder_31 : decode cX2_drawOrder 31 = .ok (.iload_n 3, 1) := by decide +kernel
theorem dX2_drawOrder_32 : decode cX2_drawOrder 32 = .ok (.bipush 16, 2) := by decide +kernel
theorem dX2_drawOrder_34 : decode cX2_drawOrder 34 = .ok (.iushr, 1) := by decide +kernel
theorem dX2_drawOrder_35 : decode cX2_drawOrder 35 = .ok (.iload 5, 2) := by decide +kernel
theorem dX2_drawOrder_37 : decode cX2_drawOrder 37 = .ok (.irem, 1) := by decide +kernel
theorem dX2_drawOrder_38 : decode cX2_drawOrder 38 = .ok (.istore 6, 2) := by decide +kernel
theorem dX2_drawOrder_40 : decode cX2_drawOrder 40 = .ok (.aload_n 0, 1) := by decide +kernel
theorem dX2_drawOrder_41 : decode cX2_drawOrder 41 = .ok (.getfield 9, 3) := by decide +kernel
theorem dX2_drawOrder_44 : decode cX2_drawOrder 44 = .ok (.iload 4, 2) := by decide +kernel
theorem dX2_drawOrder_46 : decode cX2_drawOrder 46 = .ok (.aload_n 0, 1) := by decide +kernel
theorem dX2_drawOrder_47 : decode cX2_drawOrder 47 = .ok (.getfield 15, 3) := by decide +kernel
theorem dX2_drawOrder_50 : decode cX2_drawOrder 50 = .ok (.iload 6, 2) := by decide +kernel
theorem dX2_drawOrder_52 : decode cX2_drawOrder 52 = .ok (.iaload, 1) := by decide +kernel
theorem dX2_drawOrder_53 : decode cX2_drawOrder 53 = .ok (.iastore, 1) := by decide +kernel
theorem dX2_drawOrder_54 : decode cX2_drawOrder 54 = .ok (.aload_n 0, 1) := by decide +kernel
theorem dX2_drawOrder_55 : decode cX2_drawOrder 55 = .ok (.getfield 15, 3) := by decide +kernel
theorem dX2_drawOrder_58 : decode cX2_drawOrder 58 = .ok (.iload 6, 2) := by decide +kernel
theorem dX2_drawOrder_60 : decode cX2_drawOrder 60 = .ok (.iconst 1, 1) := by decide +kernel
theorem dX2_drawOrder_61 : decode cX2_drawOrder 61 = .ok (.iadd, 1) := by decide +kernel
theorem dX2_drawOrder_62 : decode cX2_drawOrder 62 = .ok (.aload_n 0, 1) := by decide +kernel
theorem dX2_drawOrder_63 : decode cX2_drawOrder 63 = .ok (.getfield 15, 3) := by decide +kernel
theorem dX2_drawOrder_66 : decode cX2_drawOrder 66 = .ok (.iload 6, 2) := by decide +kernel
theorem dX2_drawOrder_68 : decode cX2_drawOrder 68 = .ok (.iload 5, 2) := by decide +kernel
theorem dX2_drawOrder_70 : decode cX2_drawOrder 70 = .ok (.iload 6, 2) := by decide +kernel
theorem dX2_drawOrder_72 : decode cX2_drawOrder 72 = .ok (.isub, 1) := by decide +kernel
theorem dX2_drawOrder_73 : decode cX2_drawOrder 73 = .ok (.iconst 1, 1) := by decide +kernel
theorem dX2_drawOrder_74 : decode cX2_drawOrder 74 = .ok (.isub, 1) := by decide +kernel
theorem dX2_drawOrder_75 : decode cX2_drawOrder 75 = .ok (.invokestatic 68, 3) := by decide +kernel
theorem dX2_drawOrder_78 : decode cX2_drawOrder 78 = .ok (.iinc 4 1, 3) := by decide +kernel
theorem dX2_drawOrder_81 : decode cX2_drawOrder 81 = .ok (.goto (-71), 3) := by decide +kernel
theorem dX2_drawOrder_84 : decode cX2_drawOrder 84 = .ok (.return_, 1) := by decide +kernel
theorem dX2_turnOrder_0 : decode cX2_turnOrder 0 = .ok (.aload_n 0, 1) := by decide +kernel
theorem dX2_turnOrder_1 : decode cX2_turnOrder 1 = .ok (.iload_n 1, 1) := by decide +kernel
theorem dX2_turnOrder_2 : decode cX2_turnOrder 2 = .ok (.putfield 49, 3) := by decide +kernel
theorem dX2_turnOrder_5 : decode cX2_turnOrder 5 = .ok (.iload_n 1, 1) := by decide +kernel
theorem dX2_turnOrder_6 : decode cX2_turnOrder 6 = .ok (.iload_n 2, 1) := by decide +kernel
theorem dX2_turnOrder_7 : decode cX2_turnOrder 7 = .ok (.invokestatic 74, 3) := by decide +kernel
theorem dX2_turnOrder_10 : decode cX2_turnOrder 10 = .ok (.istore_n 3, 1) := by decide +kernel
theorem dX2_turnOrder_11 : decode cX2_turnOrder 11 = .ok (.iconst 0, 1) := by decide +kernel
theorem dX2_turnOrder_12 : decode cX2_turnOrder 12 = .ok (.istore 4, 2) := by decide +kernel
theorem dX2_turnOrder_14 : decode cX2_turnOrder 14 = .ok (.iload 4, 2) := by decide +kernel
theorem dX2_turnOrder_16 : decode cX2_turnOrder 16 = .ok (.iload_n 1, 1) := by decide +kernel
theorem dX2_turnOrder_17 : decode cX2_turnOrder 17 = .ok (.if_icmp .ge 43, 3) := by decide +kernel
theorem dX2_turnOrder_20 : decode cX2_turnOrder 20 = .ok (.aload_n 0, 1) := by decide +kernel
theorem dX2_turnOrder_21 : decode cX2_turnOrder 21 = .ok (.getfield 9, 3) := by decide +kernel
theorem dX2_turnOrder_24 : decode cX2_turnOrder 24 = .ok (.iload 4, 2) := by decide +kernel
theorem dX2_turnOrder_26 : decode cX2_turnOrder 26 = .ok (.iload 4, 2) := by decide +kernel
theorem dX2_turnOrder_28 : decode cX2_turnOrder 28 = .ok (.iload_n 3, 1) := by decide +kernel
theorem dX2_turnOrder_29 : decode cX2_turnOrder 29 = .ok (.if_icmp .ge 17, 3) := by decide +kernel
theorem dX2_turnOrder_32 : decode cX2_turnOrder 32 = .ok (.aload_n 0, 1) := by decide +kernel
theorem dX2_turnOrder_33 : decode cX2_turnOrder 33 = .ok (.getfield 15, 3) := by decide +kernel
theorem dX2_turnOrder_36 : decode cX2_turnOrder 36 = .ok (.iload_n 3, 1) := by decide +kernel
theorem dX2_turnOrder_37 : decode cX2_turnOrder 37 = .ok (.iconst 1, 1) := by decide +kernel
theorem dX2_turnOrder_38 : decode cX2_turnOrder 38 = .ok (.isub, 1) := by decide +kernel
theorem dX2_turnOrder_39 : decode cX2_turnOrder 39 = .ok (.iload 4, 2) := by decide +kernel
theorem dX2_turnOrder_41 : decode cX2_turnOrder 41 = .ok (.isub, 1) := by decide +kernel
theorem dX2_turnOrder_42 : decode cX2_turnOrder 42 = .ok (.iaload, 1) := by decide +kernel
theorem dX2_turnOrder_43 : decode cX2_turnOrder 43 = .ok (.goto 10, 3) := by decide +kernel
theorem dX2_turnOrder_46 : decode cX2_turnOrder 46 = .ok (.aload_n 0, 1) := by decide +kernel
theorem dX2_turnOrder_47 : decode cX2_turnOrder 47 = .ok (.getfield 15, 3) := by decide +kernel
theorem dX2_turnOrder_50 : decode cX2_turnOrder 50 = .ok (.iload 4, 2) := by decide +kernel
theorem dX2_turnOrder_52 : decode cX2_turnOrder 52 = .ok (.iaload, 1) := by decide +kernel
theorem dX2_turnOrder_53 : decode cX2_turnOrder 53 = .ok (.iastore, 1) := by decide +kernel
theorem dX2_turnOrder_54 : decode cX2_turnOrder 54 = .ok (.iinc 4 1, 3) := by decide +kernel
theorem dX2_turnOrder_57 : decode cX2_turnOrder 57 = .ok (.goto (-43), 3) := by decide +kernel
theorem dX2_turnOrder_60 : decode cX2_turnOrder 60 = .ok (.return_, 1) := by decide +kernel
theorem dX2_beginRun_0 : decode cX2_beginRun 0 = .ok (.aload_n 0, 1) := by decide +kernel
theorem dX2_beginRun_1 : decode cX2_beginRun 1 = .ok (.aload_n 0, 1) := by decide +kernel
theorem dX2_beginRun_2 : decode cX2_beginRun 2 = .ok (.getfield 42, 3) := by decide +kernel
theorem dX2_beginRun_5 : decode cX2_beginRun 5 = .ok (.putfield 46, 3) := by decide +kernel
theorem dX2_beginRun_8 : decode cX2_beginRun 8 = .ok (.aload_n 0, 1) := by decide +kernel
theorem dX2_beginRun_9 : decode cX2_beginRun 9 = .ok (.dup, 1) := by decide +kernel
theorem dX2_beginRun_10 : decode cX2_beginRun 10 = .ok (.getfield 42, 3) := by decide +kernel
theorem dX2_beginRun_13 : decode cX2_beginRun 13 = .ok (.iconst 1, 1) := by decide +kernel
theorem dX2_beginRun_14 : decode cX2_beginRun 14 = .ok (.iadd, 1) := by decide +kernel
theorem dX2_beginRun_15 : decode cX2_beginRun 15 = .ok (.putfield 42, 3) := by decide +kernel
theorem dX2_beginRun_18 : decode cX2_beginRun 18 = .ok (.aload_n 0, 1) := by decide +kernel
theorem dX2_beginRun_19 : decode cX2_beginRun 19 = .ok (.iconst 0, 1) := by decide +kernel
theorem dX2_beginRun_20 : decode cX2_beginRun 20 = .ok (.putfield 52, 3) := by decide +kernel
theorem dX2_beginRun_23 : decode cX2_beginRun 23 = .ok (.aload_n 0, 1) := by decide +kernel
theorem dX2_beginRun_24 : decode cX2_beginRun 24 = .ok (.getfield 46, 3) := by decide +kernel
theorem dX2_beginRun_27 : decode cX2_beginRun 27 = .ok (.ireturn, 1) := by decide +kernel
theorem dX2_orderAt_0 : decode cX2_orderAt 0 = .ok (.iload_n 1, 1) := by decide +kernel
theorem dX2_orderAt_1 : decode cX2_orderAt 1 = .ok (.iconst 0, 1) := by decide +kernel
theorem dX2_orderAt_2 : decode cX2_orderAt 2 = .ok (.aload_n 0, 1) := by decide +kernel
theorem dX2_orderAt_3 : decode cX2_orderAt 3 = .ok (.getfield 49, 3) := by decide +kernel
theorem dX2_orderAt_6 : decode cX2_orderAt 6 = .ok (.iconst 1, 1) := by decide +kernel
theorem dX2_orderAt_7 : decode cX2_orderAt 7 = .ok (.isub, 1) := by decide +kernel
theorem dX2_orderAt_8 : decode cX2_orderAt 8 = .ok (.invokestatic 80, 3) := by decide +kernel
theorem dX2_orderAt_11 : decode cX2_orderAt 11 = .ok (.ifCond .eq 12, 3) := by decide +kernel
theorem dX2_orderAt_14 : decode cX2_orderAt 14 = .ok (.aload_n 0, 1) := by decide +kernel
theorem dX2_orderAt_15 : decode cX2_orderAt 15 = .ok (.getfield 9, 3) := by decide +kernel
theorem dX2_orderAt_18 : decode cX2_orderAt 18 = .ok (.iload_n 1, 1) := by decide +kernel
theorem dX2_orderAt_19 : decode cX2_orderAt 19 = .ok (.iaload, 1) := by decide +kernel
theorem dX2_orderAt_20 : decode cX2_orderAt 20 = .ok (.goto 4, 3) := by decide +kernel
theorem dX2_orderAt_23 : decode cX2_orderAt 23 = .ok (.iconst (-1), 1) := by decide +kernel
theorem dX2_orderAt_24 : decode cX2_orderAt 24 = .ok (.ireturn, 1) := by decide +kernel
theorem dX2_nextSled_0 : decode cX2_nextSled 0 = .ok (.aload_n 0, 1) := by decide +kernel
theorem dX2_nextSled_1 : decode cX2_nextSled 1 = .ok (.getfield 46, 3) := by decide +kernel
theorem dX2_nextSled_4 : decode cX2_nextSled 4 = .ok (.iconst (-1), 1) := by decide +kernel
theorem dX2_nextSled_5 : decode cX2_nextSled 5 = .ok (.if_icmp .ne 7, 3) := by decide +kernel
theorem dX2_nextSled_8 : decode cX2_nextSled 8 = .ok (.iconst (-1), 1) := by decide +kernel
theorem dX2_nextSled_9 : decode cX2_nextSled 9 = .ok (.goto 11, 3) := by decide +kernel
theorem dX2_nextSled_12 : decode cX2_nextSled 12 = .ok (.aload_n 0, 1) := by decide +kernel
theorem dX2_nextSled_13 : decode cX2_nextSled 13 = .ok (.aload_n 0, 1) := by decide +kernel
theorem dX2_nextSled_14 : decode cX2_nextSled 14 = .ok (.getfield 52, 3) := by decide +kernel
theorem dX2_nextSled_17 : decode cX2_nextSled 17 = .ok (.invokevirtual 84, 3) := by decide +kernel
theorem dX2_nextSled_20 : decode cX2_nextSled 20 = .ok (.ireturn, 1) := by decide +kernel
theorem dX2_countDown_0 : decode cX2_countDown 0 = .ok (.aload_n 0, 1) := by decide +kernel
theorem dX2_countDown_1 : decode cX2_countDown 1 = .ok (.dup, 1) := by decide +kernel
theorem dX2_countDown_2 : decode cX2_countDown 2 = .ok (.getfield 52, 3) := by decide +kernel
theorem dX2_countDown_5 : decode cX2_countDown 5 = .ok (.iconst 1, 1) := by decide +kernel
theorem dX2_countDown_6 : decode cX2_countDown 6 = .ok (.iadd, 1) := by decide +kernel
theorem dX2_countDown_7 : decode cX2_countDown 7 = .ok (.putfield 52, 3) := by decide +kernel
theorem dX2_countDown_10 : decode cX2_countDown 10 = .ok (.aload_n 0, 1) := by decide +kernel
theorem dX2_countDown_11 : decode cX2_countDown 11 = .ok (.getfield 52, 3) := by decide +kernel
theorem dX2_countDown_14 : decode cX2_countDown 14 = .ok (.aload_n 0, 1) := by decide +kernel
theorem dX2_countDown_15 : decode cX2_countDown 15 = .ok (.getfield 49, 3) := by decide +kernel
theorem dX2_countDown_18 : decode cX2_countDown 18 = .ok (.if_icmp .lt 53, 3) := by decide +kernel
theorem dX2_countDown_21 : decode cX2_countDown 21 = .ok (.aload_n 0, 1) := by decide +kernel
theorem dX2_countDown_22 : decode cX2_countDown 22 = .ok (.getfield 46, 3) := by decide +kernel
theorem dX2_countDown_25 : decode cX2_countDown 25 = .ok (.iconst 0, 1) := by decide +kernel
theorem dX2_countDown_26 : decode cX2_countDown 26 = .ok (.iconst 3, 1) := by decide +kernel
theorem dX2_countDown_27 : decode cX2_countDown 27 = .ok (.invokestatic 80, 3) := by decide +kernel
theorem dX2_countDown_30 : decode cX2_countDown 30 = .ok (.ifCond .eq 41, 3) := by decide +kernel
theorem dX2_countDown_33 : decode cX2_countDown 33 = .ok (.aload_n 0, 1) := by decide +kernel
theorem dX2_countDown_34 : decode cX2_countDown 34 = .ok (.getfield 25, 3) := by decide +kernel
theorem dX2_countDown_37 : decode cX2_countDown 37 = .ok (.aload_n 0, 1) := by decide +kernel
theorem dX2_countDown_38 : decode cX2_countDown 38 = .ok (.getfield 46, 3) := by decide +kernel
theorem dX2_countDown_41 : decode cX2_countDown 41 = .ok (.aload_n 0, 1) := by decide +kernel
theorem dX2_countDown_42 : decode cX2_countDown 42 = .ok (.getfield 55, 3) := by decide +kernel
theorem dX2_countDown_45 : decode cX2_countDown 45 = .ok (.iastore, 1) := by decide +kernel
theorem dX2_countDown_46 : decode cX2_countDown 46 = .ok (.aload_n 0, 1) := by decide +kernel
theorem dX2_countDown_47 : decode cX2_countDown 47 = .ok (.dup, 1) := by decide +kernel
theorem dX2_countDown_48 : decode cX2_countDown 48 = .ok (.getfield 55, 3) := by decide +kernel
theorem dX2_countDown_51 : decode cX2_countDown 51 = .ok (.iconst 1, 1) := by decide +kernel
theorem dX2_countDown_52 : decode cX2_countDown 52 = .ok (.iadd, 1) := by decide +kernel
theorem dX2_countDown_53 : decode cX2_countDown 53 = .ok (.putfield 55, 3) := by decide +kernel
theorem dX2_countDown_56 : decode cX2_countDown 56 = .ok (.aload_n 0, 1) := by decide +kernel
theorem dX2_countDown_57 : decode cX2_countDown 57 = .ok (.dup, 1) := by decide +kernel
theorem dX2_countDown_58 : decode cX2_countDown 58 = .ok (.getfield 58, 3) := by decide +kernel
theorem dX2_countDown_61 : decode cX2_countDown 61 = .ok (.iconst 1, 1) := by decide +kernel
theorem dX2_countDown_62 : decode cX2_countDown 62 = .ok (.iadd, 1) := by decide +kernel
theorem dX2_countDown_63 : decode cX2_countDown 63 = .ok (.putfield 58, 3) := by decide +kernel
theorem dX2_countDown_66 : decode cX2_countDown 66 = .ok (.aload_n 0, 1) := by decide +kernel
theorem dX2_countDown_67 : decode cX2_countDown 67 = .ok (.iconst (-1), 1) := by decide +kernel
theorem dX2_countDown_68 : decode cX2_countDown 68 = .ok (.putfield 46, 3) := by decide +kernel
theorem dX2_countDown_71 : decode cX2_countDown 71 = .ok (.return_, 1) := by decide +kernel
theorem dX2_shutRun_0 : decode cX2_shutRun 0 = .ok (.aload_n 0, 1) := by decide +kernel
theorem dX2_shutRun_1 : decode cX2_shutRun 1 = .ok (.iconst (-1), 1) := by decide +kernel
theorem dX2_shutRun_2 : decode cX2_shutRun 2 = .ok (.putfield 46, 3) := by decide +kernel
theorem dX2_shutRun_5 : decode cX2_shutRun 5 = .ok (.aload_n 0, 1) := by decide +kernel
theorem dX2_shutRun_6 : decode cX2_shutRun 6 = .ok (.getfield 52, 3) := by decide +kernel
theorem dX2_shutRun_9 : decode cX2_shutRun 9 = .ok (.ireturn, 1) := by decide +kernel
theorem dX2_hasEntered_0 : decode cX2_hasEntered 0 = .ok (.iload_n 1, 1) := by decide +kernel
theorem dX2_hasEntered_1 : decode cX2_hasEntered 1 = .ok (.iconst 0, 1) := by decide +kernel
theorem dX2_hasEntered_2 : decode cX2_hasEntered 2 = .ok (.bipush 15, 2) := by decide +kernel
theorem dX2_hasEntered_4 : decode cX2_hasEntered 4 = .ok (.invokestatic 80, 3) := by decide +kernel
theorem dX2_hasEntered_7 : decode cX2_hasEntered 7 = .ok (.ifCond .eq 16, 3) := by decide +kernel
theorem dX2_hasEntered_10 : decode cX2_hasEntered 10 = .ok (.aload_n 0, 1) := by decide +kernel
theorem dX2_hasEntered_11 : decode cX2_hasEntered 11 = .ok (.getfield 18, 3) := by decide +kernel
theorem dX2_hasEntered_14 : decode cX2_hasEntered 14 = .ok (.iload_n 1, 1) := by decide +kernel
theorem dX2_hasEntered_15 : decode cX2_hasEntered 15 = .ok (.baload, 1) := by decide +kernel
theorem dX2_hasEntered_16 : decode cX2_hasEntered 16 = .ok (.ifCond .eq 7, 3) := by decide +kernel
theorem dX2_hasEntered_19 : decode cX2_hasEntered 19 = .ok (.iconst 1, 1) := by decide +kernel
theorem dX2_hasEntered_20 : decode cX2_hasEntered 20 = .ok (.goto 4, 3) := by decide +kernel
theorem dX2_hasEntered_23 : decode cX2_hasEntered 23 = .ok (.iconst 0, 1) := by decide +kernel
theorem dX2_hasEntered_24 : decode cX2_hasEntered 24 = .ok (.ireturn, 1) := by decide +kernel
theorem dX2_strike_0 : decode cX2_strike 0 = .ok (.aload_n 0, 1) := by decide +kernel
theorem dX2_strike_1 : decode cX2_strike 1 = .ok (.iload_n 1, 1) := by decide +kernel
theorem dX2_strike_2 : decode cX2_strike 2 = .ok (.invokevirtual 88, 3) := by decide +kernel
theorem dX2_strike_5 : decode cX2_strike 5 = .ok (.ifCond .eq 13, 3) := by decide +kernel
theorem dX2_strike_8 : decode cX2_strike 8 = .ok (.aload_n 0, 1) := by decide +kernel
theorem dX2_strike_9 : decode cX2_strike 9 = .ok (.getfield 22, 3) := by decide +kernel
theorem dX2_strike_12 : decode cX2_strike 12 = .ok (.iload_n 1, 1) := by decide +kernel
theorem dX2_strike_13 : decode cX2_strike 13 = .ok (.iaload, 1) := by decide +kernel
theorem dX2_strike_14 : decode cX2_strike 14 = .ok (.iconst (-1), 1) := by decide +kernel
theorem dX2_strike_15 : decode cX2_strike 15 = .ok (.if_icmp .eq 5, 3) := by decide +kernel
theorem dX2_strike_18 : decode cX2_strike 18 = .ok (.iconst 0, 1) := by decide +kernel
theorem dX2_strike_19 : decode cX2_strike 19 = .ok (.ireturn, 1) := by decide +kernel
theorem dX2_strike_20 : decode cX2_strike 20 = .ok (.aload_n 0, 1) := by decide +kernel
theorem dX2_strike_21 : decode cX2_strike 21 = .ok (.getfield 22, 3) := by decide +kernel
theorem dX2_strike_24 : decode cX2_strike 24 = .ok (.iload_n 1, 1) := by decide +kernel
theorem dX2_strike_25 : decode cX2_strike 25 = .ok (.aload_n 0, 1) := by decide +kernel
theorem dX2_strike_26 : decode cX2_strike 26 = .ok (.getfield 55, 3) := by decide +kernel
theorem dX2_strike_29 : decode cX2_strike 29 = .ok (.iastore, 1) := by decide +kernel
theorem dX2_strike_30 : decode cX2_strike 30 = .ok (.aload_n 0, 1) := by decide +kernel
theorem dX2_strike_31 : decode cX2_strike 31 = .ok (.dup, 1) := by decide +kernel
theorem dX2_strike_32 : decode cX2_strike 32 = .ok (.getfield 55, 3) := by decide +kernel
theorem dX2_strike_35 : decode cX2_strike 35 = .ok (.iconst 1, 1) := by decide +kernel
theorem dX2_strike_36 : decode cX2_strike 36 = .ok (.iadd, 1) := by decide +kernel
theorem dX2_strike_37 : decode cX2_strike 37 = .ok (.putfield 55, 3) := by decide +kernel
theorem dX2_strike_40 : decode cX2_strike 40 = .ok (.iconst 1, 1) := by decide +kernel
theorem dX2_strike_41 : decode cX2_strike 41 = .ok (.ireturn, 1) := by decide +kernel
theorem dX2_isWhole_0 : decode cX2_isWhole 0 = .ok (.aload_n 0, 1) := by decide +kernel
theorem dX2_isWhole_1 : decode cX2_isWhole 1 = .ok (.iload_n 1, 1) := by decide +kernel
theorem dX2_isWhole_2 : decode cX2_isWhole 2 = .ok (.aload_n 0, 1) := by decide +kernel
theorem dX2_isWhole_3 : decode cX2_isWhole 3 = .ok (.getfield 55, 3) := by decide +kernel
theorem dX2_isWhole_6 : decode cX2_isWhole 6 = .ok (.invokevirtual 92, 3) := by decide +kernel
theorem dX2_isWhole_9 : decode cX2_isWhole 9 = .ok (.ireturn, 1) := by decide +kernel
theorem dX2_isWholeBy_0 : decode cX2_isWholeBy 0 = .ok (.iload_n 1, 1) := by decide +kernel
theorem dX2_isWholeBy_1 : decode cX2_isWholeBy 1 = .ok (.iconst 0, 1) := by decide +kernel
theorem dX2_isWholeBy_2 : decode cX2_isWholeBy 2 = .ok (.iconst 3, 1) := by decide +kernel
theorem dX2_isWholeBy_3 : decode cX2_isWholeBy 3 = .ok (.invokestatic 80, 3) := by decide +kernel
theorem dX2_isWholeBy_6 : decode cX2_isWholeBy 6 = .ok (.ifCond .eq 27, 3) := by decide +kernel
theorem dX2_isWholeBy_9 : decode cX2_isWholeBy 9 = .ok (.aload_n 0, 1) := by decide +kernel
theorem dX2_isWholeBy_10 : decode cX2_isWholeBy 10 = .ok (.getfield 25, 3) := by decide +kernel
theorem dX2_isWholeBy_13 : decode cX2_isWholeBy 13 = .ok (.iload_n 1, 1) := by decide +kernel
theorem dX2_isWholeBy_14 : decode cX2_isWholeBy 14 = .ok (.iaload, 1) := by decide +kernel
theorem dX2_isWholeBy_15 : decode cX2_isWholeBy 15 = .ok (.iconst (-1), 1) := by decide +kernel
theorem dX2_isWholeBy_16 : decode cX2_isWholeBy 16 = .ok (.if_icmp .eq 17, 3) := by decide +kernel
theorem dX2_isWholeBy_19 : decode cX2_isWholeBy 19 = .ok (.aload_n 0, 1) := by decide +kernel
theorem dX2_isWholeBy_20 : decode cX2_isWholeBy 20 = .ok (.getfield 25, 3) := by decide +kernel
theorem dX2_isWholeBy_23 : decode cX2_isWholeBy 23 = .ok (.iload_n 1, 1) := by decide +kernel
theorem dX2_isWholeBy_24 : decode cX2_isWholeBy 24 = .ok (.iaload, 1) := by decide +kernel
theorem dX2_isWholeBy_25 : decode cX2_isWholeBy 25 = .ok (.iload_n 2, 1) := by decide +kernel
theorem dX2_isWholeBy_26 : decode cX2_isWholeBy 26 = .ok (.if_icmp .ge 7, 3) := by decide +kernel
theorem dX2_isWholeBy_29 : decode cX2_isWholeBy 29 = .ok (.iconst 1, 1) := by decide +kernel
theorem dX2_isWholeBy_30 : decode cX2_isWholeBy 30 = .ok (.goto 4, 3) := by decide +kernel
theorem dX2_isWholeBy_33 : decode cX2_isWholeBy 33 = .ok (.iconst 0, 1) := by decide +kernel
theorem dX2_isWholeBy_34 : decode cX2_isWholeBy 34 = .ok (.ireturn, 1) := by decide +kernel
theorem dX2_isInBy_0 : decode cX2_isInBy 0 = .ok (.aload_n 0, 1) := by decide +kernel
theorem dX2_isInBy_1 : decode cX2_isInBy 1 = .ok (.iload_n 1, 1) := by decide +kernel
theorem dX2_isInBy_2 : decode cX2_isInBy 2 = .ok (.invokevirtual 88, 3) := by decide +kernel
theorem dX2_isInBy_5 : decode cX2_isInBy 5 = .ok (.ifCond .eq 27, 3) := by decide +kernel
theorem dX2_isInBy_8 : decode cX2_isInBy 8 = .ok (.aload_n 0, 1) := by decide +kernel
theorem dX2_isInBy_9 : decode cX2_isInBy 9 = .ok (.getfield 22, 3) := by decide +kernel
theorem dX2_isInBy_12 : decode cX2_isInBy 12 = .ok (.iload_n 1, 1) := by decide +kernel
theorem dX2_isInBy_13 : decode cX2_isInBy 13 = .ok (.iaload, 1) := by decide +kernel
theorem dX2_isInBy_14 : decode cX2_isInBy 14 = .ok (.iconst (-1), 1) := by decide +kernel
theorem dX2_isInBy_15 : decode cX2_isInBy 15 = .ok (.if_icmp .eq 13, 3) := by decide +kernel
theorem dX2_isInBy_18 : decode cX2_isInBy 18 = .ok (.aload_n 0, 1) := by decide +kernel
theorem dX2_isInBy_19 : decode cX2_isInBy 19 = .ok (.getfield 22, 3) := by decide +kernel
theorem dX2_isInBy_22 : decode cX2_isInBy 22 = .ok (.iload_n 1, 1) := by decide +kernel
theorem dX2_isInBy_23 : decode cX2_isInBy 23 = .ok (.iaload, 1) := by decide +kernel
theorem dX2_isInBy_24 : decode cX2_isInBy 24 = .ok (.iload_n 2, 1) := by decide +kernel
theorem dX2_isInBy_25 : decode cX2_isInBy 25 = .ok (.if_icmp .lt 7, 3) := by decide +kernel
theorem dX2_isInBy_28 : decode cX2_isInBy 28 = .ok (.iconst 1, 1) := by decide +kernel
theorem dX2_isInBy_29 : decode cX2_isInBy 29 = .ok (.goto 4, 3) := by decide +kernel
theorem dX2_isInBy_32 : decode cX2_isInBy 32 = .ok (.iconst 0, 1) := by decide +kernel
theorem dX2_isInBy_33 : decode cX2_isInBy 33 = .ok (.ireturn, 1) := by decide +kernel
theorem dX3_init_0 : decode cX3_init 0 = .ok (.aload_n 0, 1) := by decide +kernel
theorem dX3_init_1 : decode cX3_init 1 = .ok (.invokespecial 3, 3) := by decide +kernel
theorem dX3_init_4 : decode cX3_init 4 = .ok (.aload_n 0, 1) := by decide +kernel
theorem dX3_init_5 : decode cX3_init 5 = .ok (.iconst 4, 1) := by decide +kernel
theorem dX3_init_6 : decode cX3_init 6 = .ok (.newarray .int, 2) := by decide +kernel
theorem dX3_init_8 : decode cX3_init 8 = .ok (.dup, 1) := by decide +kernel
theorem dX3_init_9 : decode cX3_init 9 = .ok (.iconst 0, 1) := by decide +kernel
theorem dX3_init_10 : decode cX3_init 10 = .ok (.iconst 3, 1) := by decide +kernel
theorem dX3_init_11 : decode cX3_init 11 = .ok (.iastore, 1) := by decide +kernel
theorem dX3_init_12 : decode cX3_init 12 = .ok (.dup, 1) := by decide +kernel
theorem dX3_init_13 : decode cX3_init 13 = .ok (.iconst 1, 1) := by decide +kernel
theorem dX3_init_14 : decode cX3_init 14 = .ok (.iconst 3, 1) := by decide +kernel
theorem dX3_init_15 : decode cX3_init 15 = .ok (.iastore, 1) := by decide +kernel
theorem dX3_init_16 : decode cX3_init 16 = .ok (.dup, 1) := by decide +kernel
theorem dX3_init_17 : decode cX3_init 17 = .ok (.iconst 2, 1) := by decide +kernel
theorem dX3_init_18 : decode cX3_init 18 = .ok (.iconst 3, 1) := by decide +kernel
theorem dX3_init_19 : decode cX3_init 19 = .ok (.iastore, 1) := by decide +kernel
theorem dX3_init_20 : decode cX3_init 20 = .ok (.dup, 1) := by decide +kernel
theorem dX3_init_21 : decode cX3_init 21 = .ok (.iconst 3, 1) := by decide +kernel
theorem dX3_init_22 : decode cX3_init 22 = .ok (.iconst 3, 1) := by decide +kernel
theorem dX3_init_23 : decode cX3_init 23 = .ok (.iastore, 1) := by decide +kernel
theorem dX3_init_24 : decode cX3_init 24 = .ok (.putfield 11, 3) := by decide +kernel
theorem dX3_init_27 : decode cX3_init 27 = .ok (.aload_n 0, 1) := by decide +kernel
theorem dX3_init_28 : decode cX3_init 28 = .ok (.iconst 4, 1) := by decide +kernel
theorem dX3_init_29 : decode cX3_init 29 = .ok (.newarray .int, 2) := by decide +kernel
theorem dX3_init_31 : decode cX3_init 31 = .ok (.putfield 15, 3) := by decide +kernel
theorem dX3_init_34 : decode cX3_init 34 = .ok (.aload_n 0, 1) := by decide +kernel
theorem dX3_init_35 : decode cX3_init 35 = .ok (.iconst 4, 1) := by decide +kernel
theorem dX3_init_36 : decode cX3_init 36 = .ok (.bipush 9, 2) := by decide +kernel
theorem dX3_init_38 : decode cX3_init 38 = .ok (.multianewarray 18 2, 4) := by decide +kernel
theorem dX3_init_42 : decode cX3_init 42 = .ok (.putfield 20, 3) := by decide +kernel
theorem dX3_init_45 : decode cX3_init 45 = .ok (.return_, 1) := by decide +kernel
theorem dX3_makeRow_0 : decode cX3_makeRow 0 = .ok (.aload_n 0, 1) := by decide +kernel
theorem dX3_makeRow_1 : decode cX3_makeRow 1 = .ok (.getfield 11, 3) := by decide +kernel
theorem dX3_makeRow_4 : decode cX3_makeRow 4 = .ok (.iload_n 1, 1) := by decide +kernel
theorem dX3_makeRow_5 : decode cX3_makeRow 5 = .ok (.iload_n 2, 1) := by decide +kernel
theorem dX3_makeRow_6 : decode cX3_makeRow 6 = .ok (.iastore, 1) := by decide +kernel
theorem dX3_makeRow_7 : decode cX3_makeRow 7 = .ok (.aload_n 0, 1) := by decide +kernel
theorem dX3_makeRow_8 : decode cX3_makeRow 8 = .ok (.getfield 15, 3) := by decide +kernel
theorem dX3_makeRow_11 : decode cX3_makeRow 11 = .ok (.iload_n 1, 1) := by decide +kernel
theorem dX3_makeRow_12 : decode cX3_makeRow 12 = .ok (.iload_n 2, 1) := by decide +kernel
theorem dX3_makeRow_13 : decode cX3_makeRow 13 = .ok (.iconst 3, 1) := by decide +kernel
theorem dX3_makeRow_14 : decode cX3_makeRow 14 = .ok (.if_icmp .ne 7, 3) := by decide +kernel
theorem dX3_makeRow_17 : decode cX3_makeRow 17 = .ok (.iconst 0, 1) := by decide +kernel
theorem dX3_makeRow_18 : decode cX3_makeRow 18 = .ok (.goto 4, 3) := by decide +kernel
theorem dX3_makeRow_21 : decode cX3_makeRow 21 = .ok (.iload_n 3, 1) := by decide +kernel
theorem dX3_makeRow_22 : decode cX3_makeRow 22 = .ok (.iastore, 1) := by decide +kernel
theorem dX3_makeRow_23 : decode cX3_makeRow 23 = .ok (.iconst 0, 1) := by decide +kernel
theorem dX3_makeRow_24 : decode cX3_makeRow 24 = .ok (.istore 6, 2) := by decide +kernel
theorem dX3_makeRow_26 : decode cX3_makeRow 26 = .ok (.iload 6, 2) := by decide +kernel
theorem dX3_makeRow_28 : decode cX3_makeRow 28 = .ok (.aload_n 0, 1) := by decide +kernel
theorem dX3_makeRow_29 : decode cX3_makeRow 29 = .ok (.getfield 15, 3) := by decide +kernel
theorem dX3_makeRow_32 : decode cX3_makeRow 32 = .ok (.iload_n 1, 1) := by decide +kernel
theorem dX3_makeRow_33 : decode cX3_makeRow 33 = .ok (.iaload, 1) := by decide +kernel
theorem dX3_makeRow_34 : decode cX3_makeRow 34 = .ok (.if_icmp .ge 30, 3) := by decide +kernel
theorem dX3_makeRow_37 : decode cX3_makeRow 37 = .ok (.aload_n 0, 1) := by decide +kernel
theorem dX3_makeRow_38 : decode cX3_makeRow 38 = .ok (.getfield 20, 3) := by decide +kernel
theorem dX3_makeRow_41 : decode cX3_makeRow 41 = .ok (.iload_n 1, 1) := by decide +kernel
theorem dX3_makeRow_42 : decode cX3_makeRow 42 = .ok (.aaload, 1) := by decide +kernel
theorem dX3_makeRow_43 : decode cX3_makeRow 43 = .ok (.iload 6, 2) := by decide +kernel
theorem dX3_makeRow_45 : decode cX3_makeRow 45 = .ok (.iload_n 2, 1) := by decide +kernel
theorem dX3_makeRow_46 : decode cX3_makeRow 46 = .ok (.iload 4, 2) := by decide +kernel
theorem dX3_makeRow_48 : decode cX3_makeRow 48 = .ok (.iload 6, 2) := by decide +kernel
theorem dX3_makeRow_50 : decode cX3_makeRow 50 = .ok (.iload 5, 2) := by decide +kernel
theorem dX3_makeRow_52 : decode cX3_makeRow 52 = .ok (.imul, 1) := by decide +kernel
theorem dX3_makeRow_53 : decode cX3_makeRow 53 = .ok (.iadd, 1) := by decide +kernel
theorem dX3_makeRow_54 : decode cX3_makeRow 54 = .ok (.invokestatic 23, 3) := by decide +kernel
theorem dX3_makeRow_57 : decode cX3_makeRow 57 = .ok (.iastore, 1) := by decide +kernel
theorem dX3_makeRow_58 : decode cX3_makeRow 58 = .ok (.iinc 6 1, 3) := by decide +kernel
theorem dX3_makeRow_61 : decode cX3_makeRow 61 = .ok (.goto (-35), 3) := by decide +kernel
theorem dX3_makeRow_64 : decode cX3_makeRow 64 = .ok (.return_, 1) := by decide +kernel
theorem dX3_cutTo_0 : decode cX3_cutTo 0 = .ok (.iload_n 0, 1) := by decide +kernel
theorem dX3_cutTo_1 : decode cX3_cutTo 1 = .ok (.ifCond .ne 6, 3) := by decide +kernel
theorem dX3_cutTo_4 : decode cX3_cutTo 4 = .ok (.iload_n 1, 1) := by decide +kernel
theorem dX3_cutTo_5 : decode cX3_cutTo 5 = .ok (.i2b, 1) := by decide +kernel
theorem dX3_cutTo_6 : decode cX3_cutTo 6 = .ok (.ireturn, 1) := by decide +kernel
theorem dX3_cutTo_7 : decode cX3_cutTo 7 = .ok (.iload_n 0, 1) := by decide +kernel
theorem dX3_cutTo_8 : decode cX3_cutTo 8 = .ok (.iconst 1, 1) := by decide +kernel
theorem dX3_cutTo_9 : decode cX3_cutTo 9 = .ok (.if_icmp .ne 8, 3) := by decide +kernel
theorem dX3_cutTo_12 : decode cX3_cutTo 12 = .ok (.iload_n 1, 1) := by decide +kernel
theorem dX3_cutTo_13 : decode cX3_cutTo 13 = .ok (.i2s, 1) := by decide +kernel
theorem dX3_cutTo_14 : decode cX3_cutTo 14 = .ok (.goto 4, 3) := by decide +kernel
theorem dX3_cutTo_17 : decode cX3_cutTo 17 = .ok (.iload_n 1, 1) := by decide +kernel
theorem dX3_cutTo_18 : decode cX3_cutTo 18 = .ok (.ireturn, 1) := by decide +kernel
theorem dX3_isAbsent_0 : decode cX3_isAbsent 0 = .ok (.aload_n 0, 1) := by decide +kernel
theorem dX3_isAbsent_1 : decode cX3_isAbsent 1 = .ok (.getfield 11, 3) := by decide +kernel
theorem dX3_isAbsent_4 : decode cX3_isAbsent 4 = .ok (.iload_n 1, 1) := by decide +kernel
theorem dX3_isAbsent_5 : decode cX3_isAbsent 5 = .ok (.iaload, 1) := by decide +kernel
theorem dX3_isAbsent_6 : decode cX3_isAbsent 6 = .ok (.iconst 3, 1) := by decide +kernel
theorem dX3_isAbsent_7 : decode cX3_isAbsent 7 = .ok (.if_icmp .ne 7, 3) := by decide +kernel
theorem dX3_isAbsent_10 : decode cX3_isAbsent 10 = .ok (.iconst 1, 1) := by decide +kernel
theorem dX3_isAbsent_11 : decode cX3_isAbsent 11 = .ok (.goto 4, 3) := by decide +kernel
theorem dX3_isAbsent_14 : decode cX3_isAbsent 14 = .ok (.iconst 0, 1) := by decide +kernel
theorem dX3_isAbsent_15 : decode cX3_isAbsent 15 = .ok (.ireturn, 1) := by decide +kernel
theorem dX3_alike_0 : decode cX3_alike 0 = .ok (.aload_n 0, 1) := by decide +kernel
theorem dX3_alike_1 : decode cX3_alike 1 = .ok (.getfield 11, 3) := by decide +kernel
theorem dX3_alike_4 : decode cX3_alike 4 = .ok (.iload_n 1, 1) := by decide +kernel
theorem dX3_alike_5 : decode cX3_alike 5 = .ok (.iaload, 1) := by decide +kernel
theorem dX3_alike_6 : decode cX3_alike 6 = .ok (.aload_n 0, 1) := by decide +kernel
theorem dX3_alike_7 : decode cX3_alike 7 = .ok (.getfield 11, 3) := by decide +kernel
theorem dX3_alike_10 : decode cX3_alike 10 = .ok (.iload_n 2, 1) := by decide +kernel
theorem dX3_alike_11 : decode cX3_alike 11 = .ok (.iaload, 1) := by decide +kernel
theorem dX3_alike_12 : decode cX3_alike 12 = .ok (.if_icmp .ne 7, 3) := by decide +kernel
theorem dX3_alike_15 : decode cX3_alike 15 = .ok (.iconst 1, 1) := by decide +kernel
theorem dX3_alike_16 : decode cX3_alike 16 = .ok (.goto 4, 3) := by decide +kernel
theorem dX3_alike_19 : decode cX3_alike 19 = .ok (.iconst 0, 1) := by decide +kernel
theorem dX3_alike_20 : decode cX3_alike 20 = .ok (.ireturn, 1) := by decide +kernel
theorem dX3_holds_0 : decode cX3_holds 0 = .ok (.iload_n 3, 1) := by decide +kernel
theorem dX3_holds_1 : decode cX3_holds 1 = .ok (.ifCond .lt 33, 3) := by decide +kernel
theorem dX3_holds_4 : decode cX3_holds 4 = .ok (.iload_n 2, 1) := by decide +kernel
theorem dX3_holds_5 : decode cX3_holds 5 = .ok (.iconst 0, 1) := by decide +kernel
theorem dX3_holds_6 : decode cX3_holds 6 = .ok (.aload_n 0, 1) := by decide +kernel
theorem dX3_holds_7 : decode cX3_holds 7 = .ok (.getfield 15, 3) := by decide +kernel
theorem dX3_holds_10 : decode cX3_holds 10 = .ok (.iload_n 1, 1) := by decide +kernel
theorem dX3_holds_11 : decode cX3_holds 11 = .ok (.iaload, 1) := by decide +kernel
theorem dX3_holds_12 : decode cX3_holds 12 = .ok (.invokestatic 27, 3) := by decide +kernel
theorem dX3_holds_15 : decode cX3_holds 15 = .ok (.ifCond .eq 19, 3) := by decide +kernel
theorem dX3_holds_18 : decode cX3_holds 18 = .ok (.iload_n 3, 1) := by decide +kernel
theorem dX3_holds_19 : decode cX3_holds 19 = .ok (.aload_n 0, 1) := by decide +kernel
theorem dX3_holds_20 : decode cX3_holds 20 = .ok (.getfield 15, 3) := by decide +kernel
theorem dX3_holds_23 : decode cX3_holds 23 = .ok (.iload_n 1, 1) := by decide +kernel
theorem dX3_holds_24 : decode cX3_holds 24 = .ok (.iaload, 1) := by decide +kernel
theorem dX3_holds_25 : decode cX3_holds 25 = .ok (.iload_n 2, 1) := by decide +kernel
theorem dX3_holds_26 : decode cX3_holds 26 = .ok (.isub, 1) := by decide +kernel
theorem dX3_holds_27 : decode cX3_holds 27 = .ok (.if_icmp .gt 7, 3) := by decide +kernel
theorem dX3_holds_30 : decode cX3_holds 30 = .ok (.iconst 1, 1) := by decide +kernel
theorem dX3_holds_31 : decode cX3_holds 31 = .ok (.goto 4, 3) := by decide +kernel
theorem dX3_holds_34 : decode cX3_holds 34 = .ok (.iconst 0, 1) := by decide +kernel
theorem dX3_holds_35 : decode cX3_holds 35 = .ok (.ireturn, 1) := by decide +kernel
theorem dX3_carry_0 : decode cX3_carry 0 = .ok (.aload_n 0, 1) := by decide +kernel
theorem dX3_carry_1 : decode cX3_carry 1 = .ok (.getfield 20, 3) := by decide +kernel
theorem dX3_carry_4 : decode cX3_carry 4 = .ok (.iload_n 1, 1) := by decide +kernel
theorem dX3_carry_5 : decode cX3_carry 5 = .ok (.aaload, 1) := by decide +kernel
theorem dX3_carry_6 : decode cX3_carry 6 = .ok (.iload_n 2, 1) := by decide +kernel
theorem dX3_carry_7 : decode cX3_carry 7 = .ok (.aload_n 0, 1) := by decide +kernel
theorem dX3_carry_8 : decode cX3_carry 8 = .ok (.getfield 20, 3) := by decide +kernel
theorem dX3_carry_11 : decode cX3_carry 11 = .ok (.iload_n 3, 1) := by decide +kernel
theorem dX3_carry_12 : decode cX3_carry 12 = .ok (.aaload, 1) := by decide +kernel
theorem dX3_carry_13 : decode cX3_carry 13 = .ok (.iload 4, 2) := by decide +kernel
theorem dX3_carry_15 : decode cX3_carry 15 = .ok (.iload 5, 2) := by decide +kernel
theorem dX3_carry_17 : decode cX3_carry 17 = .ok (.invokestatic 31, 3) := by decide +kernel
theorem dX3_carry_20 : decode cX3_carry 20 = .ok (.return_, 1) := by decide +kernel
theorem dX3_glideOf_0 : decode cX3_glideOf 0 = .ok (.iload_n 2, 1) := by decide +kernel
theorem dX3_glideOf_1 : decode cX3_glideOf 1 = .ok (.bipush 125, 2) := by decide +kernel
theorem dX3_glideOf_3 : decode cX3_glideOf 3 = .ok (.idiv, 1) := by decide +kernel
theorem dX3_glideOf_4 : decode cX3_glideOf 4 = .ok (.istore_n 3, 1) := by decide +kernel
theorem dX3_glideOf_5 : decode cX3_glideOf 5 = .ok (.iload_n 3, 1) := by decide +kernel
theorem dX3_glideOf_6 : decode cX3_glideOf 6 = .ok (.iconst 0, 1) := by decide +kernel
theorem dX3_glideOf_7 : decode cX3_glideOf 7 = .ok (.aload_n 0, 1) := by decide +kernel
theorem dX3_glideOf_8 : decode cX3_glideOf 8 = .ok (.getfield 15, 3) := by decide +kernel
theorem dX3_glideOf_11 : decode cX3_glideOf 11 = .ok (.iload_n 1, 1) := by decide +kernel
theorem dX3_glideOf_12 : decode cX3_glideOf 12 = .ok (.iaload, 1) := by decide +kernel
theorem dX3_glideOf_13 : decode cX3_glideOf 13 = .ok (.iconst 1, 1) := by decide +kernel
theorem dX3_glideOf_14 : decode cX3_glideOf 14 = .ok (.isub, 1) := by decide +kernel
theorem dX3_glideOf_15 : decode cX3_glideOf 15 = .ok (.invokestatic 27, 3) := by decide +kernel
theorem dX3_glideOf_18 : decode cX3_glideOf 18 = .ok (.ifCond .ne 5, 3) := by decide +kernel
theorem dX3_glideOf_21 : decode cX3_glideOf 21 = .ok (.iconst 0, 1) := by decide +kernel
theorem dX3_glideOf_22 : decode cX3_glideOf 22 = .ok (.ireturn, 1) := by decide +kernel
theorem dX3_glideOf_23 : decode cX3_glideOf 23 = .ok (.sipush (-200), 3) := by decide +kernel
theorem dX3_glideOf_26 : decode cX3_glideOf 26 = .ok (.sipush 200, 3) := by decide +kernel
theorem dX3_glideOf_29 : decode cX3_glideOf 29 = .ok (.aload_n 0, 1) := by decide +kernel
theorem dX3_glideOf_30 : decode cX3_glideOf 30 = .ok (.getfield 20, 3) := by decide +kernel
theorem dX3_glideOf_33 : decode cX3_glideOf 33 = .ok (.iload_n 1, 1) := by decide +kernel
theorem dX3_glideOf_34 : decode cX3_glideOf 34 = .ok (.aaload, 1) := by decide +kernel
theorem dX3_glideOf_35 : decode cX3_glideOf 35 = .ok (.iload_n 3, 1) := by decide +kernel
theorem dX3_glideOf_36 : decode cX3_glideOf 36 = .ok (.iaload, 1) := by decide +kernel
theorem dX3_glideOf_37 : decode cX3_glideOf 37 = .ok (.invokestatic 37, 3) := by decide +kernel
theorem dX3_glideOf_40 : decode cX3_glideOf 40 = .ok (.invokestatic 42, 3) := by decide +kernel
theorem dX3_glideOf_43 : decode cX3_glideOf 43 = .ok (.ireturn, 1) := by decide +kernel
theorem dX4_init_0 : decode cX4_init 0 = .ok (.aload_n 0, 1) := by decide +kernel
theorem dX4_init_1 : decode cX4_init 1 = .ok (.invokespecial 3, 3) := by decide +kernel
theorem dX4_init_4 : decode cX4_init 4 = .ok (.aload_n 0, 1) := by decide +kernel
theorem dX4_init_5 : decode cX4_init 5 = .ok (.bipush 64, 2) := by decide +kernel
theorem dX4_init_7 : decode cX4_init 7 = .ok (.newarray .boolean, 2) := by decide +kernel
theorem dX4_init_9 : decode cX4_init 9 = .ok (.putfield 9, 3) := by decide +kernel
theorem dX4_init_12 : decode cX4_init 12 = .ok (.aload_n 0, 1) := by decide +kernel
theorem dX4_init_13 : decode cX4_init 13 = .ok (.bipush 64, 2) := by decide +kernel
theorem dX4_init_15 : decode cX4_init 15 = .ok (.newarray .int, 2) := by decide +kernel
theorem dX4_init_17 : decode cX4_init 17 = .ok (.putfield 15, 3) := by decide +kernel
theorem dX4_init_20 : decode cX4_init 20 = .ok (.aload_n 0, 1) := by decide +kernel
theorem dX4_init_21 : decode cX4_init 21 = .ok (.bipush 64, 2) := by decide +kernel
theorem dX4_init_23 : decode cX4_init 23 = .ok (.newarray .int, 2) := by decide +kernel
theorem dX4_init_25 : decode cX4_init 25 = .ok (.putfield 19, 3) := by decide +kernel
theorem dX4_init_28 : decode cX4_init 28 = .ok (.aload_n 0, 1) := by decide +kernel
theorem dX4_init_29 : decode cX4_init 29 = .ok (.sipush 384, 3) := by decide +kernel
theorem dX4_init_32 : decode cX4_init 32 = .ok (.newarray .int, 2) := by decide +kernel
theorem dX4_init_34 : decode cX4_init 34 = .ok (.putfield 22, 3) := by decide +kernel
theorem dX4_init_37 : decode cX4_init 37 = .ok (.aload_n 0, 1) := by decide +kernel
theorem dX4_init_38 : decode cX4_init 38 = .ok (.sipush 384, 3) := by decide +kernel
theorem dX4_init_41 : decode cX4_init 41 = .ok (.newarray .int, 2) := by decide +kernel
theorem dX4_init_43 : decode cX4_init 43 = .ok (.putfield 25, 3) := by decide +kernel
theorem dX4_init_46 : decode cX4_init 46 = .ok (.return_, 1) := by decide +kernel
theorem dX4_forgetAll_0 : decode cX4_forgetAll 0 = .ok (.iconst 0, 1) := by decide +kernel
theorem dX4_forgetAll_1 : decode cX4_forgetAll 1 = .ok (.istore_n 1, 1) := by decide +kernel
theorem dX4_forgetAll_2 : decode cX4_forgetAll 2 = .ok (.iload_n 1, 1) := by decide +kernel
theorem dX4_forgetAll_3 : decode cX4_forgetAll 3 = .ok (.aload_n 0, 1) := by decide +kernel
theorem dX4_forgetAll_4 : decode cX4_forgetAll 4 = .ok (.getfield 9, 3) := by decide +kernel
theorem dX4_forgetAll_7 : decode cX4_forgetAll 7 = .ok (.arraylength, 1) := by decide +kernel
theorem dX4_forgetAll_8 : decode cX4_forgetAll 8 = .ok (.if_icmp .ge 16, 3) := by decide +kernel
theorem dX4_forgetAll_11 : decode cX4_forgetAll 11 = .ok (.aload_n 0, 1) := by decide +kernel
theorem dX4_forgetAll_12 : decode cX4_forgetAll 12 = .ok (.getfield 9, 3) := by decide +kernel
theorem dX4_forgetAll_15 : decode cX4_forgetAll 15 = .ok (.iload_n 1, 1) := by decide +kernel
theorem dX4_forgetAll_16 : decode cX4_forgetAll 16 = .ok (.iconst 0, 1) := by decide +kernel
theorem dX4_forgetAll_17 : decode cX4_forgetAll 17 = .ok (.bastore, 1) := by decide +kernel
theorem dX4_forgetAll_18 : decode cX4_forgetAll 18 = .ok (.iinc 1 1, 3) := by decide +kernel
theorem dX4_forgetAll_21 : decode cX4_forgetAll 21 = .ok (.goto (-19), 3) := by decide +kernel
theorem dX4_forgetAll_24 : decode cX4_forgetAll 24 = .ok (.return_, 1) := by decide +kernel
theorem dX4_line_0 : decode cX4_line 0 = .ok (.iload_n 0, 1) := by decide +kernel
theorem dX4_line_1 : decode cX4_line 1 = .ok (.bipush 16, 2) := by decide +kernel
theorem dX4_line_3 : decode cX4_line 3 = .ok (.imul, 1) := by decide +kernel
theorem dX4_line_4 : decode cX4_line 4 = .ok (.iload_n 1, 1) := by decide +kernel
theorem dX4_line_5 : decode cX4_line 5 = .ok (.iadd, 1) := by decide +kernel
theorem dX4_line_6 : decode cX4_line 6 = .ok (.ireturn, 1) := by decide +kernel
theorem dX4_spot_0 : decode cX4_spot 0 = .ok (.iload_n 0, 1) := by decide +kernel
theorem dX4_spot_1 : decode cX4_spot 1 = .ok (.iload_n 1, 1) := by decide +kernel
theorem dX4_spot_2 : decode cX4_spot 2 = .ok (.invokestatic 28, 3) := by decide +kernel
theorem dX4_spot_5 : decode cX4_spot 5 = .ok (.bipush 6, 2) := by decide +kernel
theorem dX4_spot_7 : decode cX4_spot 7 = .ok (.imul, 1) := by decide +kernel
theorem dX4_spot_8 : decode cX4_spot 8 = .ok (.iload_n 2, 1) := by decide +kernel
theorem dX4_spot_9 : decode cX4_spot 9 = .ok (.iadd, 1) := by decide +kernel
theorem dX4_spot_10 : decode cX4_spot 10 = .ok (.ireturn, 1) := by decide +kernel
theorem dX4_open_0 : decode cX4_open 0 = .ok (.aload_n 0, 1) := by decide +kernel
theorem dX4_open_1 : decode cX4_open 1 = .ok (.getfield 9, 3) := by decide +kernel
theorem dX4_open_4 : decode cX4_open 4 = .ok (.iload_n 1, 1) := by decide +kernel
theorem dX4_open_5 : decode cX4_open 5 = .ok (.iload_n 2, 1) := by decide +kernel
theorem dX4_open_6 : decode cX4_open 6 = .ok (.invokestatic 28, 3) := by decide +kernel
theorem dX4_open_9 : decode cX4_open 9 = .ok (.iconst 1, 1) := by decide +kernel
theorem dX4_open_10 : decode cX4_open 10 = .ok (.bastore, 1) := by decide +kernel
theorem dX4_open_11 : decode cX4_open 11 = .ok (.aload_n 0, 1) := by decide +kernel
theorem dX4_open_12 : decode cX4_open 12 = .ok (.getfield 19, 3) := by decide +kernel
theorem dX4_open_15 : decode cX4_open 15 = .ok (.iload_n 1, 1) := by decide +kernel
theorem dX4_open_16 : decode cX4_open 16 = .ok (.iload_n 2, 1) := by decide +kernel
theorem dX4_open_17 : decode cX4_open 17 = .ok (.invokestatic 28, 3) := by decide +kernel
theorem dX4_open_20 : decode cX4_open 20 = .ok (.iload_n 3, 1) := by decide +kernel
theorem dX4_open_21 : decode cX4_open 21 = .ok (.iastore, 1) := by decide +kernel
theorem dX4_open_22 : decode cX4_open 22 = .ok (.aload_n 0, 1) := by decide +kernel
theorem dX4_open_23 : decode cX4_open 23 = .ok (.iload_n 1, 1) := by decide +kernel
theorem dX4_open_24 : decode cX4_open 24 = .ok (.iload_n 2, 1) := by decide +kernel
theorem dX4_open_25 : decode cX4_open 25 = .ok (.iconst 0, 1) := by decide +kernel
theorem dX4_open_26 : decode cX4_open 26 = .ok (.iconst 0, 1) := by decide +kernel
theorem dX4_open_27 : decode cX4_open 27 = .ok (.iconst 0, 1) := by decide +kernel
theorem dX4_open_28 : decode cX4_open 28 = .ok (.invokevirtual 32, 3) := by decide +kernel
theorem dX4_open_31 : decode cX4_open 31 = .ok (.return_, 1) := by decide +kernel
theorem dX4_write_0 : decode cX4_write 0 = .ok (.aload_n 0, 1) := by decide +kernel
theorem dX4_write_1 : decode cX4_write 1 = .ok (.getfield 22, 3) := by decide +kernel
theorem dX4_write_4 : decode cX4_write 4 = .ok (.iload_n 1, 1) := by decide +kernel
theorem dX4_write_5 : decode cX4_write 5 = .ok (.iload_n 2, 1) := by decide +kernel
theorem dX4_write_6 : decode cX4_write 6 = .ok (.iload_n 3, 1) := by decide +kernel
theorem dX4_write_7 : decode cX4_write 7 = .ok (.invokestatic 36, 3) := by decide +kernel
theorem dX4_write_10 : decode cX4_write 10 = .ok (.iload 4, 2) := by decide +kernel
theorem dX4_write_12 : decode cX4_write 12 = .ok (.iastore, 1) := by decide +kernel
theorem dX4_write_13 : decode cX4_write 13 = .ok (.aload_n 0, 1) := by decide +kernel
theorem dX4_write_14 : decode cX4_write 14 = .ok (.getfield 25, 3) := by decide +kernel
theorem dX4_write_17 : decode cX4_write 17 = .ok (.iload_n 1, 1) := by decide +kernel
theorem dX4_write_18 : decode cX4_write 18 = .ok (.iload_n 2, 1) := by decide +kernel
theorem dX4_write_19 : decode cX4_write 19 = .ok (.iload_n 3, 1) := by decide +kernel
theorem dX4_write_20 : decode cX4_write 20 = .ok (.invokestatic 36, 3) := by decide +kernel
theorem dX4_write_23 : decode cX4_write 23 = .ok (.iload 5, 2) := by decide +kernel
theorem dX4_write_25 : decode cX4_write 25 = .ok (.iastore, 1) := by decide +kernel
theorem dX4_write_26 : decode cX4_write 26 = .ok (.return_, 1) := by decide +kernel
theorem dX4_addUp_0 : decode cX4_addUp 0 = .ok (.iconst 0, 1) := by decide +kernel
theorem dX4_addUp_1 : decode cX4_addUp 1 = .ok (.istore 4, 2) := by decide +kernel
theorem dX4_addUp_3 : decode cX4_addUp 3 = .ok (.iconst 1, 1) := by decide +kernel
theorem dX4_addUp_4 : decode cX4_addUp 4 = .ok (.istore 5, 2) := by decide +kernel
theorem dX4_addUp_6 : decode cX4_addUp 6 = .ok (.iload 5, 2) := by decide +kernel
theorem dX4_addUp_8 : decode cX4_addUp 8 = .ok (.iload_n 3, 1) := by decide +kernel
theorem dX4_addUp_9 : decode cX4_addUp 9 = .ok (.if_icmp .ge 24, 3) := by decide +kernel
theorem dX4_addUp_12 : decode cX4_addUp 12 = .ok (.aload_n 0, 1) := by decide +kernel
theorem dX4_addUp_13 : decode cX4_addUp 13 = .ok (.iload_n 1, 1) := by decide +kernel
theorem dX4_addUp_14 : decode cX4_addUp 14 = .ok (.iload_n 2, 1) := by decide +kernel
theorem dX4_addUp_15 : decode cX4_addUp 15 = .ok (.iload 5, 2) := by decide +kernel
theorem dX4_addUp_17 : decode cX4_addUp 17 = .ok (.invokevirtual 40, 3) := by decide +kernel
theorem dX4_addUp_20 : decode cX4_addUp 20 = .ok (.ifCond .eq 7, 3) := by decide +kernel
theorem dX4_addUp_23 : decode cX4_addUp 23 = .ok (.iload 5, 2) := by decide +kernel
theorem dX4_addUp_25 : decode cX4_addUp 25 = .ok (.istore 4, 2) := by decide +kernel
theorem dX4_addUp_27 : decode cX4_addUp 27 = .ok (.iinc 5 1, 3) := by decide +kernel
theorem dX4_addUp_30 : decode cX4_addUp 30 = .ok (.goto (-24), 3) := by decide +kernel
theorem dX4_addUp_33 : decode cX4_addUp 33 = .ok (.iload 4, 2) := by decide +kernel
theorem dX4_addUp_35 : decode cX4_addUp 35 = .ok (.iload_n 3, 1) := by decide +kernel
theorem dX4_addUp_36 : decode cX4_addUp 36 = .ok (.iconst 1, 1) := by decide +kernel
theorem dX4_addUp_37 : decode cX4_addUp 37 = .ok (.isub, 1) := by decide +kernel
theorem dX4_addUp_38 : decode cX4_addUp 38 = .ok (.if_icmp .ne 7, 3) := by decide +kernel
theorem dX4_addUp_41 : decode cX4_addUp 41 = .ok (.iconst 0, 1) := by decide +kernel
theorem dX4_addUp_42 : decode cX4_addUp 42 = .ok (.goto 6, 3) := by decide +kernel
theorem dX4_addUp_45 : decode cX4_addUp 45 = .ok (.sipush 10000, 3) := by decide +kernel
theorem dX4_addUp_48 : decode cX4_addUp 48 = .ok (.istore 5, 2) := by decide +kernel
theorem dX4_addUp_50 : decode cX4_addUp 50 = .ok (.aload_n 0, 1) := by decide +kernel
theorem dX4_addUp_51 : decode cX4_addUp 51 = .ok (.getfield 15, 3) := by decide +kernel
theorem dX4_addUp_54 : decode cX4_addUp 54 = .ok (.iload_n 1, 1) := by decide +kernel
theorem dX4_addUp_55 : decode cX4_addUp 55 = .ok (.iload_n 2, 1) := by decide +kernel
theorem dX4_addUp_56 : decode cX4_addUp 56 = .ok (.invokestatic 28, 3) := by decide +kernel
theorem dX4_addUp_59 : decode cX4_addUp 59 = .ok (.aload_n 0, 1) := by decide +kernel
theorem dX4_addUp_60 : decode cX4_addUp 60 = .ok (.iload_n 1, 1) := by decide +kernel
theorem dX4_addUp_61 : decode cX4_addUp 61 = .ok (.iload_n 2, 1) := by decide +kernel
theorem dX4_addUp_62 : decode cX4_addUp 62 = .ok (.iload 4, 2) := by decide +kernel
theorem dX4_addUp_64 : decode cX4_addUp 64 = .ok (.invokevirtual 44, 3) := by decide +kernel
theorem dX4_addUp_67 : decode cX4_addUp 67 = .ok (.iload 5, 2) := by decide +kernel
theorem dX4_addUp_69 : decode cX4_addUp 69 = .ok (.iadd, 1) := by decide +kernel
theorem dX4_addUp_70 : decode cX4_addUp 70 = .ok (.iastore, 1) := by decide +kernel
theorem dX4_addUp_71 : decode cX4_addUp 71 = .ok (.return_, 1) := by decide +kernel
theorem dX4_hasDown_0 : decode cX4_hasDown 0 = .ok (.iload_n 1, 1) := by decide +kernel
theorem dX4_hasDown_1 : decode cX4_hasDown 1 = .ok (.iconst 0, 1) := by decide +kernel
theorem dX4_hasDown_2 : decode cX4_hasDown 2 = .ok (.iconst 3, 1) := by decide +kernel
theorem dX4_hasDown_3 : decode cX4_hasDown 3 = .ok (.invokestatic 47, 3) := by decide +kernel
theorem dX4_hasDown_6 : decode cX4_hasDown 6 = .ok (.ifCond .eq 30, 3) := by decide +kernel
theorem dX4_hasDown_9 : decode cX4_hasDown 9 = .ok (.iload_n 2, 1) := by decide +kernel
theorem dX4_hasDown_10 : decode cX4_hasDown 10 = .ok (.iconst 0, 1) := by decide +kernel
theorem dX4_hasDown_11 : decode cX4_hasDown 11 = .ok (.bipush 15, 2) := by decide +kernel
theorem dX4_hasDown_13 : decode cX4_hasDown 13 = .ok (.invokestatic 47, 3) := by decide +kernel
theorem dX4_hasDown_16 : decode cX4_hasDown 16 = .ok (.ifCond .eq 20, 3) := by decide +kernel
theorem dX4_hasDown_19 : decode cX4_hasDown 19 = .ok (.aload_n 0, 1) := by decide +kernel
theorem dX4_hasDown_20 : decode cX4_hasDown 20 = .ok (.getfield 9, 3) := by decide +kernel
theorem dX4_hasDown_23 : decode cX4_hasDown 23 = .ok (.iload_n 1, 1) := by decide +kernel
theorem dX4_hasDown_24 : decode cX4_hasDown 24 = .ok (.iload_n 2, 1) := by decide +kernel
theorem dX4_hasDown_25 : decode cX4_hasDown 25 = .ok (.invokestatic 28, 3) := by decide +kernel
theorem dX4_hasDown_28 : decode cX4_hasDown 28 = .ok (.baload, 1) := by decide +kernel
theorem dX4_hasDown_29 : decode cX4_hasDown 29 = .ok (.ifCond .eq 7, 3) := by decide +kernel
theorem dX4_hasDown_32 : decode cX4_hasDown 32 = .ok (.iconst 1, 1) := by decide +kernel
theorem dX4_hasDown_33 : decode cX4_hasDown 33 = .ok (.goto 4, 3) := by decide +kernel
theorem dX4_hasDown_36 : decode cX4_hasDown 36 = .ok (.iconst 0, 1) := by decide +kernel
theorem dX4_hasDown_37 : decode cX4_hasDown 37 = .ok (.ireturn, 1) := by decide +kernel
theorem dX4_timeAt_0 : decode cX4_timeAt 0 = .ok (.aload_n 0, 1) := by decide +kernel
theorem dX4_timeAt_1 : decode cX4_timeAt 1 = .ok (.getfield 22, 3) := by decide +kernel
theorem dX4_timeAt_4 : decode cX4_timeAt 4 = .ok (.iload_n 1, 1) := by decide +kernel
theorem dX4_timeAt_5 : decode cX4_timeAt 5 = .ok (.iload_n 2, 1) := by decide +kernel
theorem dX4_timeAt_6 : decode cX4_timeAt 6 = .ok (.iload_n 3, 1) := by decide +kernel
theorem dX4_timeAt_7 : decode cX4_timeAt 7 = .ok (.invokestatic 36, 3) := by decide +kernel
theorem dX4_timeAt_10 : decode cX4_timeAt 10 = .ok (.iaload, 1) := by decide +kernel
theorem dX4_timeAt_11 : decode cX4_timeAt 11 = .ok (.ireturn, 1) := by decide +kernel
theorem dX4_doubleAt_0 : decode cX4_doubleAt 0 = .ok (.aload_n 0, 1) := by decide +kernel
theorem dX4_doubleAt_1 : decode cX4_doubleAt 1 = .ok (.getfield 25, 3) := by decide +kernel
theorem dX4_doubleAt_4 : decode cX4_doubleAt 4 = .ok (.iload_n 1, 1) := by decide +kernel
theorem dX4_doubleAt_5 : decode cX4_doubleAt 5 = .ok (.iload_n 2, 1) := by decide +kernel
theorem dX4_doubleAt_6 : decode cX4_doubleAt 6 = .ok (.iload_n 3, 1) := by decide +kernel
theorem dX4_doubleAt_7 : decode cX4_doubleAt 7 = .ok (.invokestatic 36, 3) := by decide +kernel
theorem dX4_doubleAt_10 : decode cX4_doubleAt 10 = .ok (.iaload, 1) := by decide +kernel
theorem dX4_doubleAt_11 : decode cX4_doubleAt 11 = .ok (.ireturn, 1) := by decide +kernel
theorem dX4_totalOf_0 : decode cX4_totalOf 0 = .ok (.aload_n 0, 1) := by decide +kernel
theorem dX4_totalOf_1 : decode cX4_totalOf 1 = .ok (.getfield 15, 3) := by decide +kernel
theorem dX4_totalOf_4 : decode cX4_totalOf 4 = .ok (.iload_n 1, 1) := by decide +kernel
theorem dX4_totalOf_5 : decode cX4_totalOf 5 = .ok (.iload_n 2, 1) := by decide +kernel
theorem dX4_totalOf_6 : decode cX4_totalOf 6 = .ok (.invokestatic 28, 3) := by decide +kernel
theorem dX4_totalOf_9 : decode cX4_totalOf 9 = .ok (.iaload, 1) := by decide +kernel
theorem dX4_totalOf_10 : decode cX4_totalOf 10 = .ok (.ireturn, 1) := by decide +kernel
theorem dX4_iceOf_0 : decode cX4_iceOf 0 = .ok (.iconst 0, 1) := by decide +kernel
theorem dX4_iceOf_1 : decode cX4_iceOf 1 = .ok (.istore_n 3, 1) := by decide +kernel
theorem dX4_iceOf_2 : decode cX4_iceOf 2 = .ok (.iconst 0, 1) := by decide +kernel
theorem dX4_iceOf_3 : decode cX4_iceOf 3 = .ok (.istore 4, 2) := by decide +kernel
theorem dX4_iceOf_5 : decode cX4_iceOf 5 = .ok (.iconst 0, 1) := by decide +kernel
theorem dX4_iceOf_6 : decode cX4_iceOf 6 = .ok (.istore 5, 2) := by decide +kernel
theorem dX4_iceOf_8 : decode cX4_iceOf 8 = .ok (.iload 5, 2) := by decide +kernel
theorem dX4_iceOf_10 : decode cX4_iceOf 10 = .ok (.bipush 16, 2) := by decide +kernel
theorem dX4_iceOf_12 : decode cX4_iceOf 12 = .ok (.if_icmp .ge 38, 3) := by decide +kernel
theorem dX4_iceOf_15 : decode cX4_iceOf 15 = .ok (.aload_n 0, 1) := by decide +kernel
theorem dX4_iceOf_16 : decode cX4_iceOf 16 = .ok (.iload_n 1, 1) := by decide +kernel
theorem dX4_iceOf_17 : decode cX4_iceOf 17 = .ok (.iload 5, 2) := by decide +kernel
theorem dX4_iceOf_19 : decode cX4_iceOf 19 = .ok (.invokevirtual 50, 3) := by decide +kernel
theorem dX4_iceOf_22 : decode cX4_iceOf 22 = .ok (.ifCond .eq 22, 3) := by decide +kernel
theorem dX4_iceOf_25 : decode cX4_iceOf 25 = .ok (.iinc 3 1, 3) := by decide +kernel
theorem dX4_iceOf_28 : decode cX4_iceOf 28 = .ok (.iload 4, 2) := by decide +kernel
theorem dX4_iceOf_30 : decode cX4_iceOf 30 = .ok (.aload_n 0, 1) := by decide +kernel
theorem dX4_iceOf_31 : decode cX4_iceOf 31 = .ok (.getfield 19, 3) := by decide +kernel
theorem dX4_iceOf_34 : decode cX4_iceOf 34 = .ok (.iload_n 1, 1) := by decide +kernel
theorem dX4_iceOf_35 : decode cX4_iceOf 35 = .ok (.iload 5, 2) := by decide +kernel
theorem dX4_iceOf_37 : decode cX4_iceOf 37 = .ok (.invokestatic 28, 3) := by decide +kernel
theorem dX4_iceOf_40 : decode cX4_iceOf 40 = .ok (.iaload, 1) := by decide +kernel
theorem dX4_iceOf_41 : decode cX4_iceOf 41 = .ok (.iadd, 1) := by decide +kernel
theorem dX4_iceOf_42 : decode cX4_iceOf 42 = .ok (.istore 4, 2) := by decide +kernel
theorem dX4_iceOf_44 : decode cX4_iceOf 44 = .ok (.iinc 5 1, 3) := by decide +kernel
theorem dX4_iceOf_47 : decode cX4_iceOf 47 = .ok (.goto (-39), 3) := by decide +kernel
theorem dX4_iceOf_50 : decode cX4_iceOf 50 = .ok (.iload_n 3, 1) := by decide +kernel
theorem dX4_iceOf_51 : decode cX4_iceOf 51 = .ok (.aload_n 0, 1) := by decide +kernel
theorem dX4_iceOf_52 : decode cX4_iceOf 52 = .ok (.getfield 19, 3) := by decide +kernel
theorem dX4_iceOf_55 : decode cX4_iceOf 55 = .ok (.iload_n 1, 1) := by decide +kernel
theorem dX4_iceOf_56 : decode cX4_iceOf 56 = .ok (.iload_n 2, 1) := by decide +kernel
theorem dX4_iceOf_57 : decode cX4_iceOf 57 = .ok (.invokestatic 28, 3) := by decide +kernel
theorem dX4_iceOf_60 : decode cX4_iceOf 60 = .ok (.iaload, 1) := by decide +kernel
theorem dX4_iceOf_61 : decode cX4_iceOf 61 = .ok (.imul, 1) := by decide +kernel
theorem dX4_iceOf_62 : decode cX4_iceOf 62 = .ok (.iload 4, 2) := by decide +kernel
theorem dX4_iceOf_64 : decode cX4_iceOf 64 = .ok (.isub, 1) := by decide +kernel
theorem dX4_iceOf_65 : decode cX4_iceOf 65 = .ok (.ireturn, 1) := by decide +kernel
theorem dX4_lostIn_0 : decode cX4_lostIn 0 = .ok (.iload_n 3, 1) := by decide +kernel
theorem dX4_lostIn_1 : decode cX4_lostIn 1 = .ok (.istore 5, 2) := by decide +kernel
theorem dX4_lostIn_3 : decode cX4_lostIn 3 = .ok (.iload 5, 2) := by decide +kernel
theorem dX4_lostIn_5 : decode cX4_lostIn 5 = .ok (.ifCond .le 20, 3) := by decide +kernel
theorem dX4_lostIn_8 : decode cX4_lostIn 8 = .ok (.aload_n 0, 1) := by decide +kernel
theorem dX4_lostIn_9 : decode cX4_lostIn 9 = .ok (.iload_n 1, 1) := by decide +kernel
theorem dX4_lostIn_10 : decode cX4_lostIn 10 = .ok (.iload_n 2, 1) := by decide +kernel
theorem dX4_lostIn_11 : decode cX4_lostIn 11 = .ok (.iload 5, 2) := by decide +kernel
theorem dX4_lostIn_13 : decode cX4_lostIn 13 = .ok (.invokevirtual 40, 3) := by decide +kernel
theorem dX4_lostIn_16 : decode cX4_lostIn 16 = .ok (.ifCond .ne 9, 3) := by decide +kernel
theorem dX4_lostIn_19 : decode cX4_lostIn 19 = .ok (.iinc 5 (-1), 3) := by decide +kernel
theorem dX4_lostIn_22 : decode cX4_lostIn 22 = .ok (.goto (-19), 3) := by decide +kernel
theorem dX4_lostIn_25 : decode cX4_lostIn 25 = .ok (.iload_n 3, 1) := by decide +kernel
theorem dX4_lostIn_26 : decode cX4_lostIn 26 = .ok (.iconst 1, 1) := by decide +kernel
theorem dX4_lostIn_27 : decode cX4_lostIn 27 = .ok (.iadd, 1) := by decide +kernel
theorem dX4_lostIn_28 : decode cX4_lostIn 28 = .ok (.istore 6, 2) := by decide +kernel
theorem dX4_lostIn_30 : decode cX4_lostIn 30 = .ok (.iload 6, 2) := by decide +kernel
theorem dX4_lostIn_32 : decode cX4_lostIn 32 = .ok (.iload 4, 2) := by decide +kernel
theorem dX4_lostIn_34 : decode cX4_lostIn 34 = .ok (.if_icmp .ge 20, 3) := by decide +kernel
theorem dX4_lostIn_37 : decode cX4_lostIn 37 = .ok (.aload_n 0, 1) := by decide +kernel
theorem dX4_lostIn_38 : decode cX4_lostIn 38 = .ok (.iload_n 1, 1) := by decide +kernel
theorem dX4_lostIn_39 : decode cX4_lostIn 39 = .ok (.iload_n 2, 1) := by decide +kernel
theorem dX4_lostIn_40 : decode cX4_lostIn 40 = .ok (.iload 6, 2) := by decide +kernel
theorem dX4_lostIn_42 : decode cX4_lostIn 42 = .ok (.invokevirtual 40, 3) := by decide +kernel
theorem dX4_lostIn_45 : decode cX4_lostIn 45 = .ok (.ifCond .ne 9, 3) := by decide +kernel
theorem dX4_lostIn_48 : decode cX4_lostIn 48 = .ok (.iinc 6 1, 3) := by decide +kernel
theorem dX4_lostIn_51 : decode cX4_lostIn 51 = .ok (.goto (-21), 3) := by decide +kernel
theorem dX4_lostIn_54 : decode cX4_lostIn 54 = .ok (.iload 6, 2) := by decide +kernel
theorem dX4_lostIn_56 : decode cX4_lostIn 56 = .ok (.iload 5, 2) := by decide +kernel
theorem dX4_lostIn_58 : decode cX4_lostIn 58 = .ok (.isub, 1) := by decide +kernel
theorem dX4_lostIn_59 : decode cX4_lostIn 59 = .ok (.istore 7, 2) := by decide +kernel
theorem dX4_lostIn_61 : decode cX4_lostIn 61 = .ok (.iload 6, 2) := by decide +kernel
theorem dX4_lostIn_63 : decode cX4_lostIn 63 = .ok (.iload 4, 2) := by decide +kernel
theorem dX4_lostIn_65 : decode cX4_lostIn 65 = .ok (.if_icmp .ge 9, 3) := by decide +kernel
theorem dX4_lostIn_68 : decode cX4_lostIn 68 = .ok (.iload 7, 2) := by decide +kernel
theorem dX4_lostIn_70 : decode cX4_lostIn 70 = .ok (.iconst 1, 1) := by decide +kernel
theorem dX4_lostIn_71 : decode cX4_lostIn 71 = .ok (.if_icmp .ge 5, 3) := by decide +kernel
theorem dX4_lostIn_74 : decode cX4_lostIn 74 = .ok (.iconst (-1), 1) := by decide +kernel
theorem dX4_lostIn_75 : decode cX4_lostIn 75 = .ok (.ireturn, 1) := by decide +kernel
theorem dX4_lostIn_76 : decode cX4_lostIn 76 = .ok (.aload_n 0, 1) := by decide +kernel
theorem dX4_lostIn_77 : decode cX4_lostIn 77 = .ok (.iload_n 1, 1) := by decide +kernel
theorem dX4_lostIn_78 : decode cX4_lostIn 78 = .ok (.iload_n 2, 1) := by decide +kernel
theorem dX4_lostIn_79 : decode cX4_lostIn 79 = .ok (.iload 6, 2) := by decide +kernel
theorem dX4_lostIn_81 : decode cX4_lostIn 81 = .ok (.invokevirtual 44, 3) := by decide +kernel
theorem dX4_lostIn_84 : decode cX4_lostIn 84 = .ok (.aload_n 0, 1) := by decide +kernel
theorem dX4_lostIn_85 : decode cX4_lostIn 85 = .ok (.iload_n 1, 1) := by decide +kernel
theorem dX4_lostIn_86 : decode cX4_lostIn 86 = .ok (.iload_n 2, 1) := by decide +kernel
theorem dX4_lostIn_87 : decode cX4_lostIn 87 = .ok (.iload 5, 2) := by decide +kernel
theorem dX4_lostIn_89 : decode cX4_lostIn 89 = .ok (.invokevirtual 44, 3) := by decide +kernel
theorem dX4_lostIn_92 : decode cX4_lostIn 92 = .ok (.isub, 1) := by decide +kernel
theorem dX4_lostIn_93 : decode cX4_lostIn 93 = .ok (.aload_n 0, 1) := by decide +kernel
theorem dX4_lostIn_94 : decode cX4_lostIn 94 = .ok (.iload_n 1, 1) := by decide +kernel
theorem dX4_lostIn_95 : decode cX4_lostIn 95 = .ok (.iload_n 2, 1) := by decide +kernel
theorem dX4_lostIn_96 : decode cX4_lostIn 96 = .ok (.iload 5, 2) := by decide +kernel
theorem dX4_lostIn_98 : decode cX4_lostIn 98 = .ok (.iload 6, 2) := by decide +kernel
theorem dX4_lostIn_100 : decode cX4_lostIn 100 = .ok (.invokevirtual 54, 3) := by decide +kernel
theorem dX4_lostIn_103 : decode cX4_lostIn 103 = .ok (.isub, 1) := by decide +kernel
theorem dX4_lostIn_104 : decode cX4_lostIn 104 = .ok (.istore 8, 2) := by decide +kernel
theorem dX4_lostIn_106 : decode cX4_lostIn 106 = .ok (.iload 8, 2) := by decide +kernel
theorem dX4_lostIn_108 : decode cX4_lostIn 108 = .ok (.iload 7, 2) := by decide +kernel
theorem dX4_lostIn_110 : decode cX4_lostIn 110 = .ok (.idiv, 1) := by decide +kernel
theorem dX4_lostIn_111 : decode cX4_lostIn 111 = .ok (.iload_n 3, 1) := by decide +kernel
theorem dX4_lostIn_112 : decode cX4_lostIn 112 = .ok (.iload 5, 2) := by decide +kernel
theorem dX4_lostIn_114 : decode cX4_lostIn 114 = .ok (.isub, 1) := by decide +kernel
theorem dX4_lostIn_115 : decode cX4_lostIn 115 = .ok (.iload 8, 2) := by decide +kernel
theorem dX4_lostIn_117 : decode cX4_lostIn 117 = .ok (.iload 7, 2) := by decide +kernel
theorem dX4_lostIn_119 : decode cX4_lostIn 119 = .ok (.irem, 1) := by decide +kernel
theorem dX4_lostIn_120 : decode cX4_lostIn 120 = .ok (.if_icmp .ge 7, 3) := by decide +kernel
theorem dX4_lostIn_123 : decode cX4_lostIn 123 = .ok (.iconst 1, 1) := by decide +kernel
theorem dX4_lostIn_124 : decode cX4_lostIn 124 = .ok (.goto 4, 3) := by decide +kernel
theorem dX4_lostIn_127 : decode cX4_lostIn 127 = .ok (.iconst 0, 1) := by decide +kernel
theorem dX4_lostIn_128 : decode cX4_lostIn 128 = .ok (.iadd, 1) := by decide +kernel
theorem dX4_lostIn_129 : decode cX4_lostIn 129 = .ok (.ireturn, 1) := by decide +kernel
theorem dX4_leastBetween_0 : decode cX4_leastBetween 0 = .ok (.aload_n 0, 1) := by decide +kernel
theorem dX4_leastBetween_1 : decode cX4_leastBetween 1 = .ok (.iload_n 1, 1) := by decide +kernel
theorem dX4_leastBetween_2 : decode cX4_leastBetween 2 = .ok (.iload_n 2, 1) := by decide +kernel
theorem dX4_leastBetween_3 : decode cX4_leastBetween 3 = .ok (.iload 4, 2) := by decide +kernel
theorem dX4_leastBetween_5 : decode cX4_leastBetween 5 = .ok (.invokevirtual 44, 3) := by decide +kernel
theorem dX4_leastBetween_8 : decode cX4_leastBetween 8 = .ok (.aload_n 0, 1) := by decide +kernel
theorem dX4_leastBetween_9 : decode cX4_leastBetween 9 = .ok (.iload_n 1, 1) := by decide +kernel
theorem dX4_leastBetween_10 : decode cX4_leastBetween 10 = .ok (.iload_n 2, 1) := by decide +kernel
theorem dX4_leastBetween_11 : decode cX4_leastBetween 11 = .ok (.iload_n 3, 1) := by decide +kernel
theorem dX4_leastBetween_12 : decode cX4_leastBetween 12 = .ok (.invokevirtual 44, 3) := by decide +kernel
theorem dX4_leastBetween_15 : decode cX4_leastBetween 15 = .ok (.isub, 1) := by decide +kernel
theorem dX4_leastBetween_16 : decode cX4_leastBetween 16 = .ok (.istore 5, 2) := by decide +kernel
theorem dX4_leastBetween_18 : decode cX4_leastBetween 18 = .ok (.iconst 0, 1) := by decide +kernel
theorem dX4_leastBetween_19 : decode cX4_leastBetween 19 = .ok (.istore 6, 2) := by decide +kernel
theorem dX4_leastBetween_21 : decode cX4_leastBetween 21 = .ok (.iload 6, 2) := by decide +kernel
theorem dX4_leastBetween_23 : decode cX4_leastBetween 23 = .ok (.bipush 16, 2) := by decide +kernel
theorem dX4_leastBetween_25 : decode cX4_leastBetween 25 = .ok (.if_icmp .ge 67, 3) := by decide +kernel
theorem dX4_leastBetween_28 : decode cX4_leastBetween 28 = .ok (.aload_n 0, 1) := by decide +kernel
theorem dX4_leastBetween_29 : decode cX4_leastBetween 29 = .ok (.iload_n 1, 1) := by decide +kernel
theorem dX4_leastBetween_30 : decode cX4_leastBetween 30 = .ok (.iload 6, 2) := by decide +kernel
theorem dX4_leastBetween_32 : decode cX4_leastBetween 32 = .ok (.invokevirtual 50, 3) := by decide +kernel
theorem dX4_leastBetween_35 : decode cX4_leastBetween 35 = .ok (.ifCond .eq 51, 3) := by decide +kernel
theorem dX4_leastBetween_38 : decode cX4_leastBetween 38 = .ok (.aload_n 0, 1) := by decide +kernel
theorem dX4_leastBetween_39 : decode cX4_leastBetween 39 = .ok (.iload_n 1, 1) := by decide +kernel
theorem dX4_leastBetween_40 : decode cX4_leastBetween 40 = .ok (.iload 6, 2) := by decide +kernel
theorem dX4_leastBetween_42 : decode cX4_leastBetween 42 = .ok (.iload_n 3, 1) := by decide +kernel
theorem dX4_leastBetween_43 : decode cX4_leastBetween 43 = .ok (.invokevirtual 40, 3) := by decide +kernel
theorem dX4_leastBetween_46 : decode cX4_leastBetween 46 = .ok (.ifCond .eq 40, 3) := by decide +kernel
theorem dX4_leastBetween_49 : decode cX4_leastBetween 49 = .ok (.aload_n 0, 1) := by decide +kernel
theorem dX4_leastBetween_50 : decode cX4_leastBetween 50 = .ok (.iload_n 1, 1) := by decide +kernel
theorem dX4_leastBetween_51 : decode cX4_leastBetween 51 = .ok (.iload 6, 2) := by decide +kernel
theorem dX4_leastBetween_53 : decode cX4_leastBetween 53 = .ok (.iload 4, 2) := by decide +kernel
theorem dX4_leastBetween_55 : decode cX4_leastBetween 55 = .ok (.invokevirtual 40, 3) := by decide +kernel
theorem dX4_leastBetween_58 : decode cX4_leastBetween 58 = .ok (.ifCond .eq 28, 3) := by decide +kernel
theorem dX4_leastBetween_61 : decode cX4_leastBetween 61 = .ok (.iload 5, 2) := by decide +kernel
theorem dX4_leastBetween_63 : decode cX4_leastBetween 63 = .ok (.aload_n 0, 1) := by decide +kernel
theorem dX4_leastBetween_64 : decode cX4_leastBetween 64 = .ok (.iload_n 1, 1) := by decide +kernel
theorem dX4_leastBetween_65 : decode cX4_leastBetween 65 = .ok (.iload 6, 2) := by decide +kernel
theorem dX4_leastBetween_67 : decode cX4_leastBetween 67 = .ok (.iload 4, 2) := by decide +kernel
theorem dX4_leastBetween_69 : decode cX4_leastBetween 69 = .ok (.invokevirtual 44, 3) := by decide +kernel
theorem dX4_leastBetween_72 : decode cX4_leastBetween 72 = .ok (.aload_n 0, 1) := by decide +kernel
theorem dX4_leastBetween_73 : decode cX4_leastBetween 73 = .ok (.iload_n 1, 1) := by decide +kernel
theorem dX4_leastBetween_74 : decode cX4_leastBetween 74 = .ok (.iload 6, 2) := by decide +kernel
theorem dX4_leastBetween_76 : decode cX4_leastBetween 76 = .ok (.iload_n 3, 1) := by decide +kernel
theorem dX4_leastBetween_77 : decode cX4_leastBetween 77 = .ok (.invokevirtual 44, 3) := by decide +kernel
theorem dX4_leastBetween_80 : decode cX4_leastBetween 80 = .ok (.isub, 1) := by decide +kernel
theorem dX4_leastBetween_81 : decode cX4_leastBetween 81 = .ok (.invokestatic 58, 3) := by decide +kernel
theorem dX4_leastBetween_84 : decode cX4_leastBetween 84 = .ok (.istore 5, 2) := by decide +kernel
theorem dX4_leastBetween_86 : decode cX4_leastBetween 86 = .ok (.iinc 6 1, 3) := by decide +kernel
theorem dX4_leastBetween_89 : decode cX4_leastBetween 89 = .ok (.goto (-68), 3) := by decide +kernel
theorem dX4_leastBetween_92 : decode cX4_leastBetween 92 = .ok (.iload 5, 2) := by decide +kernel
theorem dX4_leastBetween_94 : decode cX4_leastBetween 94 = .ok (.ireturn, 1) := by decide +kernel
theorem dX4_isTimed_0 : decode cX4_isTimed 0 = .ok (.aload_n 0, 1) := by decide +kernel
theorem dX4_isTimed_1 : decode cX4_isTimed 1 = .ok (.iload_n 1, 1) := by decide +kernel
theorem dX4_isTimed_2 : decode cX4_isTimed 2 = .ok (.iload_n 2, 1) := by decide +kernel
theorem dX4_isTimed_3 : decode cX4_isTimed 3 = .ok (.iload_n 3, 1) := by decide +kernel
theorem dX4_isTimed_4 : decode cX4_isTimed 4 = .ok (.invokevirtual 44, 3) := by decide +kernel
theorem dX4_isTimed_7 : decode cX4_isTimed 7 = .ok (.ldc 63, 2) := by decide +kernel
theorem dX4_isTimed_9 : decode cX4_isTimed 9 = .ok (.if_icmp .eq 7, 3) := by decide +kernel
theorem dX4_isTimed_12 : decode cX4_isTimed 12 = .ok (.iconst 1, 1) := by decide +kernel
theorem dX4_isTimed_13 : decode cX4_isTimed 13 = .ok (.goto 4, 3) := by decide +kernel
theorem dX4_isTimed_16 : decode cX4_isTimed 16 = .ok (.iconst 0, 1) := by decide +kernel
theorem dX4_isTimed_17 : decode cX4_isTimed 17 = .ok (.ireturn, 1) := by decide +kernel
theorem dX5_init_0 : decode cX5_init 0 = .ok (.aload_n 0, 1) := by decide +kernel
theorem dX5_init_1 : decode cX5_init 1 = .ok (.invokespecial 3, 3) := by decide +kernel
theorem dX5_init_4 : decode cX5_init 4 = .ok (.aload_n 0, 1) := by decide +kernel
theorem dX5_init_5 : decode cX5_init 5 = .ok (.iconst 0, 1) := by decide +kernel
theorem dX5_init_6 : decode cX5_init 6 = .ok (.putfield 9, 3) := by decide +kernel
theorem dX5_init_9 : decode cX5_init 9 = .ok (.aload_n 0, 1) := by decide +kernel
theorem dX5_init_10 : decode cX5_init 10 = .ok (.bipush 16, 2) := by decide +kernel
theorem dX5_init_12 : decode cX5_init 12 = .ok (.newarray .int, 2) := by decide +kernel
theorem dX5_init_14 : decode cX5_init 14 = .ok (.putfield 15, 3) := by decide +kernel
theorem dX5_init_17 : decode cX5_init 17 = .ok (.aload_n 0, 1) := by decide +kernel
theorem dX5_init_18 : decode cX5_init 18 = .ok (.bipush 16, 2) := by decide +kernel
theorem dX5_init_20 : decode cX5_init 20 = .ok (.newarray .int, 2) := by decide +kernel
theorem dX5_init_22 : decode cX5_init 22 = .ok (.putfield 19, 3) := by decide +kernel
theorem dX5_init_25 : decode cX5_init 25 = .ok (.aload_n 0, 1) := by decide +kernel
theorem dX5_init_26 : decode cX5_init 26 = .ok (.bipush 16, 2) := by decide +kernel
theorem dX5_init_28 : decode cX5_init 28 = .ok (.newarray .int, 2) := by decide +kernel
theorem dX5_init_30 : decode cX5_init 30 = .ok (.putfield 22, 3) := by decide +kernel
theorem dX5_init_33 : decode cX5_init 33 = .ok (.aload_n 0, 1) := by decide +kernel
theorem dX5_init_34 : decode cX5_init 34 = .ok (.bipush 16, 2) := by decide +kernel
theorem dX5_init_36 : decode cX5_init 36 = .ok (.newarray .int, 2) := by decide +kernel
theorem dX5_init_38 : decode cX5_init 38 = .ok (.putfield 25, 3) := by decide +kernel
theorem dX5_init_41 : decode cX5_init 41 = .ok (.aload_n 0, 1) := by decide +kernel
theorem dX5_init_42 : decode cX5_init 42 = .ok (.bipush 16, 2) := by decide +kernel
theorem dX5_init_44 : decode cX5_init 44 = .ok (.newarray .int, 2) := by decide +kernel
theorem dX5_init_46 : decode cX5_init 46 = .ok (.putfield 28, 3) := by decide +kernel
theorem dX5_init_49 : decode cX5_init 49 = .ok (.return_, 1) := by decide +kernel
theorem dX5_add_0 : decode cX5_add 0 = .ok (.aload_n 0, 1) := by decide +kernel
theorem dX5_add_1 : decode cX5_add 1 = .ok (.getfield 9, 3) := by decide +kernel
theorem dX5_add_4 : decode cX5_add 4 = .ok (.istore 5, 2) := by decide +kernel
theorem dX5_add_6 : decode cX5_add 6 = .ok (.aload_n 0, 1) := by decide +kernel
theorem dX5_add_7 : decode cX5_add 7 = .ok (.getfield 15, 3) := by decide +kernel
theorem dX5_add_10 : decode cX5_add 10 = .ok (.iload 5, 2) := by decide +kernel
theorem dX5_add_12 : decode cX5_add 12 = .ok (.iload_n 1, 1) := by decide +kernel
theorem dX5_add_13 : decode cX5_add 13 = .ok (.iastore, 1) := by decide +kernel
theorem dX5_add_14 : decode cX5_add 14 = .ok (.aload_n 0, 1) := by decide +kernel
theorem dX5_add_15 : decode cX5_add 15 = .ok (.getfield 19, 3) := by decide +kernel
theorem dX5_add_18 : decode cX5_add 18 = .ok (.iload 5, 2) := by decide +kernel
theorem dX5_add_20 : decode cX5_add 20 = .ok (.iload_n 2, 1) := by decide +kernel
theorem dX5_add_21 : decode cX5_add 21 = .ok (.iastore, 1) := by decide +kernel
theorem dX5_add_22 : decode cX5_add 22 = .ok (.aload_n 0, 1) := by decide +kernel
theorem dX5_add_23 : decode cX5_add 23 = .ok (.getfield 22, 3) := by decide +kernel
theorem dX5_add_26 : decode cX5_add 26 = .ok (.iload 5, 2) := by decide +kernel
theorem dX5_add_28 : decode cX5_add 28 = .ok (.iload_n 3, 1) := by decide +kernel
theorem dX5_add_29 : decode cX5_add 29 = .ok (.iastore, 1) := by decide +kernel
theorem dX5_add_30 : decode cX5_add 30 = .ok (.aload_n 0, 1) := by decide +kernel
theorem dX5_add_31 : decode cX5_add 31 = .ok (.getfield 25, 3) := by decide +kernel
theorem dX5_add_34 : decode cX5_add 34 = .ok (.iload 5, 2) := by decide +kernel
theorem dX5_add_36 : decode cX5_add 36 = .ok (.iload 4, 2) := by decide +kernel
theorem dX5_add_38 : decode cX5_add 38 = .ok (.iastore, 1) := by decide +kernel
theorem dX5_add_39 : decode cX5_add 39 = .ok (.aload_n 0, 1) := by decide +kernel
theorem dX5_add_40 : decode cX5_add 40 = .ok (.dup, 1) := by decide +kernel
theorem dX5_add_41 : decode cX5_add 41 = .ok (.getfield 9, 3) := by decide +kernel
theorem dX5_add_44 : decode cX5_add 44 = .ok (.iconst 1, 1) := by decide +kernel
theorem dX5_add_45 : decode cX5_add 45 = .ok (.iadd, 1) := by decide +kernel
theorem dX5_add_46 : decode cX5_add 46 = .ok (.putfield 9, 3) := by decide +kernel
theorem dX5_add_49 : decode cX5_add 49 = .ok (.iload 5, 2) := by decide +kernel
theorem dX5_add_51 : decode cX5_add 51 = .ok (.ireturn, 1) := by decide +kernel
theorem dX5_has_0 : decode cX5_has 0 = .ok (.iload_n 1, 1) := by decide +kernel
theorem dX5_has_1 : decode cX5_has 1 = .ok (.iconst 0, 1) := by decide +kernel
theorem dX5_has_2 : decode cX5_has 2 = .ok (.aload_n 0, 1) := by decide +kernel
theorem dX5_has_3 : decode cX5_has 3 = .ok (.getfield 9, 3) := by decide +kernel
theorem dX5_has_6 : decode cX5_has 6 = .ok (.iconst 1, 1) := by decide +kernel
theorem dX5_has_7 : decode cX5_has 7 = .ok (.isub, 1) := by decide +kernel
theorem dX5_has_8 : decode cX5_has 8 = .ok (.invokestatic 31, 3) := by decide +kernel
theorem dX5_has_11 : decode cX5_has 11 = .ok (.ireturn, 1) := by decide +kernel
theorem dX5_listUpTo_0 : decode cX5_listUpTo 0 = .ok (.iconst 0, 1) := by decide +kernel
theorem dX5_listUpTo_1 : decode cX5_listUpTo 1 = .ok (.istore_n 3, 1) := by decide +kernel
theorem dX5_listUpTo_2 : decode cX5_listUpTo 2 = .ok (.iconst 0, 1) := by decide +kernel
theorem dX5_listUpTo_3 : decode cX5_listUpTo 3 = .ok (.istore 4, 2) := by decide +kernel
theorem dX5_listUpTo_5 : decode cX5_listUpTo 5 = .ok (.iload 4, 2) := by decide +kernel
theorem dX5_listUpTo_7 : decode cX5_listUpTo 7 = .ok (.aload_n 0, 1) := by decide +kernel
theorem dX5_listUpTo_8 : decode cX5_listUpTo 8 = .ok (.getfield 9, 3) := by decide +kernel
theorem dX5_listUpTo_11 : decode cX5_listUpTo 11 = .ok (.if_icmp .ge 28, 3) := by decide +kernel
theorem dX5_listUpTo_14 : decode cX5_listUpTo 14 = .ok (.aload_n 0, 1) := by decide +kernel
theorem dX5_listUpTo_15 : decode cX5_listUpTo 15 = .ok (.getfield 19, 3) := by decide +kernel
theorem dX5_listUpTo_18 : decode cX5_listUpTo 18 = .ok (.iload 4, 2) := by decide +kernel
theorem dX5_listUpTo_20 : decode cX5_listUpTo 20 = .ok (.iaload, 1) := by decide +kernel
theorem dX5_listUpTo_21 : decode cX5_listUpTo 21 = .ok (.iload_n 1, 1) := by decide +kernel
theorem dX5_listUpTo_22 : decode cX5_listUpTo 22 = .ok (.if_icmp .gt 11, 3) := by decide +kernel
theorem dX5_listUpTo_25 : decode cX5_listUpTo 25 = .ok (.aload_n 2, 1) := by decide +kernel
theorem dX5_listUpTo_26 : decode cX5_listUpTo 26 = .ok (.iload_n 3, 1) := by decide +kernel
theorem dX5_listUpTo_27 : decode cX5_listUpTo 27 = .ok (.iload 4, 2) := by decide +kernel
theorem dX5_listUpTo_29 : decode cX5_listUpTo 29 = .ok (.iastore, 1) := by decide +kernel
theorem dX5_listUpTo_30 : decode cX5_listUpTo 30 = .ok (.iinc 3 1, 3) := by decide +kernel
theorem dX5_listUpTo_33 : decode cX5_listUpTo 33 = .ok (.iinc 4 1, 3) := by decide +kernel
theorem dX5_listUpTo_36 : decode cX5_listUpTo 36 = .ok (.goto (-31), 3) := by decide +kernel
theorem dX5_listUpTo_39 : decode cX5_listUpTo 39 = .ok (.iload_n 3, 1) := by decide +kernel
theorem dX5_listUpTo_40 : decode cX5_listUpTo 40 = .ok (.ireturn, 1) := by decide +kernel
theorem dX5_pointsOfTeam_0 : decode cX5_pointsOfTeam 0 = .ok (.iconst 0, 1) := by decide +kernel
theorem dX5_pointsOfTeam_1 : decode cX5_pointsOfTeam 1 = .ok (.istore_n 2, 1) := by decide +kernel
theorem dX5_pointsOfTeam_2 : decode cX5_pointsOfTeam 2 = .ok (.iconst 0, 1) := by decide +kernel
theorem dX5_pointsOfTeam_3 : decode cX5_pointsOfTeam 3 = .ok (.istore_n 3, 1) := by decide +kernel
theorem dX5_pointsOfTeam_4 : decode cX5_pointsOfTeam 4 = .ok (.iload_n 3, 1) := by decide +kernel
theorem dX5_pointsOfTeam_5 : decode cX5_pointsOfTeam 5 = .ok (.aload_n 0, 1) := by decide +kernel
theorem dX5_pointsOfTeam_6 : decode cX5_pointsOfTeam 6 = .ok (.getfield 9, 3) := by decide +kernel
theorem dX5_pointsOfTeam_9 : decode cX5_pointsOfTeam 9 = .ok (.if_icmp .ge 28, 3) := by decide +kernel
theorem dX5_pointsOfTeam_12 : decode cX5_pointsOfTeam 12 = .ok (.aload_n 0, 1) := by decide +kernel
theorem dX5_pointsOfTeam_13 : decode cX5_pointsOfTeam 13 = .ok (.getfield 15, 3) := by decide +kernel
theorem dX5_pointsOfTeam_16 : decode cX5_pointsOfTeam 16 = .ok (.iload_n 3, 1) := by decide +kernel
theorem dX5_pointsOfTeam_17 : decode cX5_pointsOfTeam 17 = .ok (.iaload, 1) := by decide +kernel
theorem dX5_pointsOfTeam_18 : decode cX5_pointsOfTeam 18 = .ok (.iload_n 1, 1) := by decide +kernel
theorem dX5_pointsOfTeam_19 : decode cX5_pointsOfTeam 19 = .ok (.if_icmp .ne 12, 3) := by decide +kernel
theorem dX5_pointsOfTeam_22 : decode cX5_pointsOfTeam 22 = .ok (.iload_n 2, 1) := by decide +kernel
theorem dX5_pointsOfTeam_23 : decode cX5_pointsOfTeam 23 = .ok (.aload_n 0, 1) := by decide +kernel
theorem dX5_pointsOfTeam_24 : decode cX5_pointsOfTeam 24 = .ok (.getfield 28, 3) := by decide +kernel
theorem dX5_pointsOfTeam_27 : decode cX5_pointsOfTeam 27 = .ok (.iload_n 3, 1) := by decide +kernel
theorem dX5_pointsOfTeam_28 : decode cX5_pointsOfTeam 28 = .ok (.iaload, 1) := by decide +kernel
theorem dX5_pointsOfTeam_29 : decode cX5_pointsOfTeam 29 = .ok (.iadd, 1) := by decide +kernel
theorem dX5_pointsOfTeam_30 : decode cX5_pointsOfTeam 30 = .ok (.istore_n 2, 1) := by decide +kernel
theorem dX5_pointsOfTeam_31 : decode cX5_pointsOfTeam 31 = .ok (.iinc 3 1, 3) := by decide +kernel
theorem dX5_pointsOfTeam_34 : decode cX5_pointsOfTeam 34 = .ok (.goto (-30), 3) := by decide +kernel
theorem dX5_pointsOfTeam_37 : decode cX5_pointsOfTeam 37 = .ok (.iload_n 2, 1) := by decide +kernel
theorem dX5_pointsOfTeam_38 : decode cX5_pointsOfTeam 38 = .ok (.ireturn, 1) := by decide +kernel
theorem dX6_init_0 : decode cX6_init 0 = .ok (.aload_n 0, 1) := by decide +kernel
theorem dX6_init_1 : decode cX6_init 1 = .ok (.invokespecial 3, 3) := by decide +kernel
theorem dX6_init_4 : decode cX6_init 4 = .ok (.aload_n 0, 1) := by decide +kernel
theorem dX6_init_5 : decode cX6_init 5 = .ok (.bipush 16, 2) := by decide +kernel
theorem dX6_init_7 : decode cX6_init 7 = .ok (.newarray .boolean, 2) := by decide +kernel
theorem dX6_init_9 : decode cX6_init 9 = .ok (.putfield 9, 3) := by decide +kernel
theorem dX6_init_12 : decode cX6_init 12 = .ok (.aload_n 0, 1) := by decide +kernel
theorem dX6_init_13 : decode cX6_init 13 = .ok (.bipush 16, 2) := by decide +kernel
theorem dX6_init_15 : decode cX6_init 15 = .ok (.newarray .int, 2) := by decide +kernel
theorem dX6_init_17 : decode cX6_init 17 = .ok (.putfield 15, 3) := by decide +kernel
theorem dX6_init_20 : decode cX6_init 20 = .ok (.aload_n 0, 1) := by decide +kernel
theorem dX6_init_21 : decode cX6_init 21 = .ok (.bipush 16, 2) := by decide +kernel
theorem dX6_init_23 : decode cX6_init 23 = .ok (.newarray .int, 2) := by decide +kernel
theorem dX6_init_25 : decode cX6_init 25 = .ok (.putfield 19, 3) := by decide +kernel
theorem dX6_init_28 : decode cX6_init 28 = .ok (.return_, 1) := by decide +kernel
theorem dX6_recall_0 : decode cX6_recall 0 = .ok (.iconst 0, 1) := by decide +kernel
theorem dX6_recall_1 : decode cX6_recall 1 = .ok (.istore_n 3, 1) := by decide +kernel
theorem dX6_recall_2 : decode cX6_recall 2 = .ok (.iload_n 3, 1) := by decide +kernel
theorem dX6_recall_3 : decode cX6_recall 3 = .ok (.bipush 16, 2) := by decide +kernel
theorem dX6_recall_5 : decode cX6_recall 5 = .ok (.if_icmp .ge 16, 3) := by decide +kernel
theorem dX6_recall_8 : decode cX6_recall 8 = .ok (.aload_n 0, 1) := by decide +kernel
theorem dX6_recall_9 : decode cX6_recall 9 = .ok (.aload_n 1, 1) := by decide +kernel
theorem dX6_recall_10 : decode cX6_recall 10 = .ok (.iload_n 3, 1) := by decide +kernel
theorem dX6_recall_11 : decode cX6_recall 11 = .ok (.iload_n 2, 1) := by decide +kernel
theorem dX6_recall_12 : decode cX6_recall 12 = .ok (.invokevirtual 22, 3) := by decide +kernel
theorem dX6_recall_15 : decode cX6_recall 15 = .ok (.iinc 3 1, 3) := by decide +kernel
theorem dX6_recall_18 : decode cX6_recall 18 = .ok (.goto (-16), 3) := by decide +kernel
theorem dX6_recall_21 : decode cX6_recall 21 = .ok (.iconst 0, 1) := by decide +kernel
theorem dX6_recall_22 : decode cX6_recall 22 = .ok (.istore_n 3, 1) := by decide +kernel
theorem dX6_recall_23 : decode cX6_recall 23 = .ok (.iload_n 3, 1) := by decide +kernel
theorem dX6_recall_24 : decode cX6_recall 24 = .ok (.bipush 16, 2) := by decide +kernel
theorem dX6_recall_26 : decode cX6_recall 26 = .ok (.if_icmp .ge 40, 3) := by decide +kernel
theorem dX6_recall_29 : decode cX6_recall 29 = .ok (.aload_n 0, 1) := by decide +kernel
theorem dX6_recall_30 : decode cX6_recall 30 = .ok (.getfield 19, 3) := by decide +kernel
theorem dX6_recall_33 : decode cX6_recall 33 = .ok (.iload_n 3, 1) := by decide +kernel
theorem dX6_recall_34 : decode cX6_recall 34 = .ok (.aload_n 0, 1) := by decide +kernel
theorem dX6_recall_35 : decode cX6_recall 35 = .ok (.getfield 9, 3) := by decide +kernel
theorem dX6_recall_38 : decode cX6_recall 38 = .ok (.iload_n 3, 1) := by decide +kernel
theorem dX6_recall_39 : decode cX6_recall 39 = .ok (.baload, 1) := by decide +kernel
theorem dX6_recall_40 : decode cX6_recall 40 = .ok (.ifCond .eq 18, 3) := by decide +kernel
theorem dX6_recall_43 : decode cX6_recall 43 = .ok (.iconst 1, 1) := by decide +kernel
theorem dX6_recall_44 : decode cX6_recall 44 = .ok (.aload_n 0, 1) := by decide +kernel
theorem dX6_recall_45 : decode cX6_recall 45 = .ok (.aload_n 0, 1) := by decide +kernel
theorem dX6_recall_46 : decode cX6_recall 46 = .ok (.getfield 15, 3) := by decide +kernel
theorem dX6_recall_49 : decode cX6_recall 49 = .ok (.iload_n 3, 1) := by decide +kernel
theorem dX6_recall_50 : decode cX6_recall 50 = .ok (.iaload, 1) := by decide +kernel
theorem dX6_recall_51 : decode cX6_recall 51 = .ok (.invokevirtual 26, 3) := by decide +kernel
theorem dX6_recall_54 : decode cX6_recall 54 = .ok (.iadd, 1) := by decide +kernel
theorem dX6_recall_55 : decode cX6_recall 55 = .ok (.goto 4, 3) := by decide +kernel
theorem dX6_recall_58 : decode cX6_recall 58 = .ok (.iconst (-1), 1) := by decide +kernel
theorem dX6_recall_59 : decode cX6_recall 59 = .ok (.iastore, 1) := by decide +kernel
theorem dX6_recall_60 : decode cX6_recall 60 = .ok (.iinc 3 1, 3) := by decide +kernel
theorem dX6_recall_63 : decode cX6_recall 63 = .ok (.goto (-40), 3) := by decide +kernel
theorem dX6_recall_66 : decode cX6_recall 66 = .ok (.return_, 1) := by decide +kernel
theorem dX6_recallSum_0 : decode cX6_recallSum 0 = .ok (.iconst 0, 1) := by decide +kernel
theorem dX6_recallSum_1 : decode cX6_recallSum 1 = .ok (.istore 4, 2) := by decide +kernel
theorem dX6_recallSum_3 : decode cX6_recallSum 3 = .ok (.iconst 0, 1) := by decide +kernel
theorem dX6_recallSum_4 : decode cX6_recallSum 4 = .ok (.istore 5, 2) := by decide +kernel
theorem dX6_recallSum_6 : decode cX6_recallSum 6 = .ok (.iconst 0, 1) := by decide +kernel
theorem dX6_recallSum_7 : decode cX6_recallSum 7 = .ok (.istore 6, 2) := by decide +kernel
theorem dX6_recallSum_9 : decode cX6_recallSum 9 = .ok (.iconst 0, 1) := by decide +kernel
theorem dX6_recallSum_10 : decode cX6_recallSum 10 = .ok (.istore 7, 2) := by decide +kernel
theorem dX6_recallSum_12 : decode cX6_recallSum 12 = .ok (.iload 7, 2) := by decide +kernel
theorem dX6_recallSum_14 : decode cX6_recallSum 14 = .ok (.iconst 4, 1) := by decide +kernel
theorem dX6_recallSum_15 : decode cX6_recallSum 15 = .ok (.if_icmp .ge 53, 3) := by decide +kernel
theorem dX6_recallSum_18 : decode cX6_recallSum 18 = .ok (.aload_n 1, 1) := by decide +kernel
theorem dX6_recallSum_19 : decode cX6_recallSum 19 = .ok (.iload 7, 2) := by decide +kernel
theorem dX6_recallSum_21 : decode cX6_recallSum 21 = .ok (.iload_n 3, 1) := by decide +kernel
theorem dX6_recallSum_22 : decode cX6_recallSum 22 = .ok (.invokevirtual 30, 3) := by decide +kernel
theorem dX6_recallSum_25 : decode cX6_recallSum 25 = .ok (.ifCond .eq 37, 3) := by decide +kernel
theorem dX6_recallSum_28 : decode cX6_recallSum 28 = .ok (.iinc 4 1, 3) := by decide +kernel
theorem dX6_recallSum_31 : decode cX6_recallSum 31 = .ok (.aload_n 1, 1) := by decide +kernel
theorem dX6_recallSum_32 : decode cX6_recallSum 32 = .ok (.getfield 36, 3) := by decide +kernel
theorem dX6_recallSum_35 : decode cX6_recallSum 35 = .ok (.iload 7, 2) := by decide +kernel
theorem dX6_recallSum_37 : decode cX6_recallSum 37 = .ok (.iload_n 2, 1) := by decide +kernel
theorem dX6_recallSum_38 : decode cX6_recallSum 38 = .ok (.invokevirtual 40, 3) := by decide +kernel
theorem dX6_recallSum_41 : decode cX6_recallSum 41 = .ok (.ifCond .eq 21, 3) := by decide +kernel
theorem dX6_recallSum_44 : decode cX6_recallSum 44 = .ok (.iinc 5 1, 3) := by decide +kernel
theorem dX6_recallSum_47 : decode cX6_recallSum 47 = .ok (.iload 6, 2) := by decide +kernel
theorem dX6_recallSum_49 : decode cX6_recallSum 49 = .ok (.aload_n 1, 1) := by decide +kernel
theorem dX6_recallSum_50 : decode cX6_recallSum 50 = .ok (.getfield 36, 3) := by decide +kernel
theorem dX6_recallSum_53 : decode cX6_recallSum 53 = .ok (.iload 7, 2) := by decide +kernel
theorem dX6_recallSum_55 : decode cX6_recallSum 55 = .ok (.iload_n 2, 1) := by decide +kernel
theorem dX6_recallSum_56 : decode cX6_recallSum 56 = .ok (.invokevirtual 45, 3) := by decide +kernel
theorem dX6_recallSum_59 : decode cX6_recallSum 59 = .ok (.iadd, 1) := by decide +kernel
theorem dX6_recallSum_60 : decode cX6_recallSum 60 = .ok (.istore 6, 2) := by decide +kernel
theorem dX6_recallSum_62 : decode cX6_recallSum 62 = .ok (.iinc 7 1, 3) := by decide +kernel
theorem dX6_recallSum_65 : decode cX6_recallSum 65 = .ok (.goto (-53), 3) := by decide +kernel
theorem dX6_recallSum_68 : decode cX6_recallSum 68 = .ok (.aload_n 0, 1) := by decide +kernel
theorem dX6_recallSum_69 : decode cX6_recallSum 69 = .ok (.getfield 15, 3) := by decide +kernel
theorem dX6_recallSum_72 : decode cX6_recallSum 72 = .ok (.iload_n 2, 1) := by decide +kernel
theorem dX6_recallSum_73 : decode cX6_recallSum 73 = .ok (.iload 6, 2) := by decide +kernel
theorem dX6_recallSum_75 : decode cX6_recallSum 75 = .ok (.iastore, 1) := by decide +kernel
theorem dX6_recallSum_76 : decode cX6_recallSum 76 = .ok (.aload_n 0, 1) := by decide +kernel
theorem dX6_recallSum_77 : decode cX6_recallSum 77 = .ok (.getfield 9, 3) := by decide +kernel
theorem dX6_recallSum_80 : decode cX6_recallSum 80 = .ok (.iload_n 2, 1) := by decide +kernel
theorem dX6_recallSum_81 : decode cX6_recallSum 81 = .ok (.aload_n 1, 1) := by decide +kernel
theorem dX6_recallSum_82 : decode cX6_recallSum 82 = .ok (.iload_n 2, 1) := by decide +kernel
theorem dX6_recallSum_83 : decode cX6_recallSum 83 = .ok (.iload_n 3, 1) := by decide +kernel
theorem dX6_recallSum_84 : decode cX6_recallSum 84 = .ok (.invokevirtual 49, 3) := by decide +kernel
theorem dX6_recallSum_87 : decode cX6_recallSum 87 = .ok (.ifCond .eq 19, 3) := by decide +kernel
theorem dX6_recallSum_90 : decode cX6_recallSum 90 = .ok (.iload 4, 2) := by decide +kernel
theorem dX6_recallSum_92 : decode cX6_recallSum 92 = .ok (.ifCond .le 14, 3) := by decide +kernel
theorem dX6_recallSum_95 : decode cX6_recallSum 95 = .ok (.iload 5, 2) := by decide +kernel
theorem dX6_recallSum_97 : decode cX6_recallSum 97 = .ok (.iload 4, 2) := by decide +kernel
theorem dX6_recallSum_99 : decode cX6_recallSum 99 = .ok (.if_icmp .ne 7, 3) := by decide +kernel
theorem dX6_recallSum_102 : decode cX6_recallSum 102 = .ok (.iconst 1, 1) := by decide +kernel
theorem dX6_recallSum_103 : decode cX6_recallSum 103 = .ok (.goto 4, 3) := by decide +kernel
theorem dX6_recallSum_106 : decode cX6_recallSum 106 = .ok (.iconst 0, 1) := by decide +kernel
theorem dX6_recallSum_107 : decode cX6_recallSum 107 = .ok (.bastore, 1) := by decide +kernel
theorem dX6_recallSum_108 : decode cX6_recallSum 108 = .ok (.return_, 1) := by decide +kernel
theorem dX6_manyBelow_0 : decode cX6_manyBelow 0 = .ok (.iconst 0, 1) := by decide +kernel
theorem dX6_manyBelow_1 : decode cX6_manyBelow 1 = .ok (.istore_n 2, 1) := by decide +kernel
theorem dX6_manyBelow_2 : decode cX6_manyBelow 2 = .ok (.iconst 0, 1) := by decide +kernel
theorem dX6_manyBelow_3 : decode cX6_manyBelow 3 = .ok (.istore_n 3, 1) := by decide +kernel
theorem dX6_manyBelow_4 : decode cX6_manyBelow 4 = .ok (.iload_n 3, 1) := by decide +kernel
theorem dX6_manyBelow_5 : decode cX6_manyBelow 5 = .ok (.bipush 16, 2) := by decide +kernel
theorem dX6_manyBelow_7 : decode cX6_manyBelow 7 = .ok (.if_icmp .ge 31, 3) := by decide +kernel
theorem dX6_manyBelow_10 : decode cX6_manyBelow 10 = .ok (.aload_n 0, 1) := by decide +kernel
theorem dX6_manyBelow_11 : decode cX6_manyBelow 11 = .ok (.getfield 9, 3) := by decide +kernel
theorem dX6_manyBelow_14 : decode cX6_manyBelow 14 = .ok (.iload_n 3, 1) := by decide +kernel
theorem dX6_manyBelow_15 : decode cX6_manyBelow 15 = .ok (.baload, 1) := by decide +kernel
theorem dX6_manyBelow_16 : decode cX6_manyBelow 16 = .ok (.ifCond .eq 16, 3) := by decide +kernel
theorem dX6_manyBelow_19 : decode cX6_manyBelow 19 = .ok (.aload_n 0, 1) := by decide +kernel
theorem dX6_manyBelow_20 : decode cX6_manyBelow 20 = .ok (.getfield 15, 3) := by decide +kernel
theorem dX6_manyBelow_23 : decode cX6_manyBelow 23 = .ok (.iload_n 3, 1) := by decide +kernel
theorem dX6_manyBelow_24 : decode cX6_manyBelow 24 = .ok (.iaload, 1) := by decide +kernel
theorem dX6_manyBelow_25 : decode cX6_manyBelow 25 = .ok (.iload_n 1, 1) := by decide +kernel
theorem dX6_manyBelow_26 : decode cX6_manyBelow 26 = .ok (.if_icmp .ge 6, 3) := by decide +kernel
theorem dX6_manyBelow_29 : decode cX6_manyBelow 29 = .ok (.iinc 2 1, 3) := by decide +kernel
theorem dX6_manyBelow_32 : decode cX6_manyBelow 32 = .ok (.iinc 3 1, 3) := by decide +kernel
theorem dX6_manyBelow_35 : decode cX6_manyBelow 35 = .ok (.goto (-31), 3) := by decide +kernel
theorem dX6_manyBelow_38 : decode cX6_manyBelow 38 = .ok (.iload_n 2, 1) := by decide +kernel
theorem dX6_manyBelow_39 : decode cX6_manyBelow 39 = .ok (.ireturn, 1) := by decide +kernel
theorem dX6_isRanked_0 : decode cX6_isRanked 0 = .ok (.iload_n 1, 1) := by decide +kernel
theorem dX6_isRanked_1 : decode cX6_isRanked 1 = .ok (.iconst 0, 1) := by decide +kernel
theorem dX6_isRanked_2 : decode cX6_isRanked 2 = .ok (.bipush 15, 2) := by decide +kernel
theorem dX6_isRanked_4 : decode cX6_isRanked 4 = .ok (.invokestatic 52, 3) := by decide +kernel
theorem dX6_isRanked_7 : decode cX6_isRanked 7 = .ok (.ifCond .eq 16, 3) := by decide +kernel
theorem dX6_isRanked_10 : decode cX6_isRanked 10 = .ok (.aload_n 0, 1) := by decide +kernel
theorem dX6_isRanked_11 : decode cX6_isRanked 11 = .ok (.getfield 9, 3) := by decide +kernel
theorem dX6_isRanked_14 : decode cX6_isRanked 14 = .ok (.iload_n 1, 1) := by decide +kernel
theorem dX6_isRanked_15 : decode cX6_isRanked 15 = .ok (.baload, 1) := by decide +kernel
theorem dX6_isRanked_16 : decode cX6_isRanked 16 = .ok (.ifCond .eq 7, 3) := by decide +kernel
theorem dX6_isRanked_19 : decode cX6_isRanked 19 = .ok (.iconst 1, 1) := by decide +kernel
theorem dX6_isRanked_20 : decode cX6_isRanked 20 = .ok (.goto 4, 3) := by decide +kernel
theorem dX6_isRanked_23 : decode cX6_isRanked 23 = .ok (.iconst 0, 1) := by decide +kernel
theorem dX6_isRanked_24 : decode cX6_isRanked 24 = .ok (.ireturn, 1) := by decide +kernel
theorem dX6_sumOf_0 : decode cX6_sumOf 0 = .ok (.aload_n 0, 1) := by decide +kernel
theorem dX6_sumOf_1 : decode cX6_sumOf 1 = .ok (.iload_n 1, 1) := by decide +kernel
theorem dX6_sumOf_2 : decode cX6_sumOf 2 = .ok (.invokevirtual 56, 3) := by decide +kernel
theorem dX6_sumOf_5 : decode cX6_sumOf 5 = .ok (.ifCond .eq 12, 3) := by decide +kernel
theorem dX6_sumOf_8 : decode cX6_sumOf 8 = .ok (.aload_n 0, 1) := by decide +kernel
theorem dX6_sumOf_9 : decode cX6_sumOf 9 = .ok (.getfield 15, 3) := by decide +kernel
theorem dX6_sumOf_12 : decode cX6_sumOf 12 = .ok (.iload_n 1, 1) := by decide +kernel
theorem dX6_sumOf_13 : decode cX6_sumOf 13 = .ok (.iaload, 1) := by decide +kernel
theorem dX6_sumOf_14 : decode cX6_sumOf 14 = .ok (.goto 4, 3) := by decide +kernel
theorem dX6_sumOf_17 : decode cX6_sumOf 17 = .ok (.iconst (-1), 1) := by decide +kernel
theorem dX6_sumOf_18 : decode cX6_sumOf 18 = .ok (.ireturn, 1) := by decide +kernel
theorem dX6_rankOf_0 : decode cX6_rankOf 0 = .ok (.aload_n 0, 1) := by decide +kernel
theorem dX6_rankOf_1 : decode cX6_rankOf 1 = .ok (.iload_n 1, 1) := by decide +kernel
theorem dX6_rankOf_2 : decode cX6_rankOf 2 = .ok (.invokevirtual 56, 3) := by decide +kernel
theorem dX6_rankOf_5 : decode cX6_rankOf 5 = .ok (.ifCond .eq 12, 3) := by decide +kernel
theorem dX6_rankOf_8 : decode cX6_rankOf 8 = .ok (.aload_n 0, 1) := by decide +kernel
theorem dX6_rankOf_9 : decode cX6_rankOf 9 = .ok (.getfield 19, 3) := by decide +kernel
theorem dX6_rankOf_12 : decode cX6_rankOf 12 = .ok (.iload_n 1, 1) := by decide +kernel
theorem dX6_rankOf_13 : decode cX6_rankOf 13 = .ok (.iaload, 1) := by decide +kernel
theorem dX6_rankOf_14 : decode cX6_rankOf 14 = .ok (.goto 4, 3) := by decide +kernel
theorem dX6_rankOf_17 : decode cX6_rankOf 17 = .ok (.iconst (-1), 1) := by decide +kernel
theorem dX6_rankOf_18 : decode cX6_rankOf 18 = .ok (.ireturn, 1) := by decide +kernel
theorem dX6_manyAt_0 : decode cX6_manyAt 0 = .ok (.iconst 0, 1) := by decide +kernel
theorem dX6_manyAt_1 : decode cX6_manyAt 1 = .ok (.istore_n 2, 1) := by decide +kernel
theorem dX6_manyAt_2 : decode cX6_manyAt 2 = .ok (.iconst 0, 1) := by decide +kernel
theorem dX6_manyAt_3 : decode cX6_manyAt 3 = .ok (.istore_n 3, 1) := by decide +kernel
theorem dX6_manyAt_4 : decode cX6_manyAt 4 = .ok (.iload_n 3, 1) := by decide +kernel
theorem dX6_manyAt_5 : decode cX6_manyAt 5 = .ok (.bipush 16, 2) := by decide +kernel
theorem dX6_manyAt_7 : decode cX6_manyAt 7 = .ok (.if_icmp .ge 21, 3) := by decide +kernel
theorem dX6_manyAt_10 : decode cX6_manyAt 10 = .ok (.aload_n 0, 1) := by decide +kernel
theorem dX6_manyAt_11 : decode cX6_manyAt 11 = .ok (.iload_n 3, 1) := by decide +kernel
theorem dX6_manyAt_12 : decode cX6_manyAt 12 = .ok (.invokevirtual 60, 3) := by decide +kernel
theorem dX6_manyAt_15 : decode cX6_manyAt 15 = .ok (.iload_n 1, 1) := by decide +kernel
theorem dX6_manyAt_16 : decode cX6_manyAt 16 = .ok (.if_icmp .ne 6, 3) := by decide +kernel
theorem dX6_manyAt_19 : decode cX6_manyAt 19 = .ok (.iinc 2 1, 3) := by decide +kernel
theorem dX6_manyAt_22 : decode cX6_manyAt 22 = .ok (.iinc 3 1, 3) := by decide +kernel
theorem dX6_manyAt_25 : decode cX6_manyAt 25 = .ok (.goto (-21), 3) := by decide +kernel
theorem dX6_manyAt_28 : decode cX6_manyAt 28 = .ok (.iload_n 2, 1) := by decide +kernel
theorem dX6_manyAt_29 : decode cX6_manyAt 29 = .ok (.ireturn, 1) := by decide +kernel
theorem dX6_listByRank_0 : decode cX6_listByRank 0 = .ok (.iconst 0, 1) := by decide +kernel
theorem dX6_listByRank_1 : decode cX6_listByRank 1 = .ok (.istore_n 2, 1) := by decide +kernel
theorem dX6_listByRank_2 : decode cX6_listByRank 2 = .ok (.iconst 1, 1) := by decide +kernel
theorem dX6_listByRank_3 : decode cX6_listByRank 3 = .ok (.istore_n 3, 1) := by decide +kernel
theorem dX6_listByRank_4 : decode cX6_listByRank 4 = .ok (.iload_n 3, 1) := by decide +kernel
theorem dX6_listByRank_5 : decode cX6_listByRank 5 = .ok (.bipush 16, 2) := by decide +kernel
theorem dX6_listByRank_7 : decode cX6_listByRank 7 = .ok (.if_icmp .gt 49, 3) := by decide +kernel
theorem dX6_listByRank_10 : decode cX6_listByRank 10 = .ok (.iconst 0, 1) := by decide +kernel
theorem dX6_listByRank_11 : decode cX6_listByRank 11 = .ok (.istore 4, 2) := by decide +kernel
theorem dX6_listByRank_13 : decode cX6_listByRank 13 = .ok (.iload 4, 2) := by decide +kernel
theorem dX6_listByRank_15 : decode cX6_listByRank 15 = .ok (.bipush 16, 2) := by decide +kernel
theorem dX6_listByRank_17 : decode cX6_listByRank 17 = .ok (.if_icmp .ge 33, 3) := by decide +kernel
theorem dX6_listByRank_20 : decode cX6_listByRank 20 = .ok (.aload_n 0, 1) := by decide +kernel
theorem dX6_listByRank_21 : decode cX6_listByRank 21 = .ok (.iload 4, 2) := by decide +kernel
theorem dX6_listByRank_23 : decode cX6_listByRank 23 = .ok (.invokevirtual 60, 3) := by decide +kernel
theorem dX6_listByRank_26 : decode cX6_listByRank 26 = .ok (.iload_n 3, 1) := by decide +kernel
theorem dX6_listByRank_27 : decode cX6_listByRank 27 = .ok (.if_icmp .ne 17, 3) := by decide +kernel
theorem dX6_listByRank_30 : decode cX6_listByRank 30 = .ok (.iload_n 2, 1) := by decide +kernel
theorem dX6_listByRank_31 : decode cX6_listByRank 31 = .ok (.aload_n 1, 1) := by decide +kernel
theorem dX6_listByRank_32 : decode cX6_listByRank 32 = .ok (.arraylength, 1) := by decide +kernel
theorem dX6_listByRank_33 : decode cX6_listByRank 33 = .ok (.if_icmp .ge 11, 3) := by decide +kernel
theorem dX6_listByRank_36 : decode cX6_listByRank 36 = .ok (.aload_n 1, 1) := by decide +kernel
theorem dX6_listByRank_37 : decode cX6_listByRank 37 = .ok (.iload_n 2, 1) := by decide +kernel
theorem dX6_listByRank_38 : decode cX6_listByRank 38 = .ok (.iload 4, 2) := by decide +kernel
theorem dX6_listByRank_40 : decode cX6_listByRank 40 = .ok (.iastore, 1) := by decide +kernel
theorem dX6_listByRank_41 : decode cX6_listByRank 41 = .ok (.iinc 2 1, 3) := by decide +kernel
theorem dX6_listByRank_44 : decode cX6_listByRank 44 = .ok (.iinc 4 1, 3) := by decide +kernel
theorem dX6_listByRank_47 : decode cX6_listByRank 47 = .ok (.goto (-34), 3) := by decide +kernel
theorem dX6_listByRank_50 : decode cX6_listByRank 50 = .ok (.iinc 3 1, 3) := by decide +kernel
theorem dX6_listByRank_53 : decode cX6_listByRank 53 = .ok (.goto (-49), 3) := by decide +kernel
theorem dX6_listByRank_56 : decode cX6_listByRank 56 = .ok (.iload_n 2, 1) := by decide +kernel
theorem dX6_listByRank_57 : decode cX6_listByRank 57 = .ok (.ireturn, 1) := by decide +kernel
theorem dX7_init_0 : decode cX7_init 0 = .ok (.aload_n 0, 1) := by decide +kernel
theorem dX7_init_1 : decode cX7_init 1 = .ok (.invokespecial 3, 3) := by decide +kernel
theorem dX7_init_4 : decode cX7_init 4 = .ok (.aload_n 0, 1) := by decide +kernel
theorem dX7_init_5 : decode cX7_init 5 = .ok (.iconst 0, 1) := by decide +kernel
theorem dX7_init_6 : decode cX7_init 6 = .ok (.putfield 9, 3) := by decide +kernel
theorem dX7_init_9 : decode cX7_init 9 = .ok (.aload_n 0, 1) := by decide +kernel
theorem dX7_init_10 : decode cX7_init 10 = .ok (.sipush 300, 3) := by decide +kernel
theorem dX7_init_13 : decode cX7_init 13 = .ok (.newarray .byte, 2) := by decide +kernel
theorem dX7_init_15 : decode cX7_init 15 = .ok (.putfield 15, 3) := by decide +kernel
theorem dX7_init_18 : decode cX7_init 18 = .ok (.return_, 1) := by decide +kernel
theorem dX7_append_0 : decode cX7_append 0 = .ok (.bipush 24, 2) := by decide +kernel
theorem dX7_append_2 : decode cX7_append 2 = .ok (.istore_n 2, 1) := by decide +kernel
theorem dX7_append_3 : decode cX7_append 3 = .ok (.iload_n 2, 1) := by decide +kernel
theorem dX7_append_4 : decode cX7_append 4 = .ok (.ifCond .lt 42, 3) := by decide +kernel
theorem dX7_append_7 : decode cX7_append 7 = .ok (.aload_n 0, 1) := by decide +kernel
theorem dX7_append_8 : decode cX7_append 8 = .ok (.getfield 9, 3) := by decide +kernel
theorem dX7_append_11 : decode cX7_append 11 = .ok (.sipush 300, 3) := by decide +kernel
theorem dX7_append_14 : decode cX7_append 14 = .ok (.if_icmp .ge 32, 3) := by decide +kernel
theorem dX7_append_17 : decode cX7_append 17 = .ok (.aload_n 0, 1) := by decide +kernel
theorem dX7_append_18 : decode cX7_append 18 = .ok (.getfield 15, 3) := by decide +kernel
theorem dX7_append_21 : decode cX7_append 21 = .ok (.aload_n 0, 1) := by decide +kernel
theorem dX7_append_22 : decode cX7_append 22 = .ok (.getfield 9, 3) := by decide +kernel
theorem dX7_append_25 : decode cX7_append 25 = .ok (.iload_n 1, 1) := by decide +kernel
theorem dX7_append_26 : decode cX7_append 26 = .ok (.iload_n 2, 1) := by decide +kernel
theorem dX7_append_27 : decode cX7_append 27 = .ok (.iushr, 1) := by decide +kernel
theorem dX7_append_28 : decode cX7_append 28 = .ok (.i2b, 1) := by decide +kernel
theorem dX7_append_29 : decode cX7_append 29 = .ok (.bastore, 1) := by decide +kernel
theorem dX7_append_30 : decode cX7_append 30 = .ok (.aload_n 0, 1) := by decide +kernel
theorem dX7_append_31 : decode cX7_append 31 = .ok (.dup, 1) := by decide +kernel
theorem dX7_append_32 : decode cX7_append 32 = .ok (.getfield 9, 3) := by decide +kernel
theorem dX7_append_35 : decode cX7_append 35 = .ok (.iconst 1, 1) := by decide +kernel
theorem dX7_append_36 : decode cX7_append 36 = .ok (.iadd, 1) := by decide +kernel
theorem dX7_append_37 : decode cX7_append 37 = .ok (.putfield 9, 3) := by decide +kernel
theorem dX7_append_40 : decode cX7_append 40 = .ok (.iinc 2 (-8), 3) := by decide +kernel
theorem dX7_append_43 : decode cX7_append 43 = .ok (.goto (-40), 3) := by decide +kernel
theorem dX7_append_46 : decode cX7_append 46 = .ok (.return_, 1) := by decide +kernel
theorem dX7_byteAt_0 : decode cX7_byteAt 0 = .ok (.iload_n 1, 1) := by decide +kernel
theorem dX7_byteAt_1 : decode cX7_byteAt 1 = .ok (.ifCond .lt 24, 3) := by decide +kernel
theorem dX7_byteAt_4 : decode cX7_byteAt 4 = .ok (.iload_n 1, 1) := by decide +kernel
theorem dX7_byteAt_5 : decode cX7_byteAt 5 = .ok (.aload_n 0, 1) := by decide +kernel
theorem dX7_byteAt_6 : decode cX7_byteAt 6 = .ok (.getfield 9, 3) := by decide +kernel
theorem dX7_byteAt_9 : decode cX7_byteAt 9 = .ok (.if_icmp .ge 16, 3) := by decide +kernel
theorem dX7_byteAt_12 : decode cX7_byteAt 12 = .ok (.aload_n 0, 1) := by decide +kernel
theorem dX7_byteAt_13 : decode cX7_byteAt 13 = .ok (.getfield 15, 3) := by decide +kernel
theorem dX7_byteAt_16 : decode cX7_byteAt 16 = .ok (.iload_n 1, 1) := by decide +kernel
theorem dX7_byteAt_17 : decode cX7_byteAt 17 = .ok (.baload, 1) := by decide +kernel
theorem dX7_byteAt_18 : decode cX7_byteAt 18 = .ok (.sipush 255, 3) := by decide +kernel
theorem dX7_byteAt_21 : decode cX7_byteAt 21 = .ok (.iand, 1) := by decide +kernel
theorem dX7_byteAt_22 : decode cX7_byteAt 22 = .ok (.goto 4, 3) := by decide +kernel
theorem dX7_byteAt_25 : decode cX7_byteAt 25 = .ok (.iconst (-1), 1) := by decide +kernel
theorem dX7_byteAt_26 : decode cX7_byteAt 26 = .ok (.ireturn, 1) := by decide +kernel
theorem dX8_init_0 : decode cX8_init 0 = .ok (.aload_n 0, 1) := by decide +kernel
theorem dX8_init_1 : decode cX8_init 1 = .ok (.invokespecial 3, 3) := by decide +kernel
theorem dX8_init_4 : decode cX8_init 4 = .ok (.aload_n 0, 1) := by decide +kernel
theorem dX8_init_5 : decode cX8_init 5 = .ok (.iconst 0, 1) := by decide +kernel
theorem dX8_init_6 : decode cX8_init 6 = .ok (.putfield 9, 3) := by decide +kernel
theorem dX8_init_9 : decode cX8_init 9 = .ok (.aload_n 0, 1) := by decide +kernel
theorem dX8_init_10 : decode cX8_init 10 = .ok (.iconst 0, 1) := by decide +kernel
theorem dX8_init_11 : decode cX8_init 11 = .ok (.putfield 15, 3) := by decide +kernel
theorem dX8_init_14 : decode cX8_init 14 = .ok (.aload_n 0, 1) := by decide +kernel
theorem dX8_init_15 : decode cX8_init 15 = .ok (.bipush 40, 2) := by decide +kernel
theorem dX8_init_17 : decode cX8_init 17 = .ok (.newarray .int, 2) := by decide +kernel
theorem dX8_init_19 : decode cX8_init 19 = .ok (.putfield 18, 3) := by decide +kernel
theorem dX8_init_22 : decode cX8_init 22 = .ok (.aload_n 0, 1) := by decide +kernel
theorem dX8_init_23 : decode cX8_init 23 = .ok (.bipush 40, 2) := by decide +kernel
theorem dX8_init_25 : decode cX8_init 25 = .ok (.newarray .int, 2) := by decide +kernel
theorem dX8_init_27 : decode cX8_init 27 = .ok (.putfield 22, 3) := by decide +kernel
theorem dX8_init_30 : decode cX8_init 30 = .ok (.aload_n 0, 1) := by decide +kernel
theorem dX8_init_31 : decode cX8_init 31 = .ok (.bipush 40, 2) := by decide +kernel
theorem dX8_init_33 : decode cX8_init 33 = .ok (.newarray .int, 2) := by decide +kernel
theorem dX8_init_35 : decode cX8_init 35 = .ok (.putfield 25, 3) := by decide +kernel
theorem dX8_init_38 : decode cX8_init 38 = .ok (.aload_n 0, 1) := by decide +kernel
theorem dX8_init_39 : decode cX8_init 39 = .ok (.bipush 40, 2) := by decide +kernel
theorem dX8_init_41 : decode cX8_init 41 = .ok (.newarray .int, 2) := by decide +kernel
theorem dX8_init_43 : decode cX8_init 43 = .ok (.putfield 28, 3) := by decide +kernel
theorem dX8_init_46 : decode cX8_init 46 = .ok (.aload_n 0, 1) := by decide +kernel
theorem dX8_init_47 : decode cX8_init 47 = .ok (.bipush 40, 2) := by decide +kernel
theorem dX8_init_49 : decode cX8_init 49 = .ok (.newarray .int, 2) := by decide +kernel
theorem dX8_init_51 : decode cX8_init 51 = .ok (.putfield 31, 3) := by decide +kernel
theorem dX8_init_54 : decode cX8_init 54 = .ok (.aload_n 0, 1) := by decide +kernel
theorem dX8_init_55 : decode cX8_init 55 = .ok (.bipush 6, 2) := by decide +kernel
theorem dX8_init_57 : decode cX8_init 57 = .ok (.newarray .int, 2) := by decide +kernel
theorem dX8_init_59 : decode cX8_init 59 = .ok (.putfield 34, 3) := by decide +kernel
theorem dX8_init_62 : decode cX8_init 62 = .ok (.aload_n 0, 1) := by decide +kernel
theorem dX8_init_63 : decode cX8_init 63 = .ok (.bipush 12, 2) := by decide +kernel
theorem dX8_init_65 : decode cX8_init 65 = .ok (.newarray .int, 2) := by decide +kernel
theorem dX8_init_67 : decode cX8_init 67 = .ok (.putfield 37, 3) := by decide +kernel
theorem dX8_init_70 : decode cX8_init 70 = .ok (.return_, 1) := by decide +kernel
theorem dX8_makeAnew_0 : decode cX8_makeAnew 0 = .ok (.aload_n 0, 1) := by decide +kernel
theorem dX8_makeAnew_1 : decode cX8_makeAnew 1 = .ok (.iload_n 1, 1) := by decide +kernel
theorem dX8_makeAnew_2 : decode cX8_makeAnew 2 = .ok (.putfield 9, 3) := by decide +kernel
theorem dX8_makeAnew_5 : decode cX8_makeAnew 5 = .ok (.aload_n 0, 1) := by decide +kernel
theorem dX8_makeAnew_6 : decode cX8_makeAnew 6 = .ok (.iload_n 2, 1) := by decide +kernel
theorem dX8_makeAnew_7 : decode cX8_makeAnew 7 = .ok (.putfield 15, 3) := by decide +kernel
theorem dX8_makeAnew_10 : decode cX8_makeAnew 10 = .ok (.iconst 0, 1) := by decide +kernel
theorem dX8_makeAnew_11 : decode cX8_makeAnew 11 = .ok (.istore_n 3, 1) := by decide +kernel
theorem dX8_makeAnew_12 : decode cX8_makeAnew 12 = .ok (.iload_n 3, 1) := by decide +kernel
theorem dX8_makeAnew_13 : decode cX8_makeAnew 13 = .ok (.iload_n 1, 1) := by decide +kernel
theorem dX8_makeAnew_14 : decode cX8_makeAnew 14 = .ok (.if_icmp .ge 48, 3) := by decide +kernel
theorem dX8_makeAnew_17 : decode cX8_makeAnew 17 = .ok (.aload_n 0, 1) := by decide +kernel
theorem dX8_makeAnew_18 : decode cX8_makeAnew 18 = .ok (.getfield 18, 3) := by decide +kernel
theorem dX8_makeAnew_21 : decode cX8_makeAnew 21 = .ok (.iload_n 3, 1) := by decide +kernel
theorem dX8_makeAnew_22 : decode cX8_makeAnew 22 = .ok (.sipush 200, 3) := by decide +kernel
theorem dX8_makeAnew_25 : decode cX8_makeAnew 25 = .ok (.iastore, 1) := by decide +kernel
theorem dX8_makeAnew_26 : decode cX8_makeAnew 26 = .ok (.aload_n 0, 1) := by decide +kernel
theorem dX8_makeAnew_27 : decode cX8_makeAnew 27 = .ok (.getfield 22, 3) := by decide +kernel
theorem dX8_makeAnew_30 : decode cX8_makeAnew 30 = .ok (.iload_n 3, 1) := by decide +kernel
theorem dX8_makeAnew_31 : decode cX8_makeAnew 31 = .ok (.iconst 0, 1) := by decide +kernel
theorem dX8_makeAnew_32 : decode cX8_makeAnew 32 = .ok (.iastore, 1) := by decide +kernel
theorem dX8_makeAnew_33 : decode cX8_makeAnew 33 = .ok (.aload_n 0, 1) := by decide +kernel
theorem dX8_makeAnew_34 : decode cX8_makeAnew 34 = .ok (.getfield 25, 3) := by decide +kernel
theorem dX8_makeAnew_37 : decode cX8_makeAnew 37 = .ok (.iload_n 3, 1) := by decide +kernel
theorem dX8_makeAnew_38 : decode cX8_makeAnew 38 = .ok (.iconst 0, 1) := by decide +kernel
theorem dX8_makeAnew_39 : decode cX8_makeAnew 39 = .ok (.iastore, 1) := by decide +kernel
theorem dX8_makeAnew_40 : decode cX8_makeAnew 40 = .ok (.aload_n 0, 1) := by decide +kernel
theorem dX8_makeAnew_41 : decode cX8_makeAnew 41 = .ok (.getfield 28, 3) := by decide +kernel
theorem dX8_makeAnew_44 : decode cX8_makeAnew 44 = .ok (.iload_n 3, 1) := by decide +kernel
theorem dX8_makeAnew_45 : decode cX8_makeAnew 45 = .ok (.sipush 500, 3) := by decide +kernel
theorem dX8_makeAnew_48 : decode cX8_makeAnew 48 = .ok (.iastore, 1) := by decide +kernel
theorem dX8_makeAnew_49 : decode cX8_makeAnew 49 = .ok (.aload_n 0, 1) := by decide +kernel
theorem dX8_makeAnew_50 : decode cX8_makeAnew 50 = .ok (.getfield 31, 3) := by decide +kernel
theorem dX8_makeAnew_53 : decode cX8_makeAnew 53 = .ok (.iload_n 3, 1) := by decide +kernel
theorem dX8_makeAnew_54 : decode cX8_makeAnew 54 = .ok (.iconst 0, 1) := by decide +kernel
theorem dX8_makeAnew_55 : decode cX8_makeAnew 55 = .ok (.iastore, 1) := by decide +kernel
theorem dX8_makeAnew_56 : decode cX8_makeAnew 56 = .ok (.iinc 3 1, 3) := by decide +kernel
theorem dX8_makeAnew_59 : decode cX8_makeAnew 59 = .ok (.goto (-47), 3) := by decide +kernel
theorem dX8_makeAnew_62 : decode cX8_makeAnew 62 = .ok (.iconst 0, 1) := by decide +kernel
theorem dX8_makeAnew_63 : decode cX8_makeAnew 63 = .ok (.istore_n 3, 1) := by decide +kernel
theorem dX8_makeAnew_64 : decode cX8_makeAnew 64 = .ok (.iload_n 3, 1) := by decide +kernel
theorem dX8_makeAnew_65 : decode cX8_makeAnew 65 = .ok (.iload_n 2, 1) := by decide +kernel
theorem dX8_makeAnew_66 : decode cX8_makeAnew 66 = .ok (.if_icmp .ge 31, 3) := by decide +kernel
theorem dX8_makeAnew_69 : decode cX8_makeAnew 69 = .ok (.aload_n 0, 1) := by decide +kernel
theorem dX8_makeAnew_70 : decode cX8_makeAnew 70 = .ok (.getfield 34, 3) := by decide +kernel
theorem dX8_makeAnew_73 : decode cX8_makeAnew 73 = .ok (.iload_n 3, 1) := by decide +kernel
theorem dX8_makeAnew_74 : decode cX8_makeAnew 74 = .ok (.iload_n 2, 1) := by decide +kernel
theorem dX8_makeAnew_75 : decode cX8_makeAnew 75 = .ok (.iconst 1, 1) := by decide +kernel
theorem dX8_makeAnew_76 : decode cX8_makeAnew 76 = .ok (.if_icmp .le 13, 3) := by decide +kernel
theorem dX8_makeAnew_79 : decode cX8_makeAnew 79 = .ok (.iload_n 3, 1) := by decide +kernel
theorem dX8_makeAnew_80 : decode cX8_makeAnew 80 = .ok (.iload_n 1, 1) := by decide +kernel
theorem dX8_makeAnew_81 : decode cX8_makeAnew 81 = .ok (.imul, 1) := by decide +kernel
theorem dX8_makeAnew_82 : decode cX8_makeAnew 82 = .ok (.iload_n 2, 1) := by decide +kernel
theorem dX8_makeAnew_83 : decode cX8_makeAnew 83 = .ok (.iconst 1, 1) := by decide +kernel
theorem dX8_makeAnew_84 : decode cX8_makeAnew 84 = .ok (.isub, 1) := by decide +kernel
theorem dX8_makeAnew_85 : decode cX8_makeAnew 85 = .ok (.idiv, 1) := by decide +kernel
theorem dX8_makeAnew_86 : decode cX8_makeAnew 86 = .ok (.goto 4, 3) := by decide +kernel
theorem dX8_makeAnew_89 : decode cX8_makeAnew 89 = .ok (.iconst 0, 1) := by decide +kernel
theorem dX8_makeAnew_90 : decode cX8_makeAnew 90 = .ok (.iastore, 1) := by decide +kernel
theorem dX8_makeAnew_91 : decode cX8_makeAnew 91 = .ok (.iinc 3 1, 3) := by decide +kernel
theorem dX8_makeAnew_94 : decode cX8_makeAnew 94 = .ok (.goto (-30), 3) := by decide +kernel
theorem dX8_makeAnew_97 : decode cX8_makeAnew 97 = .ok (.iconst 0, 1) := by decide +kernel
theorem dX8_makeAnew_98 : decode cX8_makeAnew 98 = .ok (.istore_n 3, 1) := by decide +kernel
theorem dX8_makeAnew_99 : decode cX8_makeAnew 99 = .ok (.iload_n 3, 1) := by decide +kernel
theorem dX8_makeAnew_100 : decode cX8_makeAnew 100 = .ok (.aload_n 0, 1) := by decide +kernel
theorem dX8_makeAnew_101 : decode cX8_makeAnew 101 = .ok (.getfield 37, 3) := by decide +kernel
theorem dX8_makeAnew_104 : decode cX8_makeAnew 104 = .ok (.arraylength, 1) := by decide +kernel
theorem dX8_makeAnew_105 : decode cX8_makeAnew 105 = .ok (.if_icmp .ge 16, 3) := by decide +kernel
theorem dX8_makeAnew_108 : decode cX8_makeAnew 108 = .ok (.aload_n 0, 1) := by decide +kernel
theorem dX8_makeAnew_109 : decode cX8_makeAnew 109 = .ok (.getfield 37, 3) := by decide +kernel
theorem dX8_makeAnew_112 : decode cX8_makeAnew 112 = .ok (.iload_n 3, 1) := by decide +kernel
theorem dX8_makeAnew_113 : decode cX8_makeAnew 113 = .ok (.iconst 0, 1) := by decide +kernel
theorem dX8_makeAnew_114 : decode cX8_makeAnew 114 = .ok (.iastore, 1) := by decide +kernel
theorem dX8_makeAnew_115 : decode cX8_makeAnew 115 = .ok (.iinc 3 1, 3) := by decide +kernel
theorem dX8_makeAnew_118 : decode cX8_makeAnew 118 = .ok (.goto (-19), 3) := by decide +kernel
theorem dX8_makeAnew_121 : decode cX8_makeAnew 121 = .ok (.return_, 1) := by decide +kernel
theorem dX8_hasCell_0 : decode cX8_hasCell 0 = .ok (.iload_n 1, 1) := by decide +kernel
theorem dX8_hasCell_1 : decode cX8_hasCell 1 = .ok (.iconst 0, 1) := by decide +kernel
theorem dX8_hasCell_2 : decode cX8_hasCell 2 = .ok (.aload_n 0, 1) := by decide +kernel
theorem dX8_hasCell_3 : decode cX8_hasCell 3 = .ok (.getfield 9, 3) := by decide +kernel
theorem dX8_hasCell_6 : decode cX8_hasCell 6 = .ok (.iconst 1, 1) := by decide +kernel
theorem dX8_hasCell_7 : decode cX8_hasCell 7 = .ok (.isub, 1) := by decide +kernel
theorem dX8_hasCell_8 : decode cX8_hasCell 8 = .ok (.invokestatic 40, 3) := by decide +kernel
theorem dX8_hasCell_11 : decode cX8_hasCell 11 = .ok (.ireturn, 1) := by decide +kernel
theorem dX8_shape_0 : decode cX8_shape 0 = .ok (.aload_n 0, 1) := by decide +kernel
theorem dX8_shape_1 : decode cX8_shape 1 = .ok (.getfield 18, 3) := by decide +kernel
theorem dX8_shape_4 : decode cX8_shape 4 = .ok (.iload_n 1, 1) := by decide +kernel
theorem dX8_shape_5 : decode cX8_shape 5 = .ok (.iload_n 2, 1) := by decide +kernel
theorem dX8_shape_6 : decode cX8_shape 6 = .ok (.iastore, 1) := by decide +kernel
theorem dX8_shape_7 : decode cX8_shape 7 = .ok (.aload_n 0, 1) := by decide +kernel
theorem dX8_shape_8 : decode cX8_shape 8 = .ok (.getfield 22, 3) := by decide +kernel
theorem dX8_shape_11 : decode cX8_shape 11 = .ok (.iload_n 1, 1) := by decide +kernel
theorem dX8_shape_12 : decode cX8_shape 12 = .ok (.iload_n 3, 1) := by decide +kernel
theorem dX8_shape_13 : decode cX8_shape 13 = .ok (.iastore, 1) := by decide +kernel
theorem dX8_shape_14 : decode cX8_shape 14 = .ok (.aload_n 0, 1) := by decide +kernel
theorem dX8_shape_15 : decode cX8_shape 15 = .ok (.getfield 25, 3) := by decide +kernel
theorem dX8_shape_18 : decode cX8_shape 18 = .ok (.iload_n 1, 1) := by decide +kernel
theorem dX8_shape_19 : decode cX8_shape 19 = .ok (.iload 4, 2) := by decide +kernel
theorem dX8_shape_21 : decode cX8_shape 21 = .ok (.iastore, 1) := by decide +kernel
theorem dX8_shape_22 : decode cX8_shape 22 = .ok (.return_, 1) := by decide +kernel
theorem dX8_look_0 : decode cX8_look 0 = .ok (.iload_n 2, 1) := by decide +kernel
theorem dX8_look_1 : decode cX8_look 1 = .ok (.tableswitch 70 0 4 #[35, 42, 49, 56, 63], 35) := by decide +kernel
theorem dX8_look_36 : decode cX8_look 36 = .ok (.aload_n 0, 1) := by decide +kernel
theorem dX8_look_37 : decode cX8_look 37 = .ok (.getfield 18, 3) := by decide +kernel
theorem dX8_look_40 : decode cX8_look 40 = .ok (.iload_n 1, 1) := by decide +kernel
theorem dX8_look_41 : decode cX8_look 41 = .ok (.iaload, 1) := by decide +kernel
theorem dX8_look_42 : decode cX8_look 42 = .ok (.ireturn, 1) := by decide +kernel
theorem dX8_look_43 : decode cX8_look 43 = .ok (.aload_n 0, 1) := by decide +kernel
theorem dX8_look_44 : decode cX8_look 44 = .ok (.getfield 22, 3) := by decide +kernel
theorem dX8_look_47 : decode cX8_look 47 = .ok (.iload_n 1, 1) := by decide +kernel
theorem dX8_look_48 : decode cX8_look 48 = .ok (.iaload, 1) := by decide +kernel
theorem dX8_look_49 : decode cX8_look 49 = .ok (.ireturn, 1) := by decide +kernel
theorem dX8_look_50 : decode cX8_look 50 = .ok (.aload_n 0, 1) := by decide +kernel
theorem dX8_look_51 : decode cX8_look 51 = .ok (.getfield 25, 3) := by decide +kernel
theorem dX8_look_54 : decode cX8_look 54 = .ok (.iload_n 1, 1) := by decide +kernel
theorem dX8_look_55 : decode cX8_look 55 = .ok (.iaload, 1) := by decide +kernel
theorem dX8_look_56 : decode cX8_look 56 = .ok (.ireturn, 1) := by decide +kernel
theorem dX8_look_57 : decode cX8_look 57 = .ok (.aload_n 0, 1) := by decide +kernel
theorem dX8_look_58 : decode cX8_look 58 = .ok (.getfield 28, 3) := by decide +kernel
theorem dX8_look_61 : decode cX8_look 61 = .ok (.iload_n 1, 1) := by decide +kernel
theorem dX8_look_62 : decode cX8_look 62 = .ok (.iaload, 1) := by decide +kernel
theorem dX8_look_63 : decode cX8_look 63 = .ok (.ireturn, 1) := by decide +kernel
theorem dX8_look_64 : decode cX8_look 64 = .ok (.aload_n 0, 1) := by decide +kernel
theorem dX8_look_65 : decode cX8_look 65 = .ok (.getfield 31, 3) := by decide +kernel
theorem dX8_look_68 : decode cX8_look 68 = .ok (.iload_n 1, 1) := by decide +kernel
theorem dX8_look_69 : decode cX8_look 69 = .ok (.iaload, 1) := by decide +kernel
theorem dX8_look_70 : decode cX8_look 70 = .ok (.ireturn, 1) := by decide +kernel
theorem dX8_look_71 : decode cX8_look 71 = .ok (.iconst (-1), 1) := by decide +kernel
theorem dX8_look_72 : decode cX8_look 72 = .ok (.ireturn, 1) := by decide +kernel
theorem dX8_soften_0 : decode cX8_soften 0 = .ok (.iconst 0, 1) := by decide +kernel
theorem dX8_soften_1 : decode cX8_soften 1 = .ok (.istore 4, 2) := by decide +kernel
theorem dX8_soften_3 : decode cX8_soften 3 = .ok (.iload 4, 2) := by decide +kernel
theorem dX8_soften_5 : decode cX8_soften 5 = .ok (.aload_n 0, 1) := by decide +kernel
theorem dX8_soften_6 : decode cX8_soften 6 = .ok (.getfield 9, 3) := by decide +kernel
theorem dX8_soften_9 : decode cX8_soften 9 = .ok (.if_icmp .ge 51, 3) := by decide +kernel
theorem dX8_soften_12 : decode cX8_soften 12 = .ok (.aload_n 0, 1) := by decide +kernel
theorem dX8_soften_13 : decode cX8_soften 13 = .ok (.getfield 28, 3) := by decide +kernel
theorem dX8_soften_16 : decode cX8_soften 16 = .ok (.iload 4, 2) := by decide +kernel
theorem dX8_soften_18 : decode cX8_soften 18 = .ok (.iaload, 1) := by decide +kernel
theorem dX8_soften_19 : decode cX8_soften 19 = .ok (.iload_n 1, 1) := by decide +kernel
theorem dX8_soften_20 : decode cX8_soften 20 = .ok (.iload_n 2, 1) := by decide +kernel
theorem dX8_soften_21 : decode cX8_soften 21 = .ok (.aload_n 0, 1) := by decide +kernel
theorem dX8_soften_22 : decode cX8_soften 22 = .ok (.getfield 25, 3) := by decide +kernel
theorem dX8_soften_25 : decode cX8_soften 25 = .ok (.iload 4, 2) := by decide +kernel
theorem dX8_soften_27 : decode cX8_soften 27 = .ok (.iaload, 1) := by decide +kernel
theorem dX8_soften_28 : decode cX8_soften 28 = .ok (.iload_n 3, 1) := by decide +kernel
theorem dX8_soften_29 : decode cX8_soften 29 = .ok (.imul, 1) := by decide +kernel
theorem dX8_soften_30 : decode cX8_soften 30 = .ok (.iadd, 1) := by decide +kernel
theorem dX8_soften_31 : decode cX8_soften 31 = .ok (.imul, 1) := by decide +kernel
theorem dX8_soften_32 : decode cX8_soften 32 = .ok (.isub, 1) := by decide +kernel
theorem dX8_soften_33 : decode cX8_soften 33 = .ok (.istore 5, 2) := by decide +kernel
theorem dX8_soften_35 : decode cX8_soften 35 = .ok (.aload_n 0, 1) := by decide +kernel
theorem dX8_soften_36 : decode cX8_soften 36 = .ok (.getfield 28, 3) := by decide +kernel
theorem dX8_soften_39 : decode cX8_soften 39 = .ok (.iload 4, 2) := by decide +kernel
theorem dX8_soften_41 : decode cX8_soften 41 = .ok (.iconst 0, 1) := by decide +kernel
theorem dX8_soften_42 : decode cX8_soften 42 = .ok (.sipush 1000, 3) := by decide +kernel
theorem dX8_soften_45 : decode cX8_soften 45 = .ok (.iload 5, 2) := by decide +kernel
theorem dX8_soften_47 : decode cX8_soften 47 = .ok (.invokestatic 44, 3) := by decide +kernel
theorem dX8_soften_50 : decode cX8_soften 50 = .ok (.invokestatic 50, 3) := by decide +kernel
theorem dX8_soften_53 : decode cX8_soften 53 = .ok (.iastore, 1) := by decide +kernel
theorem dX8_soften_54 : decode cX8_soften 54 = .ok (.iinc 4 1, 3) := by decide +kernel
theorem dX8_soften_57 : decode cX8_soften 57 = .ok (.goto (-54), 3) := by decide +kernel
theorem dX8_soften_60 : decode cX8_soften 60 = .ok (.return_, 1) := by decide +kernel
theorem dX8_pour_0 : decode cX8_pour 0 = .ok (.iload_n 1, 1) := by decide +kernel
theorem dX8_pour_1 : decode cX8_pour 1 = .ok (.istore_n 3, 1) := by decide +kernel
theorem dX8_pour_2 : decode cX8_pour 2 = .ok (.iload_n 3, 1) := by decide +kernel
theorem dX8_pour_3 : decode cX8_pour 3 = .ok (.iload_n 2, 1) := by decide +kernel
theorem dX8_pour_4 : decode cX8_pour 4 = .ok (.if_icmp .ge 35, 3) := by decide +kernel
theorem dX8_pour_7 : decode cX8_pour 7 = .ok (.aload_n 0, 1) := by decide +kernel
theorem dX8_pour_8 : decode cX8_pour 8 = .ok (.getfield 31, 3) := by decide +kernel
theorem dX8_pour_11 : decode cX8_pour 11 = .ok (.iload_n 3, 1) := by decide +kernel
theorem dX8_pour_12 : decode cX8_pour 12 = .ok (.iconst 0, 1) := by decide +kernel
theorem dX8_pour_13 : decode cX8_pour 13 = .ok (.iastore, 1) := by decide +kernel
theorem dX8_pour_14 : decode cX8_pour 14 = .ok (.aload_n 0, 1) := by decide +kernel
theorem dX8_pour_15 : decode cX8_pour 15 = .ok (.getfield 28, 3) := by decide +kernel
theorem dX8_pour_18 : decode cX8_pour 18 = .ok (.iload_n 3, 1) := by decide +kernel
theorem dX8_pour_19 : decode cX8_pour 19 = .ok (.iconst 0, 1) := by decide +kernel
theorem dX8_pour_20 : decode cX8_pour 20 = .ok (.aload_n 0, 1) := by decide +kernel
theorem dX8_pour_21 : decode cX8_pour 21 = .ok (.getfield 28, 3) := by decide +kernel
theorem dX8_pour_24 : decode cX8_pour 24 = .ok (.iload_n 3, 1) := by decide +kernel
theorem dX8_pour_25 : decode cX8_pour 25 = .ok (.iaload, 1) := by decide +kernel
theorem dX8_pour_26 : decode cX8_pour 26 = .ok (.bipush 100, 2) := by decide +kernel
theorem dX8_pour_28 : decode cX8_pour 28 = .ok (.isub, 1) := by decide +kernel
theorem dX8_pour_29 : decode cX8_pour 29 = .ok (.invokestatic 50, 3) := by decide +kernel
theorem dX8_pour_32 : decode cX8_pour 32 = .ok (.iastore, 1) := by decide +kernel
theorem dX8_pour_33 : decode cX8_pour 33 = .ok (.iinc 3 1, 3) := by decide +kernel
theorem dX8_pour_36 : decode cX8_pour 36 = .ok (.goto (-34), 3) := by decide +kernel
theorem dX8_pour_39 : decode cX8_pour 39 = .ok (.return_, 1) := by decide +kernel
theorem dX8_wear_0 : decode cX8_wear 0 = .ok (.aload_n 0, 1) := by decide +kernel
theorem dX8_wear_1 : decode cX8_wear 1 = .ok (.getfield 31, 3) := by decide +kernel
theorem dX8_wear_4 : decode cX8_wear 4 = .ok (.iload_n 1, 1) := by decide +kernel
theorem dX8_wear_5 : decode cX8_wear 5 = .ok (.bipush 100, 2) := by decide +kernel
theorem dX8_wear_7 : decode cX8_wear 7 = .ok (.aload_n 0, 1) := by decide +kernel
theorem dX8_wear_8 : decode cX8_wear 8 = .ok (.getfield 31, 3) := by decide +kernel
theorem dX8_wear_11 : decode cX8_wear 11 = .ok (.iload_n 1, 1) := by decide +kernel
theorem dX8_wear_12 : decode cX8_wear 12 = .ok (.iaload, 1) := by decide +kernel
theorem dX8_wear_13 : decode cX8_wear 13 = .ok (.iconst 1, 1) := by decide +kernel
theorem dX8_wear_14 : decode cX8_wear 14 = .ok (.iadd, 1) := by decide +kernel
theorem dX8_wear_15 : decode cX8_wear 15 = .ok (.iload_n 2, 1) := by decide +kernel
theorem dX8_wear_16 : decode cX8_wear 16 = .ok (.bipush 64, 2) := by decide +kernel
theorem dX8_wear_18 : decode cX8_wear 18 = .ok (.idiv, 1) := by decide +kernel
theorem dX8_wear_19 : decode cX8_wear 19 = .ok (.iadd, 1) := by decide +kernel
theorem dX8_wear_20 : decode cX8_wear 20 = .ok (.invokestatic 44, 3) := by decide +kernel
theorem dX8_wear_23 : decode cX8_wear 23 = .ok (.iastore, 1) := by decide +kernel
theorem dX8_wear_24 : decode cX8_wear 24 = .ok (.aload_n 0, 1) := by decide +kernel
theorem dX8_wear_25 : decode cX8_wear 25 = .ok (.getfield 28, 3) := by decide +kernel
theorem dX8_wear_28 : decode cX8_wear 28 = .ok (.iload_n 1, 1) := by decide +kernel
theorem dX8_wear_29 : decode cX8_wear 29 = .ok (.iconst 0, 1) := by decide +kernel
theorem dX8_wear_30 : decode cX8_wear 30 = .ok (.aload_n 0, 1) := by decide +kernel
theorem dX8_wear_31 : decode cX8_wear 31 = .ok (.getfield 28, 3) := by decide +kernel
theorem dX8_wear_34 : decode cX8_wear 34 = .ok (.iload_n 1, 1) := by decide +kernel
theorem dX8_wear_35 : decode cX8_wear 35 = .ok (.iaload, 1) := by decide +kernel
theorem dX8_wear_36 : decode cX8_wear 36 = .ok (.iconst 2, 1) := by decide +kernel
theorem dX8_wear_37 : decode cX8_wear 37 = .ok (.isub, 1) := by decide +kernel
theorem dX8_wear_38 : decode cX8_wear 38 = .ok (.invokestatic 50, 3) := by decide +kernel
theorem dX8_wear_41 : decode cX8_wear 41 = .ok (.iastore, 1) := by decide +kernel
theorem dX8_wear_42 : decode cX8_wear 42 = .ok (.return_, 1) := by decide +kernel
theorem dX8_timeOf_0 : decode cX8_timeOf 0 = .ok (.sipush 1000, 3) := by decide +kernel
theorem dX8_timeOf_3 : decode cX8_timeOf 3 = .ok (.aload_n 0, 1) := by decide +kernel
theorem dX8_timeOf_4 : decode cX8_timeOf 4 = .ok (.getfield 28, 3) := by decide +kernel
theorem dX8_timeOf_7 : decode cX8_timeOf 7 = .ok (.iload_n 1, 1) := by decide +kernel
theorem dX8_timeOf_8 : decode cX8_timeOf 8 = .ok (.iaload, 1) := by decide +kernel
theorem dX8_timeOf_9 : decode cX8_timeOf 9 = .ok (.isub, 1) := by decide +kernel
theorem dX8_timeOf_10 : decode cX8_timeOf 10 = .ok (.bipush 8, 2) := by decide +kernel
theorem dX8_timeOf_12 : decode cX8_timeOf 12 = .ok (.idiv, 1) := by decide +kernel
theorem dX8_timeOf_13 : decode cX8_timeOf 13 = .ok (.istore 5, 2) := by decide +kernel
theorem dX8_timeOf_15 : decode cX8_timeOf 15 = .ok (.aload_n 0, 1) := by decide +kernel
theorem dX8_timeOf_16 : decode cX8_timeOf 16 = .ok (.getfield 18, 3) := by decide +kernel
theorem dX8_timeOf_19 : decode cX8_timeOf 19 = .ok (.iload_n 1, 1) := by decide +kernel
theorem dX8_timeOf_20 : decode cX8_timeOf 20 = .ok (.iaload, 1) := by decide +kernel
theorem dX8_timeOf_21 : decode cX8_timeOf 21 = .ok (.iload 5, 2) := by decide +kernel
theorem dX8_timeOf_23 : decode cX8_timeOf 23 = .ok (.iadd, 1) := by decide +kernel
theorem dX8_timeOf_24 : decode cX8_timeOf 24 = .ok (.iconst 2, 1) := by decide +kernel
theorem dX8_timeOf_25 : decode cX8_timeOf 25 = .ok (.aload_n 0, 1) := by decide +kernel
theorem dX8_timeOf_26 : decode cX8_timeOf 26 = .ok (.getfield 31, 3) := by decide +kernel
theorem dX8_timeOf_29 : decode cX8_timeOf 29 = .ok (.iload_n 1, 1) := by decide +kernel
theorem dX8_timeOf_30 : decode cX8_timeOf 30 = .ok (.iaload, 1) := by decide +kernel
theorem dX8_timeOf_31 : decode cX8_timeOf 31 = .ok (.imul, 1) := by decide +kernel
theorem dX8_timeOf_32 : decode cX8_timeOf 32 = .ok (.iadd, 1) := by decide +kernel
theorem dX8_timeOf_33 : decode cX8_timeOf 33 = .ok (.iload 4, 2) := by decide +kernel
theorem dX8_timeOf_35 : decode cX8_timeOf 35 = .ok (.iadd, 1) := by decide +kernel
theorem dX8_timeOf_36 : decode cX8_timeOf 36 = .ok (.bipush 9, 2) := by decide +kernel
theorem dX8_timeOf_38 : decode cX8_timeOf 38 = .ok (.iload_n 3, 1) := by decide +kernel
theorem dX8_timeOf_39 : decode cX8_timeOf 39 = .ok (.isub, 1) := by decide +kernel
theorem dX8_timeOf_40 : decode cX8_timeOf 40 = .ok (.aload_n 0, 1) := by decide +kernel
theorem dX8_timeOf_41 : decode cX8_timeOf 41 = .ok (.getfield 22, 3) := by decide +kernel
theorem dX8_timeOf_44 : decode cX8_timeOf 44 = .ok (.iload_n 1, 1) := by decide +kernel
theorem dX8_timeOf_45 : decode cX8_timeOf 45 = .ok (.iaload, 1) := by decide +kernel
theorem dX8_timeOf_46 : decode cX8_timeOf 46 = .ok (.imul, 1) := by decide +kernel
theorem dX8_timeOf_47 : decode cX8_timeOf 47 = .ok (.iadd, 1) := by decide +kernel
theorem dX8_timeOf_48 : decode cX8_timeOf 48 = .ok (.iload_n 2, 1) := by decide +kernel
theorem dX8_timeOf_49 : decode cX8_timeOf 49 = .ok (.bipush 8, 2) := by decide +kernel
theorem dX8_timeOf_51 : decode cX8_timeOf 51 = .ok (.idiv, 1) := by decide +kernel
theorem dX8_timeOf_52 : decode cX8_timeOf 52 = .ok (.isub, 1) := by decide +kernel
theorem dX8_timeOf_53 : decode cX8_timeOf 53 = .ok (.istore 6, 2) := by decide +kernel
theorem dX8_timeOf_55 : decode cX8_timeOf 55 = .ok (.iconst 1, 1) := by decide +kernel
theorem dX8_timeOf_56 : decode cX8_timeOf 56 = .ok (.iload 6, 2) := by decide +kernel
theorem dX8_timeOf_58 : decode cX8_timeOf 58 = .ok (.invokestatic 50, 3) := by decide +kernel
theorem dX8_timeOf_61 : decode cX8_timeOf 61 = .ok (.ireturn, 1) := by decide +kernel
theorem dX8_setEye_0 : decode cX8_setEye 0 = .ok (.aload_n 0, 1) := by decide +kernel
theorem dX8_setEye_1 : decode cX8_setEye 1 = .ok (.getfield 37, 3) := by decide +kernel
theorem dX8_setEye_4 : decode cX8_setEye 4 = .ok (.iload_n 1, 1) := by decide +kernel
theorem dX8_setEye_5 : decode cX8_setEye 5 = .ok (.iconst 2, 1) := by decide +kernel
theorem dX8_setEye_6 : decode cX8_setEye 6 = .ok (.imul, 1) := by decide +kernel
theorem dX8_setEye_7 : decode cX8_setEye 7 = .ok (.iload_n 2, 1) := by decide +kernel
theorem dX8_setEye_8 : decode cX8_setEye 8 = .ok (.iadd, 1) := by decide +kernel
theorem dX8_setEye_9 : decode cX8_setEye 9 = .ok (.iload_n 3, 1) := by decide +kernel
theorem dX8_setEye_10 : decode cX8_setEye 10 = .ok (.iastore, 1) := by decide +kernel
theorem dX8_setEye_11 : decode cX8_setEye 11 = .ok (.return_, 1) := by decide +kernel
theorem dX8_timeAtGate_0 : decode cX8_timeAtGate 0 = .ok (.aload_n 0, 1) := by decide +kernel
theorem dX8_timeAtGate_1 : decode cX8_timeAtGate 1 = .ok (.getfield 37, 3) := by decide +kernel
theorem dX8_timeAtGate_4 : decode cX8_timeAtGate 4 = .ok (.iload_n 1, 1) := by decide +kernel
theorem dX8_timeAtGate_5 : decode cX8_timeAtGate 5 = .ok (.iconst 2, 1) := by decide +kernel
theorem dX8_timeAtGate_6 : decode cX8_timeAtGate 6 = .ok (.imul, 1) := by decide +kernel
theorem dX8_timeAtGate_7 : decode cX8_timeAtGate 7 = .ok (.iaload, 1) := by decide +kernel
theorem dX8_timeAtGate_8 : decode cX8_timeAtGate 8 = .ok (.istore_n 3, 1) := by decide +kernel
theorem dX8_timeAtGate_9 : decode cX8_timeAtGate 9 = .ok (.aload_n 0, 1) := by decide +kernel
theorem dX8_timeAtGate_10 : decode cX8_timeAtGate 10 = .ok (.getfield 37, 3) := by decide +kernel
theorem dX8_timeAtGate_13 : decode cX8_timeAtGate 13 = .ok (.iload_n 1, 1) := by decide +kernel
theorem dX8_timeAtGate_14 : decode cX8_timeAtGate 14 = .ok (.iconst 2, 1) := by decide +kernel
theorem dX8_timeAtGate_15 : decode cX8_timeAtGate 15 = .ok (.imul, 1) := by decide +kernel
theorem dX8_timeAtGate_16 : decode cX8_timeAtGate 16 = .ok (.iconst 1, 1) := by decide +kernel
theorem dX8_timeAtGate_17 : decode cX8_timeAtGate 17 = .ok (.iadd, 1) := by decide +kernel
theorem dX8_timeAtGate_18 : decode cX8_timeAtGate 18 = .ok (.iaload, 1) := by decide +kernel
theorem dX8_timeAtGate_19 : decode cX8_timeAtGate 19 = .ok (.istore 4, 2) := by decide +kernel
theorem dX8_timeAtGate_21 : decode cX8_timeAtGate 21 = .ok (.iload_n 3, 1) := by decide +kernel
theorem dX8_timeAtGate_22 : decode cX8_timeAtGate 22 = .ok (.bipush 100, 2) := by decide +kernel
theorem dX8_timeAtGate_24 : decode cX8_timeAtGate 24 = .ok (.if_icmp .eq 7, 3) := by decide +kernel
theorem dX8_timeAtGate_27 : decode cX8_timeAtGate 27 = .ok (.iload_n 2, 1) := by decide +kernel
theorem dX8_timeAtGate_28 : decode cX8_timeAtGate 28 = .ok (.iload_n 3, 1) := by decide +kernel
theorem dX8_timeAtGate_29 : decode cX8_timeAtGate 29 = .ok (.iadd, 1) := by decide +kernel
theorem dX8_timeAtGate_30 : decode cX8_timeAtGate 30 = .ok (.ireturn, 1) := by decide +kernel
theorem dX8_timeAtGate_31 : decode cX8_timeAtGate 31 = .ok (.iload 4, 2) := by decide +kernel
theorem dX8_timeAtGate_33 : decode cX8_timeAtGate 33 = .ok (.bipush 100, 2) := by decide +kernel
theorem dX8_timeAtGate_35 : decode cX8_timeAtGate 35 = .ok (.if_icmp .eq 10, 3) := by decide +kernel
theorem dX8_timeAtGate_38 : decode cX8_timeAtGate 38 = .ok (.iload_n 2, 1) := by decide +kernel
theorem dX8_timeAtGate_39 : decode cX8_timeAtGate 39 = .ok (.iload 4, 2) := by decide +kernel
theorem dX8_timeAtGate_41 : decode cX8_timeAtGate 41 = .ok (.iadd, 1) := by decide +kernel
theorem dX8_timeAtGate_42 : decode cX8_timeAtGate 42 = .ok (.goto 5, 3) := by decide +kernel
theorem dX8_timeAtGate_45 : decode cX8_timeAtGate 45 = .ok (.ldc 53, 2) := by decide +kernel
theorem dX8_timeAtGate_47 : decode cX8_timeAtGate 47 = .ok (.ireturn, 1) := by decide +kernel
theorem dX8_doubleAtGate_0 : decode cX8_doubleAtGate 0 = .ok (.aload_n 0, 1) := by decide +kernel
theorem dX8_doubleAtGate_1 : decode cX8_doubleAtGate 1 = .ok (.getfield 37, 3) := by decide +kernel
theorem dX8_doubleAtGate_4 : decode cX8_doubleAtGate 4 = .ok (.iload_n 1, 1) := by decide +kernel
theorem dX8_doubleAtGate_5 : decode cX8_doubleAtGate 5 = .ok (.iconst 2, 1) := by decide +kernel
theorem dX8_doubleAtGate_6 : decode cX8_doubleAtGate 6 = .ok (.imul, 1) := by decide +kernel
theorem dX8_doubleAtGate_7 : decode cX8_doubleAtGate 7 = .ok (.iaload, 1) := by decide +kernel
theorem dX8_doubleAtGate_8 : decode cX8_doubleAtGate 8 = .ok (.istore_n 2, 1) := by decide +kernel
theorem dX8_doubleAtGate_9 : decode cX8_doubleAtGate 9 = .ok (.aload_n 0, 1) := by decide +kernel
theorem dX8_doubleAtGate_10 : decode cX8_doubleAtGate 10 = .ok (.getfield 37, 3) := by decide +kernel
theorem dX8_doubleAtGate_13 : decode cX8_doubleAtGate 13 = .ok (.iload_n 1, 1) := by decide +kernel
theorem dX8_doubleAtGate_14 : decode cX8_doubleAtGate 14 = .ok (.iconst 2, 1) := by decide +kernel
theorem dX8_doubleAtGate_15 : decode cX8_doubleAtGate 15 = .ok (.imul, 1) := by decide +kernel
theorem dX8_doubleAtGate_16 : decode cX8_doubleAtGate 16 = .ok (.iconst 1, 1) := by decide +kernel
theorem dX8_doubleAtGate_17 : decode cX8_doubleAtGate 17 = .ok (.iadd, 1) := by decide +kernel
theorem dX8_doubleAtGate_18 : decode cX8_doubleAtGate 18 = .ok (.iaload, 1) := by decide +kernel
theorem dX8_doubleAtGate_19 : decode cX8_doubleAtGate 19 = .ok (.istore_n 3, 1) := by decide +kernel
theorem dX8_doubleAtGate_20 : decode cX8_doubleAtGate 20 = .ok (.iload_n 2, 1) := by decide +kernel
theorem dX8_doubleAtGate_21 : decode cX8_doubleAtGate 21 = .ok (.bipush 100, 2) := by decide +kernel
theorem dX8_doubleAtGate_23 : decode cX8_doubleAtGate 23 = .ok (.if_icmp .eq 9, 3) := by decide +kernel
theorem dX8_doubleAtGate_26 : decode cX8_doubleAtGate 26 = .ok (.iload_n 3, 1) := by decide +kernel
theorem dX8_doubleAtGate_27 : decode cX8_doubleAtGate 27 = .ok (.bipush 100, 2) := by decide +kernel
theorem dX8_doubleAtGate_29 : decode cX8_doubleAtGate 29 = .ok (.if_icmp .ne 7, 3) := by decide +kernel
theorem dX8_doubleAtGate_32 : decode cX8_doubleAtGate 32 = .ok (.iconst 0, 1) := by decide +kernel
theorem dX8_doubleAtGate_33 : decode cX8_doubleAtGate 33 = .ok (.goto 9, 3) := by decide +kernel
theorem dX8_doubleAtGate_36 : decode cX8_doubleAtGate 36 = .ok (.iload_n 2, 1) := by decide +kernel
theorem dX8_doubleAtGate_37 : decode cX8_doubleAtGate 37 = .ok (.iload_n 3, 1) := by decide +kernel
theorem dX8_doubleAtGate_38 : decode cX8_doubleAtGate 38 = .ok (.isub, 1) := by decide +kernel
theorem dX8_doubleAtGate_39 : decode cX8_doubleAtGate 39 = .ok (.invokestatic 54, 3) := by decide +kernel
theorem dX8_doubleAtGate_42 : decode cX8_doubleAtGate 42 = .ok (.ireturn, 1) := by decide +kernel
theorem dX10_init_0 : decode cX10_init 0 = .ok (.aload_n 0, 1) := by decide +kernel
theorem dX10_init_1 : decode cX10_init 1 = .ok (.invokespecial 1, 3) := by decide +kernel
theorem dX10_init_4 : decode cX10_init 4 = .ok (.aload_n 0, 1) := by decide +kernel
theorem dX10_init_5 : decode cX10_init 5 = .ok (.new 7, 3) := by decide +kernel
theorem dX10_init_8 : decode cX10_init 8 = .ok (.dup, 1) := by decide +kernel
theorem dX10_init_9 : decode cX10_init 9 = .ok (.invokespecial 9, 3) := by decide +kernel
theorem dX10_init_12 : decode cX10_init 12 = .ok (.putfield 10, 3) := by decide +kernel
theorem dX10_init_15 : decode cX10_init 15 = .ok (.aload_n 0, 1) := by decide +kernel
theorem dX10_init_16 : decode cX10_init 16 = .ok (.new 16, 3) := by decide +kernel
theorem dX10_init_19 : decode cX10_init 19 = .ok (.dup, 1) := by decide +kernel
theorem dX10_init_20 : decode cX10_init 20 = .ok (.invokespecial 18, 3) := by decide +kernel
theorem dX10_init_23 : decode cX10_init 23 = .ok (.putfield 19, 3) := by decide +kernel
theorem dX10_init_26 : decode cX10_init 26 = .ok (.aload_n 0, 1) := by decide +kernel
theorem dX10_init_27 : decode cX10_init 27 = .ok (.new 23, 3) := by decide +kernel
theorem dX10_init_30 : decode cX10_init 30 = .ok (.dup, 1) := by decide +kernel
theorem dX10_init_31 : decode cX10_init 31 = .ok (.invokespecial 25, 3) := by decide +kernel
theorem dX10_init_34 : decode cX10_init 34 = .ok (.putfield 26, 3) := by decide +kernel
theorem dX10_init_37 : decode cX10_init 37 = .ok (.aload_n 0, 1) := by decide +kernel
theorem dX10_init_38 : decode cX10_init 38 = .ok (.new 30, 3) := by decide +kernel
theorem dX10_init_41 : decode cX10_init 41 = .ok (.dup, 1) := by decide +kernel
theorem dX10_init_42 : decode cX10_init 42 = .ok (.invokespecial 32, 3) := by decide +kernel
theorem dX10_init_45 : decode cX10_init 45 = .ok (.putfield 33, 3) := by decide +kernel
theorem dX10_init_48 : decode cX10_init 48 = .ok (.aload_n 0, 1) := by decide +kernel
theorem dX10_init_49 : decode cX10_init 49 = .ok (.new 37, 3) := by decide +kernel
theorem dX10_init_52 : decode cX10_init 52 = .ok (.dup, 1) := by decide +kernel
theorem dX10_init_53 : decode cX10_init 53 = .ok (.invokespecial 39, 3) := by decide +kernel
theorem dX10_init_56 : decode cX10_init 56 = .ok (.putfield 40, 3) := by decide +kernel
theorem dX10_init_59 : decode cX10_init 59 = .ok (.aload_n 0, 1) := by decide +kernel
theorem dX10_init_60 : decode cX10_init 60 = .ok (.new 44, 3) := by decide +kernel
theorem dX10_init_63 : decode cX10_init 63 = .ok (.dup, 1) := by decide +kernel
theorem dX10_init_64 : decode cX10_init 64 = .ok (.invokespecial 46, 3) := by decide +kernel
theorem dX10_init_67 : decode cX10_init 67 = .ok (.putfield 47, 3) := by decide +kernel
theorem dX10_init_70 : decode cX10_init 70 = .ok (.aload_n 0, 1) := by decide +kernel
theorem dX10_init_71 : decode cX10_init 71 = .ok (.new 51, 3) := by decide +kernel
theorem dX10_init_74 : decode cX10_init 74 = .ok (.dup, 1) := by decide +kernel
theorem dX10_init_75 : decode cX10_init 75 = .ok (.invokespecial 53, 3) := by decide +kernel
theorem dX10_init_78 : decode cX10_init 78 = .ok (.putfield 54, 3) := by decide +kernel
theorem dX10_init_81 : decode cX10_init 81 = .ok (.aload_n 0, 1) := by decide +kernel
theorem dX10_init_82 : decode cX10_init 82 = .ok (.iconst 0, 1) := by decide +kernel
theorem dX10_init_83 : decode cX10_init 83 = .ok (.putfield 58, 3) := by decide +kernel
theorem dX10_init_86 : decode cX10_init 86 = .ok (.return_, 1) := by decide +kernel
theorem dX10_track_0 : decode cX10_track 0 = .ok (.iload_n 1, 1) := by decide +kernel
theorem dX10_track_1 : decode cX10_track 1 = .ok (.iconst 5, 1) := by decide +kernel
theorem dX10_track_2 : decode cX10_track 2 = .ok (.bipush 40, 2) := by decide +kernel
theorem dX10_track_4 : decode cX10_track 4 = .ok (.invokestatic 62, 3) := by decide +kernel
theorem dX10_track_7 : decode cX10_track 7 = .ok (.ifCond .eq 23, 3) := by decide +kernel
theorem dX10_track_10 : decode cX10_track 10 = .ok (.iload_n 2, 1) := by decide +kernel
theorem dX10_track_11 : decode cX10_track 11 = .ok (.iconst 2, 1) := by decide +kernel
theorem dX10_track_12 : decode cX10_track 12 = .ok (.bipush 6, 2) := by decide +kernel
theorem dX10_track_14 : decode cX10_track 14 = .ok (.invokestatic 62, 3) := by decide +kernel
theorem dX10_track_17 : decode cX10_track 17 = .ok (.ifCond .eq 13, 3) := by decide +kernel
theorem dX10_track_20 : decode cX10_track 20 = .ok (.aload_n 0, 1) := by decide +kernel
theorem dX10_track_21 : decode cX10_track 21 = .ok (.getfield 47, 3) := by decide +kernel
theorem dX10_track_24 : decode cX10_track 24 = .ok (.getfield 66, 3) := by decide +kernel
theorem dX10_track_27 : decode cX10_track 27 = .ok (.ifCond .eq 5, 3) := by decide +kernel
theorem dX10_track_30 : decode cX10_track 30 = .ok (.iconst 0, 1) := by decide +kernel
theorem dX10_track_31 : decode cX10_track 31 = .ok (.ireturn, 1) := by decide +kernel
theorem dX10_track_32 : decode cX10_track 32 = .ok (.aload_n 0, 1) := by decide +kernel
theorem dX10_track_33 : decode cX10_track 33 = .ok (.getfield 10, 3) := by decide +kernel
theorem dX10_track_36 : decode cX10_track 36 = .ok (.iload_n 1, 1) := by decide +kernel
theorem dX10_track_37 : decode cX10_track 37 = .ok (.iload_n 2, 1) := by decide +kernel
theorem dX10_track_38 : decode cX10_track 38 = .ok (.invokevirtual 70, 3) := by decide +kernel
theorem dX10_track_41 : decode cX10_track 41 = .ok (.iconst 1, 1) := by decide +kernel
theorem dX10_track_42 : decode cX10_track 42 = .ok (.ireturn, 1) := by decide +kernel
theorem dX10_bend_0 : decode cX10_bend 0 = .ok (.iload_n 2, 1) := by decide +kernel
theorem dX10_bend_1 : decode cX10_bend 1 = .ok (.bipush 50, 2) := by decide +kernel
theorem dX10_bend_3 : decode cX10_bend 3 = .ok (.sipush 500, 3) := by decide +kernel
theorem dX10_bend_6 : decode cX10_bend 6 = .ok (.invokestatic 62, 3) := by decide +kernel
theorem dX10_bend_9 : decode cX10_bend 9 = .ok (.ifCond .eq 28, 3) := by decide +kernel
theorem dX10_bend_12 : decode cX10_bend 12 = .ok (.iload_n 3, 1) := by decide +kernel
theorem dX10_bend_13 : decode cX10_bend 13 = .ok (.iconst 0, 1) := by decide +kernel
theorem dX10_bend_14 : decode cX10_bend 14 = .ok (.bipush 9, 2) := by decide +kernel
theorem dX10_bend_16 : decode cX10_bend 16 = .ok (.invokestatic 62, 3) := by decide +kernel
theorem dX10_bend_19 : decode cX10_bend 19 = .ok (.ifCond .eq 18, 3) := by decide +kernel
theorem dX10_bend_22 : decode cX10_bend 22 = .ok (.iload 4, 2) := by decide +kernel
theorem dX10_bend_24 : decode cX10_bend 24 = .ok (.iconst 0, 1) := by decide +kernel
theorem dX10_bend_25 : decode cX10_bend 25 = .ok (.bipush 9, 2) := by decide +kernel
theorem dX10_bend_27 : decode cX10_bend 27 = .ok (.invokestatic 62, 3) := by decide +kernel
theorem dX10_bend_30 : decode cX10_bend 30 = .ok (.ifCond .eq 7, 3) := by decide +kernel
theorem dX10_bend_33 : decode cX10_bend 33 = .ok (.iconst 1, 1) := by decide +kernel
theorem dX10_bend_34 : decode cX10_bend 34 = .ok (.goto 4, 3) := by decide +kernel
theorem dX10_bend_37 : decode cX10_bend 37 = .ok (.iconst 0, 1) := by decide +kernel
theorem dX10_bend_38 : decode cX10_bend 38 = .ok (.istore 5, 2) := by decide +kernel
theorem dX10_bend_40 : decode cX10_bend 40 = .ok (.iload 5, 2) := by decide +kernel
theorem dX10_bend_42 : decode cX10_bend 42 = .ok (.ifCond .eq 25, 3) := by decide +kernel
theorem dX10_bend_45 : decode cX10_bend 45 = .ok (.aload_n 0, 1) := by decide +kernel
theorem dX10_bend_46 : decode cX10_bend 46 = .ok (.getfield 10, 3) := by decide +kernel
theorem dX10_bend_49 : decode cX10_bend 49 = .ok (.iload_n 1, 1) := by decide +kernel
theorem dX10_bend_50 : decode cX10_bend 50 = .ok (.invokevirtual 74, 3) := by decide +kernel
theorem dX10_bend_53 : decode cX10_bend 53 = .ok (.ifCond .eq 14, 3) := by decide +kernel
theorem dX10_bend_56 : decode cX10_bend 56 = .ok (.aload_n 0, 1) := by decide +kernel
theorem dX10_bend_57 : decode cX10_bend 57 = .ok (.getfield 47, 3) := by decide +kernel
theorem dX10_bend_60 : decode cX10_bend 60 = .ok (.getfield 78, 3) := by decide +kernel
theorem dX10_bend_63 : decode cX10_bend 63 = .ok (.iconst (-1), 1) := by decide +kernel
theorem dX10_bend_64 : decode cX10_bend 64 = .ok (.if_icmp .eq 5, 3) := by decide +kernel
theorem dX10_bend_67 : decode cX10_bend 67 = .ok (.iconst 0, 1) := by decide +kernel
theorem dX10_bend_68 : decode cX10_bend 68 = .ok (.ireturn, 1) := by decide +kernel
theorem dX10_bend_69 : decode cX10_bend 69 = .ok (.aload_n 0, 1) := by decide +kernel
theorem dX10_bend_70 : decode cX10_bend 70 = .ok (.getfield 10, 3) := by decide +kernel
theorem dX10_bend_73 : decode cX10_bend 73 = .ok (.iload_n 1, 1) := by decide +kernel
theorem dX10_bend_74 : decode cX10_bend 74 = .ok (.iload_n 2, 1) := by decide +kernel
theorem dX10_bend_75 : decode cX10_bend 75 = .ok (.iload_n 3, 1) := by decide +kernel
theorem dX10_bend_76 : decode cX10_bend 76 = .ok (.iload 4, 2) := by decide +kernel
theorem dX10_bend_78 : decode cX10_bend 78 = .ok (.invokevirtual 81, 3) := by decide +kernel
theorem dX10_bend_81 : decode cX10_bend 81 = .ok (.iconst 1, 1) := by decide +kernel
theorem dX10_bend_82 : decode cX10_bend 82 = .ok (.ireturn, 1) := by decide +kernel
theorem dX10_runners_0 : decode cX10_runners 0 = .ok (.iload_n 1, 1) := by decide +kernel
theorem dX10_runners_1 : decode cX10_runners 1 = .ok (.iconst 0, 1) := by decide +kernel
theorem dX10_runners_2 : decode cX10_runners 2 = .ok (.iconst 3, 1) := by decide +kernel
theorem dX10_runners_3 : decode cX10_runners 3 = .ok (.invokestatic 62, 3) := by decide +kernel
theorem dX10_runners_6 : decode cX10_runners 6 = .ok (.ifCond .eq 12, 3) := by decide +kernel
theorem dX10_runners_9 : decode cX10_runners 9 = .ok (.iload_n 2, 1) := by decide +kernel
theorem dX10_runners_10 : decode cX10_runners 10 = .ok (.iconst 0, 1) := by decide +kernel
theorem dX10_runners_11 : decode cX10_runners 11 = .ok (.iconst 3, 1) := by decide +kernel
theorem dX10_runners_12 : decode cX10_runners 12 = .ok (.invokestatic 62, 3) := by decide +kernel
theorem dX10_runners_15 : decode cX10_runners 15 = .ok (.ifCond .ne 5, 3) := by decide +kernel
theorem dX10_runners_18 : decode cX10_runners 18 = .ok (.iconst 0, 1) := by decide +kernel
theorem dX10_runners_19 : decode cX10_runners 19 = .ok (.ireturn, 1) := by decide +kernel
theorem dX10_runners_20 : decode cX10_runners 20 = .ok (.iload_n 3, 1) := by decide +kernel
theorem dX10_runners_21 : decode cX10_runners 21 = .ok (.bipush 9, 2) := by decide +kernel
theorem dX10_runners_23 : decode cX10_runners 23 = .ok (.if_icmp .gt 12, 3) := by decide +kernel
theorem dX10_runners_26 : decode cX10_runners 26 = .ok (.iload_n 2, 1) := by decide +kernel
theorem dX10_runners_27 : decode cX10_runners 27 = .ok (.iconst 3, 1) := by decide +kernel
theorem dX10_runners_28 : decode cX10_runners 28 = .ok (.if_icmp .eq 9, 3) := by decide +kernel
theorem dX10_runners_31 : decode cX10_runners 31 = .ok (.iload_n 3, 1) := by decide +kernel
theorem dX10_runners_32 : decode cX10_runners 32 = .ok (.ifCond .ge 5, 3) := by decide +kernel
theorem dX10_runners_35 : decode cX10_runners 35 = .ok (.iconst 0, 1) := by decide +kernel
theorem dX10_runners_36 : decode cX10_runners 36 = .ok (.ireturn, 1) := by decide +kernel
theorem dX10_runners_37 : decode cX10_runners 37 = .ok (.aload_n 0, 1) := by decide +kernel
theorem dX10_runners_38 : decode cX10_runners 38 = .ok (.getfield 19, 3) := by decide +kernel
theorem dX10_runners_41 : decode cX10_runners 41 = .ok (.iload_n 1, 1) := by decide +kernel
theorem dX10_runners_42 : decode cX10_runners 42 = .ok (.iload_n 2, 1) := by decide +kernel
theorem dX10_runners_43 : decode cX10_runners 43 = .ok (.iload_n 3, 1) := by decide +kernel
theorem dX10_runners_44 : decode cX10_runners 44 = .ok (.iload 4, 2) := by decide +kernel
theorem dX10_runners_46 : decode cX10_runners 46 = .ok (.iload 5, 2) := by decide +kernel
theorem dX10_runners_48 : decode cX10_runners 48 = .ok (.invokevirtual 85, 3) := by decide +kernel
theorem dX10_runners_51 : decode cX10_runners 51 = .ok (.iconst 1, 1) := by decide +kernel
theorem dX10_runners_52 : decode cX10_runners 52 = .ok (.ireturn, 1) := by decide +kernel
theorem dX10_copy_0 : decode cX10_copy 0 = .ok (.iload_n 1, 1) := by decide +kernel
theorem dX10_copy_1 : decode cX10_copy 1 = .ok (.iconst 0, 1) := by decide +kernel
theorem dX10_copy_2 : decode cX10_copy 2 = .ok (.iconst 3, 1) := by decide +kernel
theorem dX10_copy_3 : decode cX10_copy 3 = .ok (.invokestatic 62, 3) := by decide +kernel
theorem dX10_copy_6 : decode cX10_copy 6 = .ok (.ifCond .eq 12, 3) := by decide +kernel
theorem dX10_copy_9 : decode cX10_copy 9 = .ok (.iload_n 3, 1) := by decide +kernel
theorem dX10_copy_10 : decode cX10_copy 10 = .ok (.iconst 0, 1) := by decide +kernel
theorem dX10_copy_11 : decode cX10_copy 11 = .ok (.iconst 3, 1) := by decide +kernel
theorem dX10_copy_12 : decode cX10_copy 12 = .ok (.invokestatic 62, 3) := by decide +kernel
theorem dX10_copy_15 : decode cX10_copy 15 = .ok (.ifCond .ne 5, 3) := by decide +kernel
theorem dX10_copy_18 : decode cX10_copy 18 = .ok (.iconst (-1), 1) := by decide +kernel
theorem dX10_copy_19 : decode cX10_copy 19 = .ok (.ireturn, 1) := by decide +kernel
theorem dX10_copy_20 : decode cX10_copy 20 = .ok (.aload_n 0, 1) := by decide +kernel
theorem dX10_copy_21 : decode cX10_copy 21 = .ok (.getfield 19, 3) := by decide +kernel
theorem dX10_copy_24 : decode cX10_copy 24 = .ok (.iload_n 1, 1) := by decide +kernel
theorem dX10_copy_25 : decode cX10_copy 25 = .ok (.invokevirtual 89, 3) := by decide +kernel
theorem dX10_copy_28 : decode cX10_copy 28 = .ok (.ifCond .ne 14, 3) := by decide +kernel
theorem dX10_copy_31 : decode cX10_copy 31 = .ok (.aload_n 0, 1) := by decide +kernel
theorem dX10_copy_32 : decode cX10_copy 32 = .ok (.getfield 19, 3) := by decide +kernel
theorem dX10_copy_35 : decode cX10_copy 35 = .ok (.iload_n 3, 1) := by decide +kernel
theorem dX10_copy_36 : decode cX10_copy 36 = .ok (.invokevirtual 89, 3) := by decide +kernel
theorem dX10_copy_39 : decode cX10_copy 39 = .ok (.ifCond .eq 6, 3) := by decide +kernel
theorem dX10_copy_42 : decode cX10_copy 42 = .ok (.bipush (-2), 2) := by decide +kernel
theorem dX10_copy_44 : decode cX10_copy 44 = .ok (.ireturn, 1) := by decide +kernel
theorem dX10_copy_45 : decode cX10_copy 45 = .ok (.aload_n 0, 1) := by decide +kernel
theorem dX10_copy_46 : decode cX10_copy 46 = .ok (.getfield 19, 3) := by decide +kernel
theorem dX10_copy_49 : decode cX10_copy 49 = .ok (.iload_n 1, 1) := by decide +kernel
theorem dX10_copy_50 : decode cX10_copy 50 = .ok (.iload_n 3, 1) := by decide +kernel
theorem dX10_copy_51 : decode cX10_copy 51 = .ok (.invokevirtual 92, 3) := by decide +kernel
theorem dX10_copy_54 : decode cX10_copy 54 = .ok (.ifCond .ne 6, 3) := by decide +kernel
theorem dX10_copy_57 : decode cX10_copy 57 = .ok (.bipush (-3), 2) := by decide +kernel
theorem dX10_copy_59 : decode cX10_copy 59 = .ok (.ireturn, 1) := by decide +kernel
theorem dX10_copy_60 : decode cX10_copy 60 = .ok (.aload_n 0, 1) := by decide +kernel
theorem dX10_copy_61 : decode cX10_copy 61 = .ok (.getfield 19, 3) := by decide +kernel
theorem dX10_copy_64 : decode cX10_copy 64 = .ok (.iload_n 1, 1) := by decide +kernel
theorem dX10_copy_65 : decode cX10_copy 65 = .ok (.iload_n 2, 1) := by decide +kernel
theorem dX10_copy_66 : decode cX10_copy 66 = .ok (.iload 5, 2) := by decide +kernel
theorem dX10_copy_68 : decode cX10_copy 68 = .ok (.invokevirtual 96, 3) := by decide +kernel
theorem dX10_copy_71 : decode cX10_copy 71 = .ok (.ifCond .eq 18, 3) := by decide +kernel
theorem dX10_copy_74 : decode cX10_copy 74 = .ok (.aload_n 0, 1) := by decide +kernel
theorem dX10_copy_75 : decode cX10_copy 75 = .ok (.getfield 19, 3) := by decide +kernel
theorem dX10_copy_78 : decode cX10_copy 78 = .ok (.iload_n 3, 1) := by decide +kernel
theorem dX10_copy_79 : decode cX10_copy 79 = .ok (.iload 4, 2) := by decide +kernel
theorem dX10_copy_81 : decode cX10_copy 81 = .ok (.iload 5, 2) := by decide +kernel
theorem dX10_copy_83 : decode cX10_copy 83 = .ok (.invokevirtual 96, 3) := by decide +kernel
theorem dX10_copy_86 : decode cX10_copy 86 = .ok (.ifCond .ne 6, 3) := by decide +kernel
theorem dX10_copy_89 : decode cX10_copy 89 = .ok (.bipush (-4), 2) := by decide +kernel
theorem dX10_copy_91 : decode cX10_copy 91 = .ok (.ireturn, 1) := by decide +kernel
theorem dX10_copy_92 : decode cX10_copy 92 = .ok (.aload_n 0, 1) := by decide +kernel
theorem dX10_copy_93 : decode cX10_copy 93 = .ok (.getfield 19, 3) := by decide +kernel
theorem dX10_copy_96 : decode cX10_copy 96 = .ok (.iload_n 1, 1) := by decide +kernel
theorem dX10_copy_97 : decode cX10_copy 97 = .ok (.iload_n 2, 1) := by decide +kernel
theorem dX10_copy_98 : decode cX10_copy 98 = .ok (.iload_n 3, 1) := by decide +kernel
theorem dX10_copy_99 : decode cX10_copy 99 = .ok (.iload 4, 2) := by decide +kernel
theorem dX10_copy_101 : decode cX10_copy 101 = .ok (.iload 5, 2) := by decide +kernel
theorem dX10_copy_103 : decode cX10_copy 103 = .ok (.invokevirtual 99, 3) := by decide +kernel
theorem dX10_copy_106 : decode cX10_copy 106 = .ok (.iload 5, 2) := by decide +kernel
theorem dX10_copy_108 : decode cX10_copy 108 = .ok (.ireturn, 1) := by decide +kernel
theorem dX10_glide_0 : decode cX10_glide 0 = .ok (.iload_n 1, 1) := by decide +kernel
theorem dX10_glide_1 : decode cX10_glide 1 = .ok (.iconst 0, 1) := by decide +kernel
theorem dX10_glide_2 : decode cX10_glide 2 = .ok (.iconst 3, 1) := by decide +kernel
theorem dX10_glide_3 : decode cX10_glide 3 = .ok (.invokestatic 62, 3) := by decide +kernel
theorem dX10_glide_6 : decode cX10_glide 6 = .ok (.ifCond .eq 14, 3) := by decide +kernel
theorem dX10_glide_9 : decode cX10_glide 9 = .ok (.iload_n 2, 1) := by decide +kernel
theorem dX10_glide_10 : decode cX10_glide 10 = .ok (.iconst 0, 1) := by decide +kernel
theorem dX10_glide_11 : decode cX10_glide 11 = .ok (.sipush 1000, 3) := by decide +kernel
theorem dX10_glide_14 : decode cX10_glide 14 = .ok (.invokestatic 62, 3) := by decide +kernel
theorem dX10_glide_17 : decode cX10_glide 17 = .ok (.ifCond .ne 13, 3) := by decide +kernel
theorem dX10_glide_20 : decode cX10_glide 20 = .ok (.new 102, 3) := by decide +kernel
theorem dX10_glide_23 : decode cX10_glide 23 = .ok (.dup, 1) := by decide +kernel
theorem dX10_glide_24 : decode cX10_glide 24 = .ok (.ldc 104, 2) := by decide +kernel
theorem dX10_glide_26 : decode cX10_glide 26 = .ok (.invokespecial 106, 3) := by decide +kernel
theorem dX10_glide_29 : decode cX10_glide 29 = .ok (.athrow, 1) := by decide +kernel
theorem dX10_glide_30 : decode cX10_glide 30 = .ok (.aload_n 0, 1) := by decide +kernel
theorem dX10_glide_31 : decode cX10_glide 31 = .ok (.getfield 19, 3) := by decide +kernel
theorem dX10_glide_34 : decode cX10_glide 34 = .ok (.iload_n 1, 1) := by decide +kernel
theorem dX10_glide_35 : decode cX10_glide 35 = .ok (.iload_n 2, 1) := by decide +kernel
theorem dX10_glide_36 : decode cX10_glide 36 = .ok (.invokevirtual 109, 3) := by decide +kernel
theorem dX10_glide_39 : decode cX10_glide 39 = .ok (.ireturn, 1) := by decide +kernel
theorem dX10_weather_0 : decode cX10_weather 0 = .ok (.iload_n 1, 1) := by decide +kernel
theorem dX10_weather_1 : decode cX10_weather 1 = .ok (.iconst 1, 1) := by decide +kernel
theorem dX10_weather_2 : decode cX10_weather 2 = .ok (.sipush 600, 3) := by decide +kernel
theorem dX10_weather_5 : decode cX10_weather 5 = .ok (.invokestatic 62, 3) := by decide +kernel
theorem dX10_weather_8 : decode cX10_weather 8 = .ok (.ifCond .eq 27, 3) := by decide +kernel
theorem dX10_weather_11 : decode cX10_weather 11 = .ok (.iload_n 2, 1) := by decide +kernel
theorem dX10_weather_12 : decode cX10_weather 12 = .ok (.bipush (-30), 2) := by decide +kernel
theorem dX10_weather_14 : decode cX10_weather 14 = .ok (.bipush 30, 2) := by decide +kernel
theorem dX10_weather_16 : decode cX10_weather 16 = .ok (.invokestatic 62, 3) := by decide +kernel
theorem dX10_weather_19 : decode cX10_weather 19 = .ok (.ifCond .eq 16, 3) := by decide +kernel
theorem dX10_weather_22 : decode cX10_weather 22 = .ok (.iload_n 3, 1) := by decide +kernel
theorem dX10_weather_23 : decode cX10_weather 23 = .ok (.iconst 0, 1) := by decide +kernel
theorem dX10_weather_24 : decode cX10_weather 24 = .ok (.iconst 3, 1) := by decide +kernel
theorem dX10_weather_25 : decode cX10_weather 25 = .ok (.invokestatic 62, 3) := by decide +kernel
theorem dX10_weather_28 : decode cX10_weather 28 = .ok (.ifCond .eq 7, 3) := by decide +kernel
theorem dX10_weather_31 : decode cX10_weather 31 = .ok (.iconst 1, 1) := by decide +kernel
theorem dX10_weather_32 : decode cX10_weather 32 = .ok (.goto 4, 3) := by decide +kernel
theorem dX10_weather_35 : decode cX10_weather 35 = .ok (.iconst 0, 1) := by decide +kernel
theorem dX10_weather_36 : decode cX10_weather 36 = .ok (.istore 4, 2) := by decide +kernel
theorem dX10_weather_38 : decode cX10_weather 38 = .ok (.iload 4, 2) := by decide +kernel
theorem dX10_weather_40 : decode cX10_weather 40 = .ok (.ifCond .eq 13, 3) := by decide +kernel
theorem dX10_weather_43 : decode cX10_weather 43 = .ok (.aload_n 0, 1) := by decide +kernel
theorem dX10_weather_44 : decode cX10_weather 44 = .ok (.getfield 10, 3) := by decide +kernel
theorem dX10_weather_47 : decode cX10_weather 47 = .ok (.getfield 113, 3) := by decide +kernel
theorem dX10_weather_50 : decode cX10_weather 50 = .ok (.ifCond .ne 5, 3) := by decide +kernel
theorem dX10_weather_53 : decode cX10_weather 53 = .ok (.iconst 0, 1) := by decide +kernel
theorem dX10_weather_54 : decode cX10_weather 54 = .ok (.ireturn, 1) := by decide +kernel
theorem dX10_weather_55 : decode cX10_weather 55 = .ok (.aload_n 0, 1) := by decide +kernel
theorem dX10_weather_56 : decode cX10_weather 56 = .ok (.getfield 10, 3) := by decide +kernel
theorem dX10_weather_59 : decode cX10_weather 59 = .ok (.iload_n 1, 1) := by decide +kernel
theorem dX10_weather_60 : decode cX10_weather 60 = .ok (.iload_n 2, 1) := by decide +kernel
theorem dX10_weather_61 : decode cX10_weather 61 = .ok (.iload_n 3, 1) := by decide +kernel
theorem dX10_weather_62 : decode cX10_weather 62 = .ok (.invokevirtual 116, 3) := by decide +kernel
theorem dX10_weather_65 : decode cX10_weather 65 = .ok (.iconst 1, 1) := by decide +kernel
theorem dX10_weather_66 : decode cX10_weather 66 = .ok (.ireturn, 1) := by decide +kernel
theorem dX10_water_0 : decode cX10_water 0 = .ok (.iload_n 1, 1) := by decide +kernel
theorem dX10_water_1 : decode cX10_water 1 = .ok (.ifCond .lt 19, 3) := by decide +kernel
theorem dX10_water_4 : decode cX10_water 4 = .ok (.iload_n 1, 1) := by decide +kernel
theorem dX10_water_5 : decode cX10_water 5 = .ok (.iload_n 2, 1) := by decide +kernel
theorem dX10_water_6 : decode cX10_water 6 = .ok (.if_icmp .ge 14, 3) := by decide +kernel
theorem dX10_water_9 : decode cX10_water 9 = .ok (.iload_n 2, 1) := by decide +kernel
theorem dX10_water_10 : decode cX10_water 10 = .ok (.aload_n 0, 1) := by decide +kernel
theorem dX10_water_11 : decode cX10_water 11 = .ok (.getfield 10, 3) := by decide +kernel
theorem dX10_water_14 : decode cX10_water 14 = .ok (.getfield 113, 3) := by decide +kernel
theorem dX10_water_17 : decode cX10_water 17 = .ok (.if_icmp .le 5, 3) := by decide +kernel
theorem dX10_water_20 : decode cX10_water 20 = .ok (.iconst 0, 1) := by decide +kernel
theorem dX10_water_21 : decode cX10_water 21 = .ok (.ireturn, 1) := by decide +kernel
theorem dX10_water_22 : decode cX10_water 22 = .ok (.aload_n 0, 1) := by decide +kernel
theorem dX10_water_23 : decode cX10_water 23 = .ok (.getfield 10, 3) := by decide +kernel
theorem dX10_water_26 : decode cX10_water 26 = .ok (.iload_n 1, 1) := by decide +kernel
theorem dX10_water_27 : decode cX10_water 27 = .ok (.iload_n 2, 1) := by decide +kernel
theorem dX10_water_28 : decode cX10_water 28 = .ok (.invokevirtual 120, 3) := by decide +kernel
theorem dX10_water_31 : decode cX10_water 31 = .ok (.iconst 1, 1) := by decide +kernel
theorem dX10_water_32 : decode cX10_water 32 = .ok (.ireturn, 1) := by decide +kernel
theorem dX10_cell_0 : decode cX10_cell 0 = .ok (.aload_n 0, 1) := by decide +kernel
theorem dX10_cell_1 : decode cX10_cell 1 = .ok (.getfield 10, 3) := by decide +kernel
theorem dX10_cell_4 : decode cX10_cell 4 = .ok (.iload_n 1, 1) := by decide +kernel
theorem dX10_cell_5 : decode cX10_cell 5 = .ok (.invokevirtual 74, 3) := by decide +kernel
theorem dX10_cell_8 : decode cX10_cell 8 = .ok (.ifCond .eq 15, 3) := by decide +kernel
theorem dX10_cell_11 : decode cX10_cell 11 = .ok (.aload_n 0, 1) := by decide +kernel
theorem dX10_cell_12 : decode cX10_cell 12 = .ok (.getfield 10, 3) := by decide +kernel
theorem dX10_cell_15 : decode cX10_cell 15 = .ok (.iload_n 1, 1) := by decide +kernel
theorem dX10_cell_16 : decode cX10_cell 16 = .ok (.iload_n 2, 1) := by decide +kernel
theorem dX10_cell_17 : decode cX10_cell 17 = .ok (.invokevirtual 123, 3) := by decide +kernel
theorem dX10_cell_20 : decode cX10_cell 20 = .ok (.goto 4, 3) := by decide +kernel
theorem dX10_cell_23 : decode cX10_cell 23 = .ok (.iconst (-1), 1) := by decide +kernel
theorem dX10_cell_24 : decode cX10_cell 24 = .ok (.ireturn, 1) := by decide +kernel
theorem dX10_standard_0 : decode cX10_standard 0 = .ok (.aload_n 0, 1) := by decide +kernel
theorem dX10_standard_1 : decode cX10_standard 1 = .ok (.invokevirtual 126, 3) := by decide +kernel
theorem dX10_standard_4 : decode cX10_standard 4 = .ok (.ireturn, 1) := by decide +kernel
theorem dX10_eye_0 : decode cX10_eye 0 = .ok (.iload_n 3, 1) := by decide +kernel
theorem dX10_eye_1 : decode cX10_eye 1 = .ok (.bipush (-50), 2) := by decide +kernel
theorem dX10_eye_3 : decode cX10_eye 3 = .ok (.bipush 50, 2) := by decide +kernel
theorem dX10_eye_5 : decode cX10_eye 5 = .ok (.invokestatic 62, 3) := by decide +kernel
theorem dX10_eye_8 : decode cX10_eye 8 = .ok (.ifCond .ne 9, 3) := by decide +kernel
theorem dX10_eye_11 : decode cX10_eye 11 = .ok (.iload_n 3, 1) := by decide +kernel
theorem dX10_eye_12 : decode cX10_eye 12 = .ok (.bipush 100, 2) := by decide +kernel
theorem dX10_eye_14 : decode cX10_eye 14 = .ok (.if_icmp .ne 7, 3) := by decide +kernel
theorem dX10_eye_17 : decode cX10_eye 17 = .ok (.iconst 1, 1) := by decide +kernel
theorem dX10_eye_18 : decode cX10_eye 18 = .ok (.goto 4, 3) := by decide +kernel
theorem dX10_eye_21 : decode cX10_eye 21 = .ok (.iconst 0, 1) := by decide +kernel
theorem dX10_eye_22 : decode cX10_eye 22 = .ok (.istore 4, 2) := by decide +kernel
theorem dX10_eye_24 : decode cX10_eye 24 = .ok (.iload 4, 2) := by decide +kernel
theorem dX10_eye_26 : decode cX10_eye 26 = .ok (.ifCond .eq 29, 3) := by decide +kernel
theorem dX10_eye_29 : decode cX10_eye 29 = .ok (.iload_n 1, 1) := by decide +kernel
theorem dX10_eye_30 : decode cX10_eye 30 = .ok (.iconst 1, 1) := by decide +kernel
theorem dX10_eye_31 : decode cX10_eye 31 = .ok (.aload_n 0, 1) := by decide +kernel
theorem dX10_eye_32 : decode cX10_eye 32 = .ok (.getfield 10, 3) := by decide +kernel
theorem dX10_eye_35 : decode cX10_eye 35 = .ok (.getfield 130, 3) := by decide +kernel
theorem dX10_eye_38 : decode cX10_eye 38 = .ok (.iconst 1, 1) := by decide +kernel
theorem dX10_eye_39 : decode cX10_eye 39 = .ok (.isub, 1) := by decide +kernel
theorem dX10_eye_40 : decode cX10_eye 40 = .ok (.invokestatic 62, 3) := by decide +kernel
theorem dX10_eye_43 : decode cX10_eye 43 = .ok (.ifCond .eq 12, 3) := by decide +kernel
theorem dX10_eye_46 : decode cX10_eye 46 = .ok (.iload_n 2, 1) := by decide +kernel
theorem dX10_eye_47 : decode cX10_eye 47 = .ok (.iconst 0, 1) := by decide +kernel
theorem dX10_eye_48 : decode cX10_eye 48 = .ok (.iconst 1, 1) := by decide +kernel
theorem dX10_eye_49 : decode cX10_eye 49 = .ok (.invokestatic 62, 3) := by decide +kernel
theorem dX10_eye_52 : decode cX10_eye 52 = .ok (.ifCond .ne 5, 3) := by decide +kernel
theorem dX10_eye_55 : decode cX10_eye 55 = .ok (.iconst 0, 1) := by decide +kernel
theorem dX10_eye_56 : decode cX10_eye 56 = .ok (.ireturn, 1) := by decide +kernel
theorem dX10_eye_57 : decode cX10_eye 57 = .ok (.aload_n 0, 1) := by decide +kernel
theorem dX10_eye_58 : decode cX10_eye 58 = .ok (.getfield 10, 3) := by decide +kernel
theorem dX10_eye_61 : decode cX10_eye 61 = .ok (.iload_n 1, 1) := by decide +kernel
theorem dX10_eye_62 : decode cX10_eye 62 = .ok (.iload_n 2, 1) := by decide +kernel
theorem dX10_eye_63 : decode cX10_eye 63 = .ok (.iload_n 3, 1) := by decide +kernel
theorem dX10_eye_64 : decode cX10_eye 64 = .ok (.invokevirtual 133, 3) := by decide +kernel
theorem dX10_eye_67 : decode cX10_eye 67 = .ok (.iconst 1, 1) := by decide +kernel
theorem dX10_eye_68 : decode cX10_eye 68 = .ok (.ireturn, 1) := by decide +kernel
theorem dX10_sled_0 : decode cX10_sled 0 = .ok (.iload_n 1, 1) := by decide +kernel
theorem dX10_sled_1 : decode cX10_sled 1 = .ok (.iconst 0, 1) := by decide +kernel
theorem dX10_sled_2 : decode cX10_sled 2 = .ok (.iconst 3, 1) := by decide +kernel
theorem dX10_sled_3 : decode cX10_sled 3 = .ok (.invokestatic 62, 3) := by decide +kernel
theorem dX10_sled_6 : decode cX10_sled 6 = .ok (.ifCond .eq 39, 3) := by decide +kernel
theorem dX10_sled_9 : decode cX10_sled 9 = .ok (.iload_n 2, 1) := by decide +kernel
theorem dX10_sled_10 : decode cX10_sled 10 = .ok (.bipush 50, 2) := by decide +kernel
theorem dX10_sled_12 : decode cX10_sled 12 = .ok (.sipush 200, 3) := by decide +kernel
theorem dX10_sled_15 : decode cX10_sled 15 = .ok (.invokestatic 62, 3) := by decide +kernel
theorem dX10_sled_18 : decode cX10_sled 18 = .ok (.ifCond .eq 27, 3) := by decide +kernel
theorem dX10_sled_21 : decode cX10_sled 21 = .ok (.iload_n 3, 1) := by decide +kernel
theorem dX10_sled_22 : decode cX10_sled 22 = .ok (.iconst 0, 1) := by decide +kernel
theorem dX10_sled_23 : decode cX10_sled 23 = .ok (.iconst 3, 1) := by decide +kernel
theorem dX10_sled_24 : decode cX10_sled 24 = .ok (.invokestatic 62, 3) := by decide +kernel
theorem dX10_sled_27 : decode cX10_sled 27 = .ok (.ifCond .eq 18, 3) := by decide +kernel
theorem dX10_sled_30 : decode cX10_sled 30 = .ok (.iload 4, 2) := by decide +kernel
theorem dX10_sled_32 : decode cX10_sled 32 = .ok (.iconst 0, 1) := by decide +kernel
theorem dX10_sled_33 : decode cX10_sled 33 = .ok (.bipush 9, 2) := by decide +kernel
theorem dX10_sled_35 : decode cX10_sled 35 = .ok (.invokestatic 62, 3) := by decide +kernel
theorem dX10_sled_38 : decode cX10_sled 38 = .ok (.ifCond .eq 7, 3) := by decide +kernel
theorem dX10_sled_41 : decode cX10_sled 41 = .ok (.iconst 1, 1) := by decide +kernel
theorem dX10_sled_42 : decode cX10_sled 42 = .ok (.goto 4, 3) := by decide +kernel
theorem dX10_sled_45 : decode cX10_sled 45 = .ok (.iconst 0, 1) := by decide +kernel
theorem dX10_sled_46 : decode cX10_sled 46 = .ok (.istore 5, 2) := by decide +kernel
theorem dX10_sled_48 : decode cX10_sled 48 = .ok (.iload 5, 2) := by decide +kernel
theorem dX10_sled_50 : decode cX10_sled 50 = .ok (.ifCond .eq 15, 3) := by decide +kernel
theorem dX10_sled_53 : decode cX10_sled 53 = .ok (.aload_n 0, 1) := by decide +kernel
theorem dX10_sled_54 : decode cX10_sled 54 = .ok (.getfield 26, 3) := by decide +kernel
theorem dX10_sled_57 : decode cX10_sled 57 = .ok (.getfield 136, 3) := by decide +kernel
theorem dX10_sled_60 : decode cX10_sled 60 = .ok (.bipush 16, 2) := by decide +kernel
theorem dX10_sled_62 : decode cX10_sled 62 = .ok (.if_icmp .lt 5, 3) := by decide +kernel
theorem dX10_sled_65 : decode cX10_sled 65 = .ok (.iconst (-1), 1) := by decide +kernel
theorem dX10_sled_66 : decode cX10_sled 66 = .ok (.ireturn, 1) := by decide +kernel
theorem dX10_sled_67 : decode cX10_sled 67 = .ok (.aload_n 0, 1) := by decide +kernel
theorem dX10_sled_68 : decode cX10_sled 68 = .ok (.getfield 26, 3) := by decide +kernel
theorem dX10_sled_71 : decode cX10_sled 71 = .ok (.iload_n 1, 1) := by decide +kernel
theorem dX10_sled_72 : decode cX10_sled 72 = .ok (.iload_n 2, 1) := by decide +kernel
theorem dX10_sled_73 : decode cX10_sled 73 = .ok (.iload_n 3, 1) := by decide +kernel
theorem dX10_sled_74 : decode cX10_sled 74 = .ok (.iload 4, 2) := by decide +kernel
theorem dX10_sled_76 : decode cX10_sled 76 = .ok (.invokevirtual 139, 3) := by decide +kernel
theorem dX10_sled_79 : decode cX10_sled 79 = .ok (.ireturn, 1) := by decide +kernel
theorem dX10_feed_0 : decode cX10_feed 0 = .ok (.aload_n 0, 1) := by decide +kernel
theorem dX10_feed_1 : decode cX10_feed 1 = .ok (.getfield 33, 3) := by decide +kernel
theorem dX10_feed_4 : decode cX10_feed 4 = .ok (.getfield 143, 3) := by decide +kernel
theorem dX10_feed_7 : decode cX10_feed 7 = .ok (.sipush 280, 3) := by decide +kernel
theorem dX10_feed_10 : decode cX10_feed 10 = .ok (.if_icmp .le 5, 3) := by decide +kernel
theorem dX10_feed_13 : decode cX10_feed 13 = .ok (.iconst (-1), 1) := by decide +kernel
theorem dX10_feed_14 : decode cX10_feed 14 = .ok (.ireturn, 1) := by decide +kernel
theorem dX10_feed_15 : decode cX10_feed 15 = .ok (.aload_n 0, 1) := by decide +kernel
theorem dX10_feed_16 : decode cX10_feed 16 = .ok (.getfield 33, 3) := by decide +kernel
theorem dX10_feed_19 : decode cX10_feed 19 = .ok (.iload_n 1, 1) := by decide +kernel
theorem dX10_feed_20 : decode cX10_feed 20 = .ok (.invokevirtual 146, 3) := by decide +kernel
theorem dX10_feed_23 : decode cX10_feed 23 = .ok (.aload_n 0, 1) := by decide +kernel
theorem dX10_feed_24 : decode cX10_feed 24 = .ok (.getfield 33, 3) := by decide +kernel
theorem dX10_feed_27 : decode cX10_feed 27 = .ok (.iload_n 2, 1) := by decide +kernel
theorem dX10_feed_28 : decode cX10_feed 28 = .ok (.invokevirtual 146, 3) := by decide +kernel
theorem dX10_feed_31 : decode cX10_feed 31 = .ok (.aload_n 0, 1) := by decide +kernel
theorem dX10_feed_32 : decode cX10_feed 32 = .ok (.getfield 33, 3) := by decide +kernel
theorem dX10_feed_35 : decode cX10_feed 35 = .ok (.iload_n 3, 1) := by decide +kernel
theorem dX10_feed_36 : decode cX10_feed 36 = .ok (.invokevirtual 146, 3) := by decide +kernel
theorem dX10_feed_39 : decode cX10_feed 39 = .ok (.aload_n 0, 1) := by decide +kernel
theorem dX10_feed_40 : decode cX10_feed 40 = .ok (.getfield 33, 3) := by decide +kernel
theorem dX10_feed_43 : decode cX10_feed 43 = .ok (.iload 4, 2) := by decide +kernel
theorem dX10_feed_45 : decode cX10_feed 45 = .ok (.invokevirtual 146, 3) := by decide +kernel
theorem dX10_feed_48 : decode cX10_feed 48 = .ok (.aload_n 0, 1) := by decide +kernel
theorem dX10_feed_49 : decode cX10_feed 49 = .ok (.getfield 33, 3) := by decide +kernel
theorem dX10_feed_52 : decode cX10_feed 52 = .ok (.iload 5, 2) := by decide +kernel
theorem dX10_feed_54 : decode cX10_feed 54 = .ok (.invokevirtual 146, 3) := by decide +kernel
theorem dX10_feed_57 : decode cX10_feed 57 = .ok (.aload_n 0, 1) := by decide +kernel
theorem dX10_feed_58 : decode cX10_feed 58 = .ok (.getfield 33, 3) := by decide +kernel
theorem dX10_feed_61 : decode cX10_feed 61 = .ok (.getfield 143, 3) := by decide +kernel
theorem dX10_feed_64 : decode cX10_feed 64 = .ok (.ireturn, 1) := by decide +kernel
theorem dX10_end_0 : decode cX10_end 0 = .ok (.iload_n 1, 1) := by decide +kernel
theorem dX10_end_1 : decode cX10_end 1 = .ok (.iconst 0, 1) := by decide +kernel
theorem dX10_end_2 : decode cX10_end 2 = .ok (.aload_n 0, 1) := by decide +kernel
theorem dX10_end_3 : decode cX10_end 3 = .ok (.getfield 33, 3) := by decide +kernel
theorem dX10_end_6 : decode cX10_end 6 = .ok (.getfield 143, 3) := by decide +kernel
theorem dX10_end_9 : decode cX10_end 9 = .ok (.invokestatic 62, 3) := by decide +kernel
theorem dX10_end_12 : decode cX10_end 12 = .ok (.ifCond .ne 5, 3) := by decide +kernel
theorem dX10_end_15 : decode cX10_end 15 = .ok (.iconst (-1), 1) := by decide +kernel
theorem dX10_end_16 : decode cX10_end 16 = .ok (.ireturn, 1) := by decide +kernel
theorem dX10_end_17 : decode cX10_end 17 = .ok (.aload_n 0, 1) := by decide +kernel
theorem dX10_end_18 : decode cX10_end 18 = .ok (.getfield 33, 3) := by decide +kernel
theorem dX10_end_21 : decode cX10_end 21 = .ok (.iload_n 1, 1) := by decide +kernel
theorem dX10_end_22 : decode cX10_end 22 = .ok (.putfield 143, 3) := by decide +kernel
theorem dX10_end_25 : decode cX10_end 25 = .ok (.iload_n 1, 1) := by decide +kernel
theorem dX10_end_26 : decode cX10_end 26 = .ok (.ireturn, 1) := by decide +kernel
theorem dX10_laws_0 : decode cX10_laws 0 = .ok (.aload_n 0, 1) := by decide +kernel
theorem dX10_laws_1 : decode cX10_laws 1 = .ok (.getfield 47, 3) := by decide +kernel
theorem dX10_laws_4 : decode cX10_laws 4 = .ok (.getfield 78, 3) := by decide +kernel
theorem dX10_laws_7 : decode cX10_laws 7 = .ok (.iconst (-1), 1) := by decide +kernel
theorem dX10_laws_8 : decode cX10_laws 8 = .ok (.if_icmp .eq 5, 3) := by decide +kernel
theorem dX10_laws_11 : decode cX10_laws 11 = .ok (.iconst (-1), 1) := by decide +kernel
theorem dX10_laws_12 : decode cX10_laws 12 = .ok (.ireturn, 1) := by decide +kernel
theorem dX10_laws_13 : decode cX10_laws 13 = .ok (.aload_n 0, 1) := by decide +kernel
theorem dX10_laws_14 : decode cX10_laws 14 = .ok (.getfield 40, 3) := by decide +kernel
theorem dX10_laws_17 : decode cX10_laws 17 = .ok (.aload_n 0, 1) := by decide +kernel
theorem dX10_laws_18 : decode cX10_laws 18 = .ok (.getfield 33, 3) := by decide +kernel
theorem dX10_laws_21 : decode cX10_laws 21 = .ok (.invokevirtual 150, 3) := by decide +kernel
theorem dX10_laws_24 : decode cX10_laws 24 = .ok (.istore_n 1, 1) := by decide +kernel
theorem dX10_laws_25 : decode cX10_laws 25 = .ok (.aload_n 0, 1) := by decide +kernel
theorem dX10_laws_26 : decode cX10_laws 26 = .ok (.getfield 33, 3) := by decide +kernel
theorem dX10_laws_29 : decode cX10_laws 29 = .ok (.iconst 0, 1) := by decide +kernel
theorem dX10_laws_30 : decode cX10_laws 30 = .ok (.putfield 143, 3) := by decide +kernel
theorem dX10_laws_33 : decode cX10_laws 33 = .ok (.iload_n 1, 1) := by decide +kernel
theorem dX10_laws_34 : decode cX10_laws 34 = .ok (.ireturn, 1) := by decide +kernel
theorem dX10_place_0 : decode cX10_place 0 = .ok (.aload_n 0, 1) := by decide +kernel
theorem dX10_place_1 : decode cX10_place 1 = .ok (.getfield 40, 3) := by decide +kernel
theorem dX10_place_4 : decode cX10_place 4 = .ok (.getfield 154, 3) := by decide +kernel
theorem dX10_place_7 : decode cX10_place 7 = .ok (.ireturn, 1) := by decide +kernel
theorem dX10_law_0 : decode cX10_law 0 = .ok (.aload_n 0, 1) := by decide +kernel
theorem dX10_law_1 : decode cX10_law 1 = .ok (.getfield 40, 3) := by decide +kernel
theorem dX10_law_4 : decode cX10_law 4 = .ok (.iload_n 1, 1) := by decide +kernel
theorem dX10_law_5 : decode cX10_law 5 = .ok (.invokevirtual 157, 3) := by decide +kernel
theorem dX10_law_8 : decode cX10_law 8 = .ok (.ireturn, 1) := by decide +kernel
theorem dX10_race_0 : decode cX10_race 0 = .ok (.aload_n 0, 1) := by decide +kernel
theorem dX10_race_1 : decode cX10_race 1 = .ok (.getfield 10, 3) := by decide +kernel
theorem dX10_race_4 : decode cX10_race 4 = .ok (.getfield 113, 3) := by decide +kernel
theorem dX10_race_7 : decode cX10_race 7 = .ok (.ifCond .eq 14, 3) := by decide +kernel
theorem dX10_race_10 : decode cX10_race 10 = .ok (.aload_n 0, 1) := by decide +kernel
theorem dX10_race_11 : decode cX10_race 11 = .ok (.getfield 47, 3) := by decide +kernel
theorem dX10_race_14 : decode cX10_race 14 = .ok (.getfield 78, 3) := by decide +kernel
theorem dX10_race_17 : decode cX10_race 17 = .ok (.iconst (-1), 1) := by decide +kernel
theorem dX10_race_18 : decode cX10_race 18 = .ok (.if_icmp .eq 5, 3) := by decide +kernel
theorem dX10_race_21 : decode cX10_race 21 = .ok (.iconst 0, 1) := by decide +kernel
theorem dX10_race_22 : decode cX10_race 22 = .ok (.ireturn, 1) := by decide +kernel
theorem dX10_race_23 : decode cX10_race 23 = .ok (.aload_n 0, 1) := by decide +kernel
theorem dX10_race_24 : decode cX10_race 24 = .ok (.getfield 47, 3) := by decide +kernel
theorem dX10_race_27 : decode cX10_race 27 = .ok (.invokevirtual 161, 3) := by decide +kernel
theorem dX10_race_30 : decode cX10_race 30 = .ok (.aload_n 0, 1) := by decide +kernel
theorem dX10_race_31 : decode cX10_race 31 = .ok (.getfield 47, 3) := by decide +kernel
theorem dX10_race_34 : decode cX10_race 34 = .ok (.iconst 1, 1) := by decide +kernel
theorem dX10_race_35 : decode cX10_race 35 = .ok (.putfield 66, 3) := by decide +kernel
theorem dX10_race_38 : decode cX10_race 38 = .ok (.iconst 1, 1) := by decide +kernel
theorem dX10_race_39 : decode cX10_race 39 = .ok (.ireturn, 1) := by decide +kernel
theorem dX10_begin_0 : decode cX10_begin 0 = .ok (.aload_n 0, 1) := by decide +kernel
theorem dX10_begin_1 : decode cX10_begin 1 = .ok (.getfield 47, 3) := by decide +kernel
theorem dX10_begin_4 : decode cX10_begin 4 = .ok (.getfield 66, 3) := by decide +kernel
theorem dX10_begin_7 : decode cX10_begin 7 = .ok (.ifCond .eq 43, 3) := by decide +kernel
theorem dX10_begin_10 : decode cX10_begin 10 = .ok (.aload_n 0, 1) := by decide +kernel
theorem dX10_begin_11 : decode cX10_begin 11 = .ok (.getfield 47, 3) := by decide +kernel
theorem dX10_begin_14 : decode cX10_begin 14 = .ok (.getfield 78, 3) := by decide +kernel
theorem dX10_begin_17 : decode cX10_begin 17 = .ok (.iconst (-1), 1) := by decide +kernel
theorem dX10_begin_18 : decode cX10_begin 18 = .ok (.if_icmp .ne 32, 3) := by decide +kernel
theorem dX10_begin_21 : decode cX10_begin 21 = .ok (.aload_n 0, 1) := by decide +kernel
theorem dX10_begin_22 : decode cX10_begin 22 = .ok (.getfield 47, 3) := by decide +kernel
theorem dX10_begin_25 : decode cX10_begin 25 = .ok (.getfield 164, 3) := by decide +kernel
theorem dX10_begin_28 : decode cX10_begin 28 = .ok (.aload_n 0, 1) := by decide +kernel
theorem dX10_begin_29 : decode cX10_begin 29 = .ok (.getfield 40, 3) := by decide +kernel
theorem dX10_begin_32 : decode cX10_begin 32 = .ok (.iconst 4, 1) := by decide +kernel
theorem dX10_begin_33 : decode cX10_begin 33 = .ok (.invokevirtual 157, 3) := by decide +kernel
theorem dX10_begin_36 : decode cX10_begin 36 = .ok (.if_icmp .ge 14, 3) := by decide +kernel
theorem dX10_begin_39 : decode cX10_begin 39 = .ok (.aload_n 0, 1) := by decide +kernel
theorem dX10_begin_40 : decode cX10_begin 40 = .ok (.getfield 47, 3) := by decide +kernel
theorem dX10_begin_43 : decode cX10_begin 43 = .ok (.getfield 164, 3) := by decide +kernel
theorem dX10_begin_46 : decode cX10_begin 46 = .ok (.iconst 4, 1) := by decide +kernel
theorem dX10_begin_47 : decode cX10_begin 47 = .ok (.if_icmp .lt 5, 3) := by decide +kernel
theorem dX10_begin_50 : decode cX10_begin 50 = .ok (.iconst (-1), 1) := by decide +kernel
theorem dX10_begin_51 : decode cX10_begin 51 = .ok (.ireturn, 1) := by decide +kernel
theorem dX10_begin_52 : decode cX10_begin 52 = .ok (.aload_n 0, 1) := by decide +kernel
theorem dX10_begin_53 : decode cX10_begin 53 = .ok (.getfield 47, 3) := by decide +kernel
theorem dX10_begin_56 : decode cX10_begin 56 = .ok (.getfield 164, 3) := by decide +kernel
theorem dX10_begin_59 : decode cX10_begin 59 = .ok (.ifCond .ne 11, 3) := by decide +kernel
theorem dX10_begin_62 : decode cX10_begin 62 = .ok (.aload_n 0, 1) := by decide +kernel
theorem dX10_begin_63 : decode cX10_begin 63 = .ok (.iload_n 1, 1) := by decide +kernel
theorem dX10_begin_64 : decode cX10_begin 64 = .ok (.invokevirtual 167, 3) := by decide +kernel
theorem dX10_begin_67 : decode cX10_begin 67 = .ok (.goto 7, 3) := by decide +kernel
theorem dX10_begin_70 : decode cX10_begin 70 = .ok (.aload_n 0, 1) := by decide +kernel
theorem dX10_begin_71 : decode cX10_begin 71 = .ok (.invokevirtual 170, 3) := by decide +kernel
theorem dX10_begin_74 : decode cX10_begin 74 = .ok (.ireturn, 1) := by decide +kernel
theorem dX10_order_0 : decode cX10_order 0 = .ok (.aload_n 0, 1) := by decide +kernel
theorem dX10_order_1 : decode cX10_order 1 = .ok (.getfield 47, 3) := by decide +kernel
theorem dX10_order_4 : decode cX10_order 4 = .ok (.iload_n 1, 1) := by decide +kernel
theorem dX10_order_5 : decode cX10_order 5 = .ok (.invokevirtual 173, 3) := by decide +kernel
theorem dX10_order_8 : decode cX10_order 8 = .ok (.ireturn, 1) := by decide +kernel
theorem dX10_start_0 : decode cX10_start 0 = .ok (.aload_n 0, 1) := by decide +kernel
theorem dX10_start_1 : decode cX10_start 1 = .ok (.getfield 47, 3) := by decide +kernel
theorem dX10_start_4 : decode cX10_start 4 = .ok (.getfield 78, 3) := by decide +kernel
theorem dX10_start_7 : decode cX10_start 7 = .ok (.istore_n 1, 1) := by decide +kernel
theorem dX10_start_8 : decode cX10_start 8 = .ok (.aload_n 0, 1) := by decide +kernel
theorem dX10_start_9 : decode cX10_start 9 = .ok (.getfield 47, 3) := by decide +kernel
theorem dX10_start_12 : decode cX10_start 12 = .ok (.invokevirtual 176, 3) := by decide +kernel
theorem dX10_start_15 : decode cX10_start 15 = .ok (.istore_n 2, 1) := by decide +kernel
theorem dX10_start_16 : decode cX10_start 16 = .ok (.iload_n 1, 1) := by decide +kernel
theorem dX10_start_17 : decode cX10_start 17 = .ok (.iconst (-1), 1) := by decide +kernel
theorem dX10_start_18 : decode cX10_start 18 = .ok (.if_icmp .eq 8, 3) := by decide +kernel
theorem dX10_start_21 : decode cX10_start 21 = .ok (.iload_n 2, 1) := by decide +kernel
theorem dX10_start_22 : decode cX10_start 22 = .ok (.iconst (-1), 1) := by decide +kernel
theorem dX10_start_23 : decode cX10_start 23 = .ok (.if_icmp .ne 5, 3) := by decide +kernel
theorem dX10_start_26 : decode cX10_start 26 = .ok (.iconst (-1), 1) := by decide +kernel
theorem dX10_start_27 : decode cX10_start 27 = .ok (.ireturn, 1) := by decide +kernel
theorem dX10_start_28 : decode cX10_start 28 = .ok (.aload_n 0, 1) := by decide +kernel
theorem dX10_start_29 : decode cX10_start 29 = .ok (.iload_n 1, 1) := by decide +kernel
theorem dX10_start_30 : decode cX10_start 30 = .ok (.iload_n 2, 1) := by decide +kernel
theorem dX10_start_31 : decode cX10_start 31 = .ok (.invokevirtual 179, 3) := by decide +kernel
theorem dX10_start_34 : decode cX10_start 34 = .ok (.aload_n 0, 1) := by decide +kernel
theorem dX10_start_35 : decode cX10_start 35 = .ok (.getfield 47, 3) := by decide +kernel
theorem dX10_start_38 : decode cX10_start 38 = .ok (.invokevirtual 182, 3) := by decide +kernel
theorem dX10_start_41 : decode cX10_start 41 = .ok (.aload_n 0, 1) := by decide +kernel
theorem dX10_start_42 : decode cX10_start 42 = .ok (.getfield 47, 3) := by decide +kernel
theorem dX10_start_45 : decode cX10_start 45 = .ok (.getfield 185, 3) := by decide +kernel
theorem dX10_start_48 : decode cX10_start 48 = .ok (.iload_n 1, 1) := by decide +kernel
theorem dX10_start_49 : decode cX10_start 49 = .ok (.iload_n 2, 1) := by decide +kernel
theorem dX10_start_50 : decode cX10_start 50 = .ok (.invokevirtual 189, 3) := by decide +kernel
theorem dX10_start_53 : decode cX10_start 53 = .ok (.ireturn, 1) := by decide +kernel
theorem dX10_shut_0 : decode cX10_shut 0 = .ok (.aload_n 0, 1) := by decide +kernel
theorem dX10_shut_1 : decode cX10_shut 1 = .ok (.getfield 47, 3) := by decide +kernel
theorem dX10_shut_4 : decode cX10_shut 4 = .ok (.getfield 78, 3) := by decide +kernel
theorem dX10_shut_7 : decode cX10_shut 7 = .ok (.iconst (-1), 1) := by decide +kernel
theorem dX10_shut_8 : decode cX10_shut 8 = .ok (.if_icmp .ne 5, 3) := by decide +kernel
theorem dX10_shut_11 : decode cX10_shut 11 = .ok (.iconst (-1), 1) := by decide +kernel
theorem dX10_shut_12 : decode cX10_shut 12 = .ok (.ireturn, 1) := by decide +kernel
theorem dX10_shut_13 : decode cX10_shut 13 = .ok (.aload_n 0, 1) := by decide +kernel
theorem dX10_shut_14 : decode cX10_shut 14 = .ok (.getfield 47, 3) := by decide +kernel
theorem dX10_shut_17 : decode cX10_shut 17 = .ok (.invokevirtual 194, 3) := by decide +kernel
theorem dX10_shut_20 : decode cX10_shut 20 = .ok (.ireturn, 1) := by decide +kernel
theorem dX10_touch_0 : decode cX10_touch 0 = .ok (.iload_n 2, 1) := by decide +kernel
theorem dX10_touch_1 : decode cX10_touch 1 = .ok (.iconst 0, 1) := by decide +kernel
theorem dX10_touch_2 : decode cX10_touch 2 = .ok (.sipush 200, 3) := by decide +kernel
theorem dX10_touch_5 : decode cX10_touch 5 = .ok (.invokestatic 62, 3) := by decide +kernel
theorem dX10_touch_8 : decode cX10_touch 8 = .ok (.ifCond .eq 14, 3) := by decide +kernel
theorem dX10_touch_11 : decode cX10_touch 11 = .ok (.aload_n 0, 1) := by decide +kernel
theorem dX10_touch_12 : decode cX10_touch 12 = .ok (.getfield 47, 3) := by decide +kernel
theorem dX10_touch_15 : decode cX10_touch 15 = .ok (.iload_n 1, 1) := by decide +kernel
theorem dX10_touch_16 : decode cX10_touch 16 = .ok (.invokevirtual 197, 3) := by decide +kernel
theorem dX10_touch_19 : decode cX10_touch 19 = .ok (.ifCond .ne 5, 3) := by decide +kernel
theorem dX10_touch_22 : decode cX10_touch 22 = .ok (.iconst 0, 1) := by decide +kernel
theorem dX10_touch_23 : decode cX10_touch 23 = .ok (.ireturn, 1) := by decide +kernel
theorem dX10_touch_24 : decode cX10_touch 24 = .ok (.iload_n 2, 1) := by decide +kernel
theorem dX10_touch_25 : decode cX10_touch 25 = .ok (.aload_n 0, 1) := by decide +kernel
theorem dX10_touch_26 : decode cX10_touch 26 = .ok (.getfield 40, 3) := by decide +kernel
theorem dX10_touch_29 : decode cX10_touch 29 = .ok (.iconst 1, 1) := by decide +kernel
theorem dX10_touch_30 : decode cX10_touch 30 = .ok (.invokevirtual 157, 3) := by decide +kernel
theorem dX10_touch_33 : decode cX10_touch 33 = .ok (.if_icmp .le 18, 3) := by decide +kernel
theorem dX10_touch_36 : decode cX10_touch 36 = .ok (.aload_n 0, 1) := by decide +kernel
theorem dX10_touch_37 : decode cX10_touch 37 = .ok (.getfield 47, 3) := by decide +kernel
theorem dX10_touch_40 : decode cX10_touch 40 = .ok (.iload_n 1, 1) := by decide +kernel
theorem dX10_touch_41 : decode cX10_touch 41 = .ok (.invokevirtual 200, 3) := by decide +kernel
theorem dX10_touch_44 : decode cX10_touch 44 = .ok (.ifCond .eq 7, 3) := by decide +kernel
theorem dX10_touch_47 : decode cX10_touch 47 = .ok (.iconst 1, 1) := by decide +kernel
theorem dX10_touch_48 : decode cX10_touch 48 = .ok (.goto 4, 3) := by decide +kernel
theorem dX10_touch_51 : decode cX10_touch 51 = .ok (.iconst 0, 1) := by decide +kernel
theorem dX10_touch_52 : decode cX10_touch 52 = .ok (.ireturn, 1) := by decide +kernel
theorem dX10_time_0 : decode cX10_time 0 = .ok (.aload_n 0, 1) := by decide +kernel
theorem dX10_time_1 : decode cX10_time 1 = .ok (.iload_n 1, 1) := by decide +kernel
theorem dX10_time_2 : decode cX10_time 2 = .ok (.iload_n 2, 1) := by decide +kernel
theorem dX10_time_3 : decode cX10_time 3 = .ok (.iload_n 3, 1) := by decide +kernel
theorem dX10_time_4 : decode cX10_time 4 = .ok (.invokevirtual 203, 3) := by decide +kernel
theorem dX10_time_7 : decode cX10_time 7 = .ok (.ifCond .ne 5, 3) := by decide +kernel
theorem dX10_time_10 : decode cX10_time 10 = .ok (.iconst (-1), 1) := by decide +kernel
theorem dX10_time_11 : decode cX10_time 11 = .ok (.ireturn, 1) := by decide +kernel
theorem dX10_time_12 : decode cX10_time 12 = .ok (.aload_n 0, 1) := by decide +kernel
theorem dX10_time_13 : decode cX10_time 13 = .ok (.getfield 47, 3) := by decide +kernel
theorem dX10_time_16 : decode cX10_time 16 = .ok (.getfield 185, 3) := by decide +kernel
theorem dX10_time_19 : decode cX10_time 19 = .ok (.iload_n 1, 1) := by decide +kernel
theorem dX10_time_20 : decode cX10_time 20 = .ok (.iload_n 2, 1) := by decide +kernel
theorem dX10_time_21 : decode cX10_time 21 = .ok (.iload_n 3, 1) := by decide +kernel
theorem dX10_time_22 : decode cX10_time 22 = .ok (.invokevirtual 206, 3) := by decide +kernel
theorem dX10_time_25 : decode cX10_time 25 = .ok (.istore 4, 2) := by decide +kernel
theorem dX10_time_27 : decode cX10_time 27 = .ok (.iload 4, 2) := by decide +kernel
theorem dX10_time_29 : decode cX10_time 29 = .ok (.ldc 210, 2) := by decide +kernel
theorem dX10_time_31 : decode cX10_time 31 = .ok (.if_icmp .ne 7, 3) := by decide +kernel
theorem dX10_time_34 : decode cX10_time 34 = .ok (.iconst (-1), 1) := by decide +kernel
theorem dX10_time_35 : decode cX10_time 35 = .ok (.goto 5, 3) := by decide +kernel
theorem dX10_time_38 : decode cX10_time 38 = .ok (.iload 4, 2) := by decide +kernel
theorem dX10_time_40 : decode cX10_time 40 = .ok (.ireturn, 1) := by decide +kernel
theorem dX10_twice_0 : decode cX10_twice 0 = .ok (.aload_n 0, 1) := by decide +kernel
theorem dX10_twice_1 : decode cX10_twice 1 = .ok (.iload_n 1, 1) := by decide +kernel
theorem dX10_twice_2 : decode cX10_twice 2 = .ok (.iload_n 2, 1) := by decide +kernel
theorem dX10_twice_3 : decode cX10_twice 3 = .ok (.iload_n 3, 1) := by decide +kernel
theorem dX10_twice_4 : decode cX10_twice 4 = .ok (.invokevirtual 203, 3) := by decide +kernel
theorem dX10_twice_7 : decode cX10_twice 7 = .ok (.ifCond .eq 19, 3) := by decide +kernel
theorem dX10_twice_10 : decode cX10_twice 10 = .ok (.aload_n 0, 1) := by decide +kernel
theorem dX10_twice_11 : decode cX10_twice 11 = .ok (.getfield 47, 3) := by decide +kernel
theorem dX10_twice_14 : decode cX10_twice 14 = .ok (.getfield 185, 3) := by decide +kernel
theorem dX10_twice_17 : decode cX10_twice 17 = .ok (.iload_n 1, 1) := by decide +kernel
theorem dX10_twice_18 : decode cX10_twice 18 = .ok (.iload_n 2, 1) := by decide +kernel
theorem dX10_twice_19 : decode cX10_twice 19 = .ok (.iload_n 3, 1) := by decide +kernel
theorem dX10_twice_20 : decode cX10_twice 20 = .ok (.invokevirtual 211, 3) := by decide +kernel
theorem dX10_twice_23 : decode cX10_twice 23 = .ok (.goto 4, 3) := by decide +kernel
theorem dX10_twice_26 : decode cX10_twice 26 = .ok (.iconst (-1), 1) := by decide +kernel
theorem dX10_twice_27 : decode cX10_twice 27 = .ok (.ireturn, 1) := by decide +kernel
theorem dX10_sum_0 : decode cX10_sum 0 = .ok (.iload_n 2, 1) := by decide +kernel
theorem dX10_sum_1 : decode cX10_sum 1 = .ok (.iconst 0, 1) := by decide +kernel
theorem dX10_sum_2 : decode cX10_sum 2 = .ok (.aload_n 0, 1) := by decide +kernel
theorem dX10_sum_3 : decode cX10_sum 3 = .ok (.getfield 47, 3) := by decide +kernel
theorem dX10_sum_6 : decode cX10_sum 6 = .ok (.getfield 214, 3) := by decide +kernel
theorem dX10_sum_9 : decode cX10_sum 9 = .ok (.invokestatic 62, 3) := by decide +kernel
theorem dX10_sum_12 : decode cX10_sum 12 = .ok (.ifCond .ne 5, 3) := by decide +kernel
theorem dX10_sum_15 : decode cX10_sum 15 = .ok (.iconst (-1), 1) := by decide +kernel
theorem dX10_sum_16 : decode cX10_sum 16 = .ok (.ireturn, 1) := by decide +kernel
theorem dX10_sum_17 : decode cX10_sum 17 = .ok (.aload_n 0, 1) := by decide +kernel
theorem dX10_sum_18 : decode cX10_sum 18 = .ok (.getfield 54, 3) := by decide +kernel
theorem dX10_sum_21 : decode cX10_sum 21 = .ok (.aload_n 0, 1) := by decide +kernel
theorem dX10_sum_22 : decode cX10_sum 22 = .ok (.getfield 47, 3) := by decide +kernel
theorem dX10_sum_25 : decode cX10_sum 25 = .ok (.iload_n 2, 1) := by decide +kernel
theorem dX10_sum_26 : decode cX10_sum 26 = .ok (.invokevirtual 217, 3) := by decide +kernel
theorem dX10_sum_29 : decode cX10_sum 29 = .ok (.aload_n 0, 1) := by decide +kernel
theorem dX10_sum_30 : decode cX10_sum 30 = .ok (.getfield 54, 3) := by decide +kernel
theorem dX10_sum_33 : decode cX10_sum 33 = .ok (.iload_n 1, 1) := by decide +kernel
theorem dX10_sum_34 : decode cX10_sum 34 = .ok (.invokevirtual 221, 3) := by decide +kernel
theorem dX10_sum_37 : decode cX10_sum 37 = .ok (.ireturn, 1) := by decide +kernel
theorem dX10_rank_0 : decode cX10_rank 0 = .ok (.iload_n 2, 1) := by decide +kernel
theorem dX10_rank_1 : decode cX10_rank 1 = .ok (.iconst 0, 1) := by decide +kernel
theorem dX10_rank_2 : decode cX10_rank 2 = .ok (.aload_n 0, 1) := by decide +kernel
theorem dX10_rank_3 : decode cX10_rank 3 = .ok (.getfield 47, 3) := by decide +kernel
theorem dX10_rank_6 : decode cX10_rank 6 = .ok (.getfield 214, 3) := by decide +kernel
theorem dX10_rank_9 : decode cX10_rank 9 = .ok (.invokestatic 62, 3) := by decide +kernel
theorem dX10_rank_12 : decode cX10_rank 12 = .ok (.ifCond .ne 5, 3) := by decide +kernel
theorem dX10_rank_15 : decode cX10_rank 15 = .ok (.iconst (-1), 1) := by decide +kernel
theorem dX10_rank_16 : decode cX10_rank 16 = .ok (.ireturn, 1) := by decide +kernel
theorem dX10_rank_17 : decode cX10_rank 17 = .ok (.aload_n 0, 1) := by decide +kernel
theorem dX10_rank_18 : decode cX10_rank 18 = .ok (.getfield 54, 3) := by decide +kernel
theorem dX10_rank_21 : decode cX10_rank 21 = .ok (.aload_n 0, 1) := by decide +kernel
theorem dX10_rank_22 : decode cX10_rank 22 = .ok (.getfield 47, 3) := by decide +kernel
theorem dX10_rank_25 : decode cX10_rank 25 = .ok (.iload_n 2, 1) := by decide +kernel
theorem dX10_rank_26 : decode cX10_rank 26 = .ok (.invokevirtual 217, 3) := by decide +kernel
theorem dX10_rank_29 : decode cX10_rank 29 = .ok (.aload_n 0, 1) := by decide +kernel
theorem dX10_rank_30 : decode cX10_rank 30 = .ok (.getfield 54, 3) := by decide +kernel
theorem dX10_rank_33 : decode cX10_rank 33 = .ok (.iload_n 1, 1) := by decide +kernel
theorem dX10_rank_34 : decode cX10_rank 34 = .ok (.invokevirtual 224, 3) := by decide +kernel
theorem dX10_rank_37 : decode cX10_rank 37 = .ok (.ireturn, 1) := by decide +kernel
theorem dX10_ice_0 : decode cX10_ice 0 = .ok (.aload_n 0, 1) := by decide +kernel
theorem dX10_ice_1 : decode cX10_ice 1 = .ok (.getfield 47, 3) := by decide +kernel
theorem dX10_ice_4 : decode cX10_ice 4 = .ok (.iload_n 1, 1) := by decide +kernel
theorem dX10_ice_5 : decode cX10_ice 5 = .ok (.invokevirtual 227, 3) := by decide +kernel
theorem dX10_ice_8 : decode cX10_ice 8 = .ok (.ifCond .eq 18, 3) := by decide +kernel
theorem dX10_ice_11 : decode cX10_ice 11 = .ok (.aload_n 0, 1) := by decide +kernel
theorem dX10_ice_12 : decode cX10_ice 12 = .ok (.getfield 47, 3) := by decide +kernel
theorem dX10_ice_15 : decode cX10_ice 15 = .ok (.getfield 185, 3) := by decide +kernel
theorem dX10_ice_18 : decode cX10_ice 18 = .ok (.iload_n 1, 1) := by decide +kernel
theorem dX10_ice_19 : decode cX10_ice 19 = .ok (.iload_n 2, 1) := by decide +kernel
theorem dX10_ice_20 : decode cX10_ice 20 = .ok (.invokevirtual 230, 3) := by decide +kernel
theorem dX10_ice_23 : decode cX10_ice 23 = .ok (.ifCond .ne 13, 3) := by decide +kernel
theorem dX10_ice_26 : decode cX10_ice 26 = .ok (.new 102, 3) := by decide +kernel
theorem dX10_ice_29 : decode cX10_ice 29 = .ok (.dup, 1) := by decide +kernel
theorem dX10_ice_30 : decode cX10_ice 30 = .ok (.ldc 233, 2) := by decide +kernel
theorem dX10_ice_32 : decode cX10_ice 32 = .ok (.invokespecial 106, 3) := by decide +kernel
theorem dX10_ice_35 : decode cX10_ice 35 = .ok (.athrow, 1) := by decide +kernel
theorem dX10_ice_36 : decode cX10_ice 36 = .ok (.aload_n 0, 1) := by decide +kernel
theorem dX10_ice_37 : decode cX10_ice 37 = .ok (.getfield 47, 3) := by decide +kernel
theorem dX10_ice_40 : decode cX10_ice 40 = .ok (.getfield 185, 3) := by decide +kernel
theorem dX10_ice_43 : decode cX10_ice 43 = .ok (.iload_n 1, 1) := by decide +kernel
theorem dX10_ice_44 : decode cX10_ice 44 = .ok (.iload_n 2, 1) := by decide +kernel
theorem dX10_ice_45 : decode cX10_ice 45 = .ok (.invokevirtual 235, 3) := by decide +kernel
theorem dX10_ice_48 : decode cX10_ice 48 = .ok (.ireturn, 1) := by decide +kernel
theorem dX10_lost_0 : decode cX10_lost 0 = .ok (.aload_n 0, 1) := by decide +kernel
theorem dX10_lost_1 : decode cX10_lost 1 = .ok (.getfield 47, 3) := by decide +kernel
theorem dX10_lost_4 : decode cX10_lost 4 = .ok (.iload_n 1, 1) := by decide +kernel
theorem dX10_lost_5 : decode cX10_lost 5 = .ok (.invokevirtual 227, 3) := by decide +kernel
theorem dX10_lost_8 : decode cX10_lost 8 = .ok (.ifCond .eq 35, 3) := by decide +kernel
theorem dX10_lost_11 : decode cX10_lost 11 = .ok (.aload_n 0, 1) := by decide +kernel
theorem dX10_lost_12 : decode cX10_lost 12 = .ok (.getfield 47, 3) := by decide +kernel
theorem dX10_lost_15 : decode cX10_lost 15 = .ok (.getfield 185, 3) := by decide +kernel
theorem dX10_lost_18 : decode cX10_lost 18 = .ok (.iload_n 1, 1) := by decide +kernel
theorem dX10_lost_19 : decode cX10_lost 19 = .ok (.iload_n 2, 1) := by decide +kernel
theorem dX10_lost_20 : decode cX10_lost 20 = .ok (.invokevirtual 230, 3) := by decide +kernel
theorem dX10_lost_23 : decode cX10_lost 23 = .ok (.ifCond .eq 20, 3) := by decide +kernel
theorem dX10_lost_26 : decode cX10_lost 26 = .ok (.iload_n 3, 1) := by decide +kernel
theorem dX10_lost_27 : decode cX10_lost 27 = .ok (.iconst 0, 1) := by decide +kernel
theorem dX10_lost_28 : decode cX10_lost 28 = .ok (.aload_n 0, 1) := by decide +kernel
theorem dX10_lost_29 : decode cX10_lost 29 = .ok (.getfield 10, 3) := by decide +kernel
theorem dX10_lost_32 : decode cX10_lost 32 = .ok (.getfield 130, 3) := by decide +kernel
theorem dX10_lost_35 : decode cX10_lost 35 = .ok (.iconst 2, 1) := by decide +kernel
theorem dX10_lost_36 : decode cX10_lost 36 = .ok (.isub, 1) := by decide +kernel
theorem dX10_lost_37 : decode cX10_lost 37 = .ok (.invokestatic 62, 3) := by decide +kernel
theorem dX10_lost_40 : decode cX10_lost 40 = .ok (.ifCond .ne 5, 3) := by decide +kernel
theorem dX10_lost_43 : decode cX10_lost 43 = .ok (.iconst (-1), 1) := by decide +kernel
theorem dX10_lost_44 : decode cX10_lost 44 = .ok (.ireturn, 1) := by decide +kernel
theorem dX10_lost_45 : decode cX10_lost 45 = .ok (.aload_n 0, 1) := by decide +kernel
theorem dX10_lost_46 : decode cX10_lost 46 = .ok (.getfield 47, 3) := by decide +kernel
theorem dX10_lost_49 : decode cX10_lost 49 = .ok (.getfield 185, 3) := by decide +kernel
theorem dX10_lost_52 : decode cX10_lost 52 = .ok (.iload_n 1, 1) := by decide +kernel
theorem dX10_lost_53 : decode cX10_lost 53 = .ok (.iload_n 2, 1) := by decide +kernel
theorem dX10_lost_54 : decode cX10_lost 54 = .ok (.iload_n 3, 1) := by decide +kernel
theorem dX10_lost_55 : decode cX10_lost 55 = .ok (.aload_n 0, 1) := by decide +kernel
theorem dX10_lost_56 : decode cX10_lost 56 = .ok (.getfield 10, 3) := by decide +kernel
theorem dX10_lost_59 : decode cX10_lost 59 = .ok (.getfield 130, 3) := by decide +kernel
theorem dX10_lost_62 : decode cX10_lost 62 = .ok (.invokevirtual 238, 3) := by decide +kernel
theorem dX10_lost_65 : decode cX10_lost 65 = .ok (.ireturn, 1) := by decide +kernel
theorem dX10_close_0 : decode cX10_close 0 = .ok (.aload_n 0, 1) := by decide +kernel
theorem dX10_close_1 : decode cX10_close 1 = .ok (.getfield 47, 3) := by decide +kernel
theorem dX10_close_4 : decode cX10_close 4 = .ok (.getfield 66, 3) := by decide +kernel
theorem dX10_close_7 : decode cX10_close 7 = .ok (.ifCond .eq 24, 3) := by decide +kernel
theorem dX10_close_10 : decode cX10_close 10 = .ok (.aload_n 0, 1) := by decide +kernel
theorem dX10_close_11 : decode cX10_close 11 = .ok (.getfield 47, 3) := by decide +kernel
theorem dX10_close_14 : decode cX10_close 14 = .ok (.getfield 78, 3) := by decide +kernel
theorem dX10_close_17 : decode cX10_close 17 = .ok (.iconst (-1), 1) := by decide +kernel
theorem dX10_close_18 : decode cX10_close 18 = .ok (.if_icmp .ne 13, 3) := by decide +kernel
theorem dX10_close_21 : decode cX10_close 21 = .ok (.aload_n 0, 1) := by decide +kernel
theorem dX10_close_22 : decode cX10_close 22 = .ok (.getfield 47, 3) := by decide +kernel
theorem dX10_close_25 : decode cX10_close 25 = .ok (.getfield 241, 3) := by decide +kernel
theorem dX10_close_28 : decode cX10_close 28 = .ok (.ifCond .ne 5, 3) := by decide +kernel
theorem dX10_close_31 : decode cX10_close 31 = .ok (.iconst (-1), 1) := by decide +kernel
theorem dX10_close_32 : decode cX10_close 32 = .ok (.ireturn, 1) := by decide +kernel
theorem dX10_close_33 : decode cX10_close 33 = .ok (.aload_n 0, 1) := by decide +kernel
theorem dX10_close_34 : decode cX10_close 34 = .ok (.getfield 54, 3) := by decide +kernel
theorem dX10_close_37 : decode cX10_close 37 = .ok (.aload_n 0, 1) := by decide +kernel
theorem dX10_close_38 : decode cX10_close 38 = .ok (.getfield 47, 3) := by decide +kernel
theorem dX10_close_41 : decode cX10_close 41 = .ok (.aload_n 0, 1) := by decide +kernel
theorem dX10_close_42 : decode cX10_close 42 = .ok (.getfield 47, 3) := by decide +kernel
theorem dX10_close_45 : decode cX10_close 45 = .ok (.getfield 214, 3) := by decide +kernel
theorem dX10_close_48 : decode cX10_close 48 = .ok (.invokevirtual 217, 3) := by decide +kernel
theorem dX10_close_51 : decode cX10_close 51 = .ok (.aload_n 0, 1) := by decide +kernel
theorem dX10_close_52 : decode cX10_close 52 = .ok (.invokevirtual 244, 3) := by decide +kernel
theorem dX10_close_55 : decode cX10_close 55 = .ok (.istore_n 1, 1) := by decide +kernel
theorem dX10_close_56 : decode cX10_close 56 = .ok (.aload_n 0, 1) := by decide +kernel
theorem dX10_close_57 : decode cX10_close 57 = .ok (.getfield 47, 3) := by decide +kernel
theorem dX10_close_60 : decode cX10_close 60 = .ok (.invokevirtual 161, 3) := by decide +kernel
theorem dX10_close_63 : decode cX10_close 63 = .ok (.aload_n 0, 1) := by decide +kernel
theorem dX10_close_64 : decode cX10_close 64 = .ok (.dup, 1) := by decide +kernel
theorem dX10_close_65 : decode cX10_close 65 = .ok (.getfield 58, 3) := by decide +kernel
theorem dX10_close_68 : decode cX10_close 68 = .ok (.iconst 1, 1) := by decide +kernel
theorem dX10_close_69 : decode cX10_close 69 = .ok (.iadd, 1) := by decide +kernel
theorem dX10_close_70 : decode cX10_close 70 = .ok (.putfield 58, 3) := by decide +kernel
theorem dX10_close_73 : decode cX10_close 73 = .ok (.iload_n 1, 1) := by decide +kernel
theorem dX10_close_74 : decode cX10_close 74 = .ok (.ireturn, 1) := by decide +kernel
theorem dX10_points_0 : decode cX10_points 0 = .ok (.iload_n 1, 1) := by decide +kernel
theorem dX10_points_1 : decode cX10_points 1 = .ok (.ifCond .ne 28, 3) := by decide +kernel
theorem dX10_points_4 : decode cX10_points 4 = .ok (.aload_n 0, 1) := by decide +kernel
theorem dX10_points_5 : decode cX10_points 5 = .ok (.getfield 26, 3) := by decide +kernel
theorem dX10_points_8 : decode cX10_points 8 = .ok (.iload_n 2, 1) := by decide +kernel
theorem dX10_points_9 : decode cX10_points 9 = .ok (.invokevirtual 247, 3) := by decide +kernel
theorem dX10_points_12 : decode cX10_points 12 = .ok (.ifCond .eq 15, 3) := by decide +kernel
theorem dX10_points_15 : decode cX10_points 15 = .ok (.aload_n 0, 1) := by decide +kernel
theorem dX10_points_16 : decode cX10_points 16 = .ok (.getfield 26, 3) := by decide +kernel
theorem dX10_points_19 : decode cX10_points 19 = .ok (.getfield 250, 3) := by decide +kernel
theorem dX10_points_22 : decode cX10_points 22 = .ok (.iload_n 2, 1) := by decide +kernel
theorem dX10_points_23 : decode cX10_points 23 = .ok (.iaload, 1) := by decide +kernel
theorem dX10_points_24 : decode cX10_points 24 = .ok (.goto 4, 3) := by decide +kernel
theorem dX10_points_27 : decode cX10_points 27 = .ok (.iconst (-1), 1) := by decide +kernel
theorem dX10_points_28 : decode cX10_points 28 = .ok (.ireturn, 1) := by decide +kernel
theorem dX10_points_29 : decode cX10_points 29 = .ok (.iload_n 1, 1) := by decide +kernel
theorem dX10_points_30 : decode cX10_points 30 = .ok (.iconst 1, 1) := by decide +kernel
theorem dX10_points_31 : decode cX10_points 31 = .ok (.if_icmp .ne 23, 3) := by decide +kernel
theorem dX10_points_34 : decode cX10_points 34 = .ok (.iload_n 2, 1) := by decide +kernel
theorem dX10_points_35 : decode cX10_points 35 = .ok (.iconst 0, 1) := by decide +kernel
theorem dX10_points_36 : decode cX10_points 36 = .ok (.iconst 3, 1) := by decide +kernel
theorem dX10_points_37 : decode cX10_points 37 = .ok (.invokestatic 62, 3) := by decide +kernel
theorem dX10_points_40 : decode cX10_points 40 = .ok (.ifCond .eq 14, 3) := by decide +kernel
theorem dX10_points_43 : decode cX10_points 43 = .ok (.aload_n 0, 1) := by decide +kernel
theorem dX10_points_44 : decode cX10_points 44 = .ok (.getfield 26, 3) := by decide +kernel
theorem dX10_points_47 : decode cX10_points 47 = .ok (.iload_n 2, 1) := by decide +kernel
theorem dX10_points_48 : decode cX10_points 48 = .ok (.invokevirtual 254, 3) := by decide +kernel
theorem dX10_points_51 : decode cX10_points 51 = .ok (.goto 4, 3) := by decide +kernel
theorem dX10_points_54 : decode cX10_points 54 = .ok (.iconst (-1), 1) := by decide +kernel
theorem dX10_points_55 : decode cX10_points 55 = .ok (.ireturn, 1) := by decide +kernel
theorem dX10_count_0 : decode cX10_count 0 = .ok (.iload_n 1, 1) := by decide +kernel
theorem dX10_count_1 : decode cX10_count 1 = .ok (.tableswitch 167 0 10 #[59, 67, 75, 83, 91, 107, 115, 123, 146, 154, 159], 59) := by decide +kernel
theorem dX10_count_60 : decode cX10_count 60 = .ok (.aload_n 0, 1) := by decide +kernel
theorem dX10_count_61 : decode cX10_count 61 = .ok (.getfield 10, 3) := by decide +kernel
theorem dX10_count_64 : decode cX10_count 64 = .ok (.getfield 113, 3) := by decide +kernel
theorem dX10_count_67 : decode cX10_count 67 = .ok (.ireturn, 1) := by decide +kernel
theorem dX10_count_68 : decode cX10_count 68 = .ok (.aload_n 0, 1) := by decide +kernel
theorem dX10_count_69 : decode cX10_count 69 = .ok (.getfield 10, 3) := by decide +kernel
theorem dX10_count_72 : decode cX10_count 72 = .ok (.getfield 130, 3) := by decide +kernel
theorem dX10_count_75 : decode cX10_count 75 = .ok (.ireturn, 1) := by decide +kernel
theorem dX10_count_76 : decode cX10_count 76 = .ok (.aload_n 0, 1) := by decide +kernel
theorem dX10_count_77 : decode cX10_count 77 = .ok (.getfield 26, 3) := by decide +kernel
theorem dX10_count_80 : decode cX10_count 80 = .ok (.getfield 136, 3) := by decide +kernel
theorem dX10_count_83 : decode cX10_count 83 = .ok (.ireturn, 1) := by decide +kernel
theorem dX10_count_84 : decode cX10_count 84 = .ok (.aload_n 0, 1) := by decide +kernel
theorem dX10_count_85 : decode cX10_count 85 = .ok (.getfield 33, 3) := by decide +kernel
theorem dX10_count_88 : decode cX10_count 88 = .ok (.getfield 143, 3) := by decide +kernel
theorem dX10_count_91 : decode cX10_count 91 = .ok (.ireturn, 1) := by decide +kernel
theorem dX10_count_92 : decode cX10_count 92 = .ok (.aload_n 0, 1) := by decide +kernel
theorem dX10_count_93 : decode cX10_count 93 = .ok (.getfield 47, 3) := by decide +kernel
theorem dX10_count_96 : decode cX10_count 96 = .ok (.getfield 66, 3) := by decide +kernel
theorem dX10_count_99 : decode cX10_count 99 = .ok (.ifCond .eq 7, 3) := by decide +kernel
theorem dX10_count_102 : decode cX10_count 102 = .ok (.iconst 1, 1) := by decide +kernel
theorem dX10_count_103 : decode cX10_count 103 = .ok (.goto 4, 3) := by decide +kernel
theorem dX10_count_106 : decode cX10_count 106 = .ok (.iconst 0, 1) := by decide +kernel
theorem dX10_count_107 : decode cX10_count 107 = .ok (.ireturn, 1) := by decide +kernel
theorem dX10_count_108 : decode cX10_count 108 = .ok (.aload_n 0, 1) := by decide +kernel
theorem dX10_count_109 : decode cX10_count 109 = .ok (.getfield 47, 3) := by decide +kernel
theorem dX10_count_112 : decode cX10_count 112 = .ok (.getfield 241, 3) := by decide +kernel
theorem dX10_count_115 : decode cX10_count 115 = .ok (.ireturn, 1) := by decide +kernel
theorem dX10_count_116 : decode cX10_count 116 = .ok (.aload_n 0, 1) := by decide +kernel
theorem dX10_count_117 : decode cX10_count 117 = .ok (.getfield 47, 3) := by decide +kernel
theorem dX10_count_120 : decode cX10_count 120 = .ok (.getfield 78, 3) := by decide +kernel
theorem dX10_count_123 : decode cX10_count 123 = .ok (.ireturn, 1) := by decide +kernel
theorem dX10_count_124 : decode cX10_count 124 = .ok (.aload_n 0, 1) := by decide +kernel
theorem dX10_count_125 : decode cX10_count 125 = .ok (.getfield 47, 3) := by decide +kernel
theorem dX10_count_128 : decode cX10_count 128 = .ok (.getfield 78, 3) := by decide +kernel
theorem dX10_count_131 : decode cX10_count 131 = .ok (.iconst (-1), 1) := by decide +kernel
theorem dX10_count_132 : decode cX10_count 132 = .ok (.if_icmp .ne 7, 3) := by decide +kernel
theorem dX10_count_135 : decode cX10_count 135 = .ok (.iconst 0, 1) := by decide +kernel
theorem dX10_count_136 : decode cX10_count 136 = .ok (.goto 10, 3) := by decide +kernel
theorem dX10_count_139 : decode cX10_count 139 = .ok (.aload_n 0, 1) := by decide +kernel
theorem dX10_count_140 : decode cX10_count 140 = .ok (.getfield 47, 3) := by decide +kernel
theorem dX10_count_143 : decode cX10_count 143 = .ok (.getfield 257, 3) := by decide +kernel
theorem dX10_count_146 : decode cX10_count 146 = .ok (.ireturn, 1) := by decide +kernel
theorem dX10_count_147 : decode cX10_count 147 = .ok (.aload_n 0, 1) := by decide +kernel
theorem dX10_count_148 : decode cX10_count 148 = .ok (.getfield 47, 3) := by decide +kernel
theorem dX10_count_151 : decode cX10_count 151 = .ok (.getfield 214, 3) := by decide +kernel
theorem dX10_count_154 : decode cX10_count 154 = .ok (.ireturn, 1) := by decide +kernel
theorem dX10_count_155 : decode cX10_count 155 = .ok (.aload_n 0, 1) := by decide +kernel
theorem dX10_count_156 : decode cX10_count 156 = .ok (.getfield 58, 3) := by decide +kernel
theorem dX10_count_159 : decode cX10_count 159 = .ok (.ireturn, 1) := by decide +kernel
theorem dX10_count_160 : decode cX10_count 160 = .ok (.aload_n 0, 1) := by decide +kernel
theorem dX10_count_161 : decode cX10_count 161 = .ok (.getfield 47, 3) := by decide +kernel
theorem dX10_count_164 : decode cX10_count 164 = .ok (.getfield 260, 3) := by decide +kernel
theorem dX10_count_167 : decode cX10_count 167 = .ok (.ireturn, 1) := by decide +kernel
theorem dX10_count_168 : decode cX10_count 168 = .ok (.iconst (-1), 1) := by decide +kernel
theorem dX10_count_169 : decode cX10_count 169 = .ok (.ireturn, 1) := by decide +kernel
theorem dX10_within_0 : decode cX10_within 0 = .ok (.iload_n 0, 1) := by decide +kernel
theorem dX10_within_1 : decode cX10_within 1 = .ok (.iload_n 1, 1) := by decide +kernel
theorem dX10_within_2 : decode cX10_within 2 = .ok (.if_icmp .lt 12, 3) := by decide +kernel
theorem dX10_within_5 : decode cX10_within 5 = .ok (.iload_n 0, 1) := by decide +kernel
theorem dX10_within_6 : decode cX10_within 6 = .ok (.iload_n 2, 1) := by decide +kernel
theorem dX10_within_7 : decode cX10_within 7 = .ok (.if_icmp .gt 7, 3) := by decide +kernel
theorem dX10_within_10 : decode cX10_within 10 = .ok (.iconst 1, 1) := by decide +kernel
theorem dX10_within_11 : decode cX10_within 11 = .ok (.goto 4, 3) := by decide +kernel
theorem dX10_within_14 : decode cX10_within 14 = .ok (.iconst 0, 1) := by decide +kernel
theorem dX10_within_15 : decode cX10_within 15 = .ok (.ireturn, 1) := by decide +kernel
theorem dX10_isShown_0 : decode cX10_isShown 0 = .ok (.aload_n 0, 1) := by decide +kernel
theorem dX10_isShown_1 : decode cX10_isShown 1 = .ok (.getfield 47, 3) := by decide +kernel
theorem dX10_isShown_4 : decode cX10_isShown 4 = .ok (.iload_n 1, 1) := by decide +kernel
theorem dX10_isShown_5 : decode cX10_isShown 5 = .ok (.invokevirtual 227, 3) := by decide +kernel
theorem dX10_isShown_8 : decode cX10_isShown 8 = .ok (.ifCond .ne 19, 3) := by decide +kernel
theorem dX10_isShown_11 : decode cX10_isShown 11 = .ok (.iload_n 1, 1) := by decide +kernel
theorem dX10_isShown_12 : decode cX10_isShown 12 = .ok (.iconst (-1), 1) := by decide +kernel
theorem dX10_isShown_13 : decode cX10_isShown 13 = .ok (.if_icmp .eq 18, 3) := by decide +kernel
theorem dX10_isShown_16 : decode cX10_isShown 16 = .ok (.iload_n 1, 1) := by decide +kernel
theorem dX10_isShown_17 : decode cX10_isShown 17 = .ok (.aload_n 0, 1) := by decide +kernel
theorem dX10_isShown_18 : decode cX10_isShown 18 = .ok (.getfield 47, 3) := by decide +kernel
theorem dX10_isShown_21 : decode cX10_isShown 21 = .ok (.getfield 78, 3) := by decide +kernel
theorem dX10_isShown_24 : decode cX10_isShown 24 = .ok (.if_icmp .ne 7, 3) := by decide +kernel
theorem dX10_isShown_27 : decode cX10_isShown 27 = .ok (.iconst 1, 1) := by decide +kernel
theorem dX10_isShown_28 : decode cX10_isShown 28 = .ok (.goto 4, 3) := by decide +kernel
theorem dX10_isShown_31 : decode cX10_isShown 31 = .ok (.iconst 0, 1) := by decide +kernel
theorem dX10_isShown_32 : decode cX10_isShown 32 = .ok (.istore 4, 2) := by decide +kernel
theorem dX10_isShown_34 : decode cX10_isShown 34 = .ok (.iload 4, 2) := by decide +kernel
theorem dX10_isShown_36 : decode cX10_isShown 36 = .ok (.ifCond .eq 39, 3) := by decide +kernel
theorem dX10_isShown_39 : decode cX10_isShown 39 = .ok (.aload_n 0, 1) := by decide +kernel
theorem dX10_isShown_40 : decode cX10_isShown 40 = .ok (.getfield 47, 3) := by decide +kernel
theorem dX10_isShown_43 : decode cX10_isShown 43 = .ok (.getfield 185, 3) := by decide +kernel
theorem dX10_isShown_46 : decode cX10_isShown 46 = .ok (.iload_n 1, 1) := by decide +kernel
theorem dX10_isShown_47 : decode cX10_isShown 47 = .ok (.iload_n 2, 1) := by decide +kernel
theorem dX10_isShown_48 : decode cX10_isShown 48 = .ok (.invokevirtual 230, 3) := by decide +kernel
theorem dX10_isShown_51 : decode cX10_isShown 51 = .ok (.ifCond .eq 24, 3) := by decide +kernel
theorem dX10_isShown_54 : decode cX10_isShown 54 = .ok (.iload_n 3, 1) := by decide +kernel
theorem dX10_isShown_55 : decode cX10_isShown 55 = .ok (.iconst 0, 1) := by decide +kernel
theorem dX10_isShown_56 : decode cX10_isShown 56 = .ok (.aload_n 0, 1) := by decide +kernel
theorem dX10_isShown_57 : decode cX10_isShown 57 = .ok (.getfield 10, 3) := by decide +kernel
theorem dX10_isShown_60 : decode cX10_isShown 60 = .ok (.getfield 130, 3) := by decide +kernel
theorem dX10_isShown_63 : decode cX10_isShown 63 = .ok (.iconst 1, 1) := by decide +kernel
theorem dX10_isShown_64 : decode cX10_isShown 64 = .ok (.isub, 1) := by decide +kernel
theorem dX10_isShown_65 : decode cX10_isShown 65 = .ok (.invokestatic 62, 3) := by decide +kernel
theorem dX10_isShown_68 : decode cX10_isShown 68 = .ok (.ifCond .eq 7, 3) := by decide +kernel
theorem dX10_isShown_71 : decode cX10_isShown 71 = .ok (.iconst 1, 1) := by decide +kernel
theorem dX10_isShown_72 : decode cX10_isShown 72 = .ok (.goto 4, 3) := by decide +kernel
theorem dX10_isShown_75 : decode cX10_isShown 75 = .ok (.iconst 0, 1) := by decide +kernel
theorem dX10_isShown_76 : decode cX10_isShown 76 = .ok (.ireturn, 1) := by decide +kernel
theorem dX10_timeInCell_0 : decode cX10_timeInCell 0 = .ok (.aload_n 0, 1) := by decide +kernel
theorem dX10_timeInCell_1 : decode cX10_timeInCell 1 = .ok (.getfield 19, 3) := by decide +kernel
theorem dX10_timeInCell_4 : decode cX10_timeInCell 4 = .ok (.iload_n 3, 1) := by decide +kernel
theorem dX10_timeInCell_5 : decode cX10_timeInCell 5 = .ok (.aload_n 0, 1) := by decide +kernel
theorem dX10_timeInCell_6 : decode cX10_timeInCell 6 = .ok (.getfield 10, 3) := by decide +kernel
theorem dX10_timeInCell_9 : decode cX10_timeInCell 9 = .ok (.getfield 263, 3) := by decide +kernel
theorem dX10_timeInCell_12 : decode cX10_timeInCell 12 = .ok (.iload_n 1, 1) := by decide +kernel
theorem dX10_timeInCell_13 : decode cX10_timeInCell 13 = .ok (.iaload, 1) := by decide +kernel
theorem dX10_timeInCell_14 : decode cX10_timeInCell 14 = .ok (.invokevirtual 109, 3) := by decide +kernel
theorem dX10_timeInCell_17 : decode cX10_timeInCell 17 = .ok (.istore 5, 2) := by decide +kernel
theorem dX10_timeInCell_19 : decode cX10_timeInCell 19 = .ok (.aload_n 0, 1) := by decide +kernel
theorem dX10_timeInCell_20 : decode cX10_timeInCell 20 = .ok (.getfield 10, 3) := by decide +kernel
theorem dX10_timeInCell_23 : decode cX10_timeInCell 23 = .ok (.iload_n 1, 1) := by decide +kernel
theorem dX10_timeInCell_24 : decode cX10_timeInCell 24 = .ok (.iload_n 2, 1) := by decide +kernel
theorem dX10_timeInCell_25 : decode cX10_timeInCell 25 = .ok (.iload 4, 2) := by decide +kernel
theorem dX10_timeInCell_27 : decode cX10_timeInCell 27 = .ok (.iload 5, 2) := by decide +kernel
theorem dX10_timeInCell_29 : decode cX10_timeInCell 29 = .ok (.invokevirtual 266, 3) := by decide +kernel
theorem dX10_timeInCell_32 : decode cX10_timeInCell 32 = .ok (.ireturn, 1) := by decide +kernel
theorem dX10_standardNow_0 : decode cX10_standardNow 0 = .ok (.iconst 0, 1) := by decide +kernel
theorem dX10_standardNow_1 : decode cX10_standardNow 1 = .ok (.istore_n 1, 1) := by decide +kernel
theorem dX10_standardNow_2 : decode cX10_standardNow 2 = .ok (.iconst 0, 1) := by decide +kernel
theorem dX10_standardNow_3 : decode cX10_standardNow 3 = .ok (.istore_n 2, 1) := by decide +kernel
theorem dX10_standardNow_4 : decode cX10_standardNow 4 = .ok (.iload_n 2, 1) := by decide +kernel
theorem dX10_standardNow_5 : decode cX10_standardNow 5 = .ok (.aload_n 0, 1) := by decide +kernel
theorem dX10_standardNow_6 : decode cX10_standardNow 6 = .ok (.getfield 10, 3) := by decide +kernel
theorem dX10_standardNow_9 : decode cX10_standardNow 9 = .ok (.getfield 113, 3) := by decide +kernel
theorem dX10_standardNow_12 : decode cX10_standardNow 12 = .ok (.if_icmp .ge 21, 3) := by decide +kernel
theorem dX10_standardNow_15 : decode cX10_standardNow 15 = .ok (.iload_n 1, 1) := by decide +kernel
theorem dX10_standardNow_16 : decode cX10_standardNow 16 = .ok (.aload_n 0, 1) := by decide +kernel
theorem dX10_standardNow_17 : decode cX10_standardNow 17 = .ok (.iload_n 2, 1) := by decide +kernel
theorem dX10_standardNow_18 : decode cX10_standardNow 18 = .ok (.bipush 100, 2) := by decide +kernel
theorem dX10_standardNow_20 : decode cX10_standardNow 20 = .ok (.iconst 0, 1) := by decide +kernel
theorem dX10_standardNow_21 : decode cX10_standardNow 21 = .ok (.iconst 5, 1) := by decide +kernel
theorem dX10_standardNow_22 : decode cX10_standardNow 22 = .ok (.invokevirtual 269, 3) := by decide +kernel
theorem dX10_standardNow_25 : decode cX10_standardNow 25 = .ok (.iadd, 1) := by decide +kernel
theorem dX10_standardNow_26 : decode cX10_standardNow 26 = .ok (.istore_n 1, 1) := by decide +kernel
theorem dX10_standardNow_27 : decode cX10_standardNow 27 = .ok (.iinc 2 1, 3) := by decide +kernel
theorem dX10_standardNow_30 : decode cX10_standardNow 30 = .ok (.goto (-26), 3) := by decide +kernel
theorem dX10_standardNow_33 : decode cX10_standardNow 33 = .ok (.iload_n 1, 1) := by decide +kernel
theorem dX10_standardNow_34 : decode cX10_standardNow 34 = .ok (.ireturn, 1) := by decide +kernel
theorem dX10_beginFirst_0 : decode cX10_beginFirst 0 = .ok (.aload_n 0, 1) := by decide +kernel
theorem dX10_beginFirst_1 : decode cX10_beginFirst 1 = .ok (.getfield 26, 3) := by decide +kernel
theorem dX10_beginFirst_4 : decode cX10_beginFirst 4 = .ok (.aload_n 0, 1) := by decide +kernel
theorem dX10_beginFirst_5 : decode cX10_beginFirst 5 = .ok (.getfield 40, 3) := by decide +kernel
theorem dX10_beginFirst_8 : decode cX10_beginFirst 8 = .ok (.iconst 0, 1) := by decide +kernel
theorem dX10_beginFirst_9 : decode cX10_beginFirst 9 = .ok (.invokevirtual 157, 3) := by decide +kernel
theorem dX10_beginFirst_12 : decode cX10_beginFirst 12 = .ok (.aload_n 0, 1) := by decide +kernel
theorem dX10_beginFirst_13 : decode cX10_beginFirst 13 = .ok (.getfield 47, 3) := by decide +kernel
theorem dX10_beginFirst_16 : decode cX10_beginFirst 16 = .ok (.getfield 272, 3) := by decide +kernel
theorem dX10_beginFirst_19 : decode cX10_beginFirst 19 = .ok (.invokevirtual 275, 3) := by decide +kernel
theorem dX10_beginFirst_22 : decode cX10_beginFirst 22 = .ok (.istore_n 2, 1) := by decide +kernel
theorem dX10_beginFirst_23 : decode cX10_beginFirst 23 = .ok (.iload_n 2, 1) := by decide +kernel
theorem dX10_beginFirst_24 : decode cX10_beginFirst 24 = .ok (.ifCond .ne 5, 3) := by decide +kernel
theorem dX10_beginFirst_27 : decode cX10_beginFirst 27 = .ok (.iconst (-1), 1) := by decide +kernel
theorem dX10_beginFirst_28 : decode cX10_beginFirst 28 = .ok (.ireturn, 1) := by decide +kernel
theorem dX10_beginFirst_29 : decode cX10_beginFirst 29 = .ok (.aload_n 0, 1) := by decide +kernel
theorem dX10_beginFirst_30 : decode cX10_beginFirst 30 = .ok (.getfield 47, 3) := by decide +kernel
theorem dX10_beginFirst_33 : decode cX10_beginFirst 33 = .ok (.iload_n 2, 1) := by decide +kernel
theorem dX10_beginFirst_34 : decode cX10_beginFirst 34 = .ok (.invokevirtual 279, 3) := by decide +kernel
theorem dX10_beginFirst_37 : decode cX10_beginFirst 37 = .ok (.aload_n 0, 1) := by decide +kernel
theorem dX10_beginFirst_38 : decode cX10_beginFirst 38 = .ok (.getfield 47, 3) := by decide +kernel
theorem dX10_beginFirst_41 : decode cX10_beginFirst 41 = .ok (.iload_n 1, 1) := by decide +kernel
theorem dX10_beginFirst_42 : decode cX10_beginFirst 42 = .ok (.iload_n 2, 1) := by decide +kernel
theorem dX10_beginFirst_43 : decode cX10_beginFirst 43 = .ok (.invokevirtual 282, 3) := by decide +kernel
theorem dX10_beginFirst_46 : decode cX10_beginFirst 46 = .ok (.aload_n 0, 1) := by decide +kernel
theorem dX10_beginFirst_47 : decode cX10_beginFirst 47 = .ok (.getfield 47, 3) := by decide +kernel
theorem dX10_beginFirst_50 : decode cX10_beginFirst 50 = .ok (.invokevirtual 285, 3) := by decide +kernel
theorem dX10_beginFirst_53 : decode cX10_beginFirst 53 = .ok (.ireturn, 1) := by decide +kernel
theorem dX10_beginLater_0 : decode cX10_beginLater 0 = .ok (.aload_n 0, 1) := by decide +kernel
theorem dX10_beginLater_1 : decode cX10_beginLater 1 = .ok (.getfield 54, 3) := by decide +kernel
theorem dX10_beginLater_4 : decode cX10_beginLater 4 = .ok (.aload_n 0, 1) := by decide +kernel
theorem dX10_beginLater_5 : decode cX10_beginLater 5 = .ok (.getfield 47, 3) := by decide +kernel
theorem dX10_beginLater_8 : decode cX10_beginLater 8 = .ok (.aload_n 0, 1) := by decide +kernel
theorem dX10_beginLater_9 : decode cX10_beginLater 9 = .ok (.getfield 47, 3) := by decide +kernel
theorem dX10_beginLater_12 : decode cX10_beginLater 12 = .ok (.getfield 214, 3) := by decide +kernel
theorem dX10_beginLater_15 : decode cX10_beginLater 15 = .ok (.invokevirtual 217, 3) := by decide +kernel
theorem dX10_beginLater_18 : decode cX10_beginLater 18 = .ok (.aload_n 0, 1) := by decide +kernel
theorem dX10_beginLater_19 : decode cX10_beginLater 19 = .ok (.getfield 54, 3) := by decide +kernel
theorem dX10_beginLater_22 : decode cX10_beginLater 22 = .ok (.aload_n 0, 1) := by decide +kernel
theorem dX10_beginLater_23 : decode cX10_beginLater 23 = .ok (.getfield 47, 3) := by decide +kernel
theorem dX10_beginLater_26 : decode cX10_beginLater 26 = .ok (.getfield 272, 3) := by decide +kernel
theorem dX10_beginLater_29 : decode cX10_beginLater 29 = .ok (.invokevirtual 288, 3) := by decide +kernel
theorem dX10_beginLater_32 : decode cX10_beginLater 32 = .ok (.istore_n 1, 1) := by decide +kernel
theorem dX10_beginLater_33 : decode cX10_beginLater 33 = .ok (.iload_n 1, 1) := by decide +kernel
theorem dX10_beginLater_34 : decode cX10_beginLater 34 = .ok (.ifCond .ne 5, 3) := by decide +kernel
theorem dX10_beginLater_37 : decode cX10_beginLater 37 = .ok (.iconst (-1), 1) := by decide +kernel
theorem dX10_beginLater_38 : decode cX10_beginLater 38 = .ok (.ireturn, 1) := by decide +kernel
theorem dX10_beginLater_39 : decode cX10_beginLater 39 = .ok (.aload_n 0, 1) := by decide +kernel
theorem dX10_beginLater_40 : decode cX10_beginLater 40 = .ok (.getfield 47, 3) := by decide +kernel
theorem dX10_beginLater_43 : decode cX10_beginLater 43 = .ok (.iload_n 1, 1) := by decide +kernel
theorem dX10_beginLater_44 : decode cX10_beginLater 44 = .ok (.aload_n 0, 1) := by decide +kernel
theorem dX10_beginLater_45 : decode cX10_beginLater 45 = .ok (.getfield 40, 3) := by decide +kernel
theorem dX10_beginLater_48 : decode cX10_beginLater 48 = .ok (.iconst 3, 1) := by decide +kernel
theorem dX10_beginLater_49 : decode cX10_beginLater 49 = .ok (.invokevirtual 157, 3) := by decide +kernel
theorem dX10_beginLater_52 : decode cX10_beginLater 52 = .ok (.invokestatic 292, 3) := by decide +kernel
theorem dX10_beginLater_55 : decode cX10_beginLater 55 = .ok (.aload_n 0, 1) := by decide +kernel
theorem dX10_beginLater_56 : decode cX10_beginLater 56 = .ok (.getfield 40, 3) := by decide +kernel
theorem dX10_beginLater_59 : decode cX10_beginLater 59 = .ok (.iconst 2, 1) := by decide +kernel
theorem dX10_beginLater_60 : decode cX10_beginLater 60 = .ok (.invokevirtual 157, 3) := by decide +kernel
theorem dX10_beginLater_63 : decode cX10_beginLater 63 = .ok (.invokevirtual 297, 3) := by decide +kernel
theorem dX10_beginLater_66 : decode cX10_beginLater 66 = .ok (.aload_n 0, 1) := by decide +kernel
theorem dX10_beginLater_67 : decode cX10_beginLater 67 = .ok (.getfield 47, 3) := by decide +kernel
theorem dX10_beginLater_70 : decode cX10_beginLater 70 = .ok (.invokevirtual 285, 3) := by decide +kernel
theorem dX10_beginLater_73 : decode cX10_beginLater 73 = .ok (.ireturn, 1) := by decide +kernel
theorem dX10_comeDown_0 : decode cX10_comeDown 0 = .ok (.aload_n 0, 1) := by decide +kernel
theorem dX10_comeDown_1 : decode cX10_comeDown 1 = .ok (.getfield 47, 3) := by decide +kernel
theorem dX10_comeDown_4 : decode cX10_comeDown 4 = .ok (.getfield 185, 3) := by decide +kernel
theorem dX10_comeDown_7 : decode cX10_comeDown 7 = .ok (.iload_n 1, 1) := by decide +kernel
theorem dX10_comeDown_8 : decode cX10_comeDown 8 = .ok (.iload_n 2, 1) := by decide +kernel
theorem dX10_comeDown_9 : decode cX10_comeDown 9 = .ok (.aload_n 0, 1) := by decide +kernel
theorem dX10_comeDown_10 : decode cX10_comeDown 10 = .ok (.invokevirtual 126, 3) := by decide +kernel
theorem dX10_comeDown_13 : decode cX10_comeDown 13 = .ok (.invokevirtual 300, 3) := by decide +kernel
theorem dX10_comeDown_16 : decode cX10_comeDown 16 = .ok (.iconst 0, 1) := by decide +kernel
theorem dX10_comeDown_17 : decode cX10_comeDown 17 = .ok (.istore_n 3, 1) := by decide +kernel
theorem dX10_comeDown_18 : decode cX10_comeDown 18 = .ok (.iconst 1, 1) := by decide +kernel
theorem dX10_comeDown_19 : decode cX10_comeDown 19 = .ok (.istore 4, 2) := by decide +kernel
theorem dX10_comeDown_21 : decode cX10_comeDown 21 = .ok (.iload 4, 2) := by decide +kernel
theorem dX10_comeDown_23 : decode cX10_comeDown 23 = .ok (.aload_n 0, 1) := by decide +kernel
theorem dX10_comeDown_24 : decode cX10_comeDown 24 = .ok (.getfield 10, 3) := by decide +kernel
theorem dX10_comeDown_27 : decode cX10_comeDown 27 = .ok (.getfield 130, 3) := by decide +kernel
theorem dX10_comeDown_30 : decode cX10_comeDown 30 = .ok (.if_icmp .ge 72, 3) := by decide +kernel
theorem dX10_comeDown_33 : decode cX10_comeDown 33 = .ok (.iload_n 3, 1) := by decide +kernel
theorem dX10_comeDown_34 : decode cX10_comeDown 34 = .ok (.aload_n 0, 1) := by decide +kernel
theorem dX10_comeDown_35 : decode cX10_comeDown 35 = .ok (.iload_n 2, 1) := by decide +kernel
theorem dX10_comeDown_36 : decode cX10_comeDown 36 = .ok (.aload_n 0, 1) := by decide +kernel
theorem dX10_comeDown_37 : decode cX10_comeDown 37 = .ok (.getfield 10, 3) := by decide +kernel
theorem dX10_comeDown_40 : decode cX10_comeDown 40 = .ok (.getfield 303, 3) := by decide +kernel
theorem dX10_comeDown_43 : decode cX10_comeDown 43 = .ok (.iload 4, 2) := by decide +kernel
theorem dX10_comeDown_45 : decode cX10_comeDown 45 = .ok (.iconst 1, 1) := by decide +kernel
theorem dX10_comeDown_46 : decode cX10_comeDown 46 = .ok (.isub, 1) := by decide +kernel
theorem dX10_comeDown_47 : decode cX10_comeDown 47 = .ok (.iaload, 1) := by decide +kernel
theorem dX10_comeDown_48 : decode cX10_comeDown 48 = .ok (.aload_n 0, 1) := by decide +kernel
theorem dX10_comeDown_49 : decode cX10_comeDown 49 = .ok (.getfield 10, 3) := by decide +kernel
theorem dX10_comeDown_52 : decode cX10_comeDown 52 = .ok (.getfield 303, 3) := by decide +kernel
theorem dX10_comeDown_55 : decode cX10_comeDown 55 = .ok (.iload 4, 2) := by decide +kernel
theorem dX10_comeDown_57 : decode cX10_comeDown 57 = .ok (.iaload, 1) := by decide +kernel
theorem dX10_comeDown_58 : decode cX10_comeDown 58 = .ok (.invokevirtual 306, 3) := by decide +kernel
theorem dX10_comeDown_61 : decode cX10_comeDown 61 = .ok (.iadd, 1) := by decide +kernel
theorem dX10_comeDown_62 : decode cX10_comeDown 62 = .ok (.istore_n 3, 1) := by decide +kernel
theorem dX10_comeDown_63 : decode cX10_comeDown 63 = .ok (.aload_n 0, 1) := by decide +kernel
theorem dX10_comeDown_64 : decode cX10_comeDown 64 = .ok (.getfield 47, 3) := by decide +kernel
theorem dX10_comeDown_67 : decode cX10_comeDown 67 = .ok (.getfield 185, 3) := by decide +kernel
theorem dX10_comeDown_70 : decode cX10_comeDown 70 = .ok (.iload_n 1, 1) := by decide +kernel
theorem dX10_comeDown_71 : decode cX10_comeDown 71 = .ok (.iload_n 2, 1) := by decide +kernel
theorem dX10_comeDown_72 : decode cX10_comeDown 72 = .ok (.iload 4, 2) := by decide +kernel
theorem dX10_comeDown_74 : decode cX10_comeDown 74 = .ok (.aload_n 0, 1) := by decide +kernel
theorem dX10_comeDown_75 : decode cX10_comeDown 75 = .ok (.getfield 10, 3) := by decide +kernel
theorem dX10_comeDown_78 : decode cX10_comeDown 78 = .ok (.iload 4, 2) := by decide +kernel
theorem dX10_comeDown_80 : decode cX10_comeDown 80 = .ok (.iload_n 3, 1) := by decide +kernel
theorem dX10_comeDown_81 : decode cX10_comeDown 81 = .ok (.invokevirtual 309, 3) := by decide +kernel
theorem dX10_comeDown_84 : decode cX10_comeDown 84 = .ok (.aload_n 0, 1) := by decide +kernel
theorem dX10_comeDown_85 : decode cX10_comeDown 85 = .ok (.getfield 10, 3) := by decide +kernel
theorem dX10_comeDown_88 : decode cX10_comeDown 88 = .ok (.iload 4, 2) := by decide +kernel
theorem dX10_comeDown_90 : decode cX10_comeDown 90 = .ok (.invokevirtual 312, 3) := by decide +kernel
theorem dX10_comeDown_93 : decode cX10_comeDown 93 = .ok (.invokevirtual 315, 3) := by decide +kernel
theorem dX10_comeDown_96 : decode cX10_comeDown 96 = .ok (.iinc 4 1, 3) := by decide +kernel
theorem dX10_comeDown_99 : decode cX10_comeDown 99 = .ok (.goto (-78), 3) := by decide +kernel
theorem dX10_comeDown_102 : decode cX10_comeDown 102 = .ok (.aload_n 0, 1) := by decide +kernel
theorem dX10_comeDown_103 : decode cX10_comeDown 103 = .ok (.getfield 47, 3) := by decide +kernel
theorem dX10_comeDown_106 : decode cX10_comeDown 106 = .ok (.getfield 185, 3) := by decide +kernel
theorem dX10_comeDown_109 : decode cX10_comeDown 109 = .ok (.iload_n 1, 1) := by decide +kernel
theorem dX10_comeDown_110 : decode cX10_comeDown 110 = .ok (.iload_n 2, 1) := by decide +kernel
theorem dX10_comeDown_111 : decode cX10_comeDown 111 = .ok (.aload_n 0, 1) := by decide +kernel
theorem dX10_comeDown_112 : decode cX10_comeDown 112 = .ok (.getfield 10, 3) := by decide +kernel
theorem dX10_comeDown_115 : decode cX10_comeDown 115 = .ok (.getfield 130, 3) := by decide +kernel
theorem dX10_comeDown_118 : decode cX10_comeDown 118 = .ok (.invokevirtual 318, 3) := by decide +kernel
theorem dX10_comeDown_121 : decode cX10_comeDown 121 = .ok (.return_, 1) := by decide +kernel
theorem dX10_ride_0 : decode cX10_ride 0 = .ok (.iconst 0, 1) := by decide +kernel
theorem dX10_ride_1 : decode cX10_ride 1 = .ok (.istore 4, 2) := by decide +kernel
theorem dX10_ride_3 : decode cX10_ride 3 = .ok (.iload_n 2, 1) := by decide +kernel
theorem dX10_ride_4 : decode cX10_ride 4 = .ok (.istore 5, 2) := by decide +kernel
theorem dX10_ride_6 : decode cX10_ride 6 = .ok (.iload 5, 2) := by decide +kernel
theorem dX10_ride_8 : decode cX10_ride 8 = .ok (.iload_n 3, 1) := by decide +kernel
theorem dX10_ride_9 : decode cX10_ride 9 = .ok (.if_icmp .ge 65, 3) := by decide +kernel
theorem dX10_ride_12 : decode cX10_ride 12 = .ok (.iload 4, 2) := by decide +kernel
theorem dX10_ride_14 : decode cX10_ride 14 = .ok (.aload_n 0, 1) := by decide +kernel
theorem dX10_ride_15 : decode cX10_ride 15 = .ok (.iload 5, 2) := by decide +kernel
theorem dX10_ride_17 : decode cX10_ride 17 = .ok (.aload_n 0, 1) := by decide +kernel
theorem dX10_ride_18 : decode cX10_ride 18 = .ok (.getfield 26, 3) := by decide +kernel
theorem dX10_ride_21 : decode cX10_ride 21 = .ok (.getfield 321, 3) := by decide +kernel
theorem dX10_ride_24 : decode cX10_ride 24 = .ok (.iload_n 1, 1) := by decide +kernel
theorem dX10_ride_25 : decode cX10_ride 25 = .ok (.iaload, 1) := by decide +kernel
theorem dX10_ride_26 : decode cX10_ride 26 = .ok (.aload_n 0, 1) := by decide +kernel
theorem dX10_ride_27 : decode cX10_ride 27 = .ok (.getfield 26, 3) := by decide +kernel
theorem dX10_ride_30 : decode cX10_ride 30 = .ok (.getfield 324, 3) := by decide +kernel
theorem dX10_ride_33 : decode cX10_ride 33 = .ok (.iload_n 1, 1) := by decide +kernel
theorem dX10_ride_34 : decode cX10_ride 34 = .ok (.iaload, 1) := by decide +kernel
theorem dX10_ride_35 : decode cX10_ride 35 = .ok (.aload_n 0, 1) := by decide +kernel
theorem dX10_ride_36 : decode cX10_ride 36 = .ok (.getfield 26, 3) := by decide +kernel
theorem dX10_ride_39 : decode cX10_ride 39 = .ok (.getfield 327, 3) := by decide +kernel
theorem dX10_ride_42 : decode cX10_ride 42 = .ok (.iload_n 1, 1) := by decide +kernel
theorem dX10_ride_43 : decode cX10_ride 43 = .ok (.iaload, 1) := by decide +kernel
theorem dX10_ride_44 : decode cX10_ride 44 = .ok (.invokevirtual 269, 3) := by decide +kernel
theorem dX10_ride_47 : decode cX10_ride 47 = .ok (.iadd, 1) := by decide +kernel
theorem dX10_ride_48 : decode cX10_ride 48 = .ok (.istore 4, 2) := by decide +kernel
theorem dX10_ride_50 : decode cX10_ride 50 = .ok (.aload_n 0, 1) := by decide +kernel
theorem dX10_ride_51 : decode cX10_ride 51 = .ok (.getfield 10, 3) := by decide +kernel
theorem dX10_ride_54 : decode cX10_ride 54 = .ok (.iload 5, 2) := by decide +kernel
theorem dX10_ride_56 : decode cX10_ride 56 = .ok (.aload_n 0, 1) := by decide +kernel
theorem dX10_ride_57 : decode cX10_ride 57 = .ok (.getfield 26, 3) := by decide +kernel
theorem dX10_ride_60 : decode cX10_ride 60 = .ok (.getfield 321, 3) := by decide +kernel
theorem dX10_ride_63 : decode cX10_ride 63 = .ok (.iload_n 1, 1) := by decide +kernel
theorem dX10_ride_64 : decode cX10_ride 64 = .ok (.iaload, 1) := by decide +kernel
theorem dX10_ride_65 : decode cX10_ride 65 = .ok (.invokevirtual 330, 3) := by decide +kernel
theorem dX10_ride_68 : decode cX10_ride 68 = .ok (.iinc 5 1, 3) := by decide +kernel
theorem dX10_ride_71 : decode cX10_ride 71 = .ok (.goto (-65), 3) := by decide +kernel
theorem dX10_ride_74 : decode cX10_ride 74 = .ok (.iload 4, 2) := by decide +kernel
theorem dX10_ride_76 : decode cX10_ride 76 = .ok (.ireturn, 1) := by decide +kernel
theorem dX10_givePoints_0 : decode cX10_givePoints 0 = .ok (.aload_n 0, 1) := by decide +kernel
theorem dX10_givePoints_1 : decode cX10_givePoints 1 = .ok (.getfield 40, 3) := by decide +kernel
theorem dX10_givePoints_4 : decode cX10_givePoints 4 = .ok (.iconst 5, 1) := by decide +kernel
theorem dX10_givePoints_5 : decode cX10_givePoints 5 = .ok (.invokevirtual 157, 3) := by decide +kernel
theorem dX10_givePoints_8 : decode cX10_givePoints 8 = .ok (.iconst 1, 1) := by decide +kernel
theorem dX10_givePoints_9 : decode cX10_givePoints 9 = .ok (.if_icmp .ne 7, 3) := by decide +kernel
theorem dX10_givePoints_12 : decode cX10_givePoints 12 = .ok (.iconst 1, 1) := by decide +kernel
theorem dX10_givePoints_13 : decode cX10_givePoints 13 = .ok (.goto 4, 3) := by decide +kernel
theorem dX10_givePoints_16 : decode cX10_givePoints 16 = .ok (.iconst 0, 1) := by decide +kernel
theorem dX10_givePoints_17 : decode cX10_givePoints 17 = .ok (.istore_n 1, 1) := by decide +kernel
theorem dX10_givePoints_18 : decode cX10_givePoints 18 = .ok (.iconst 0, 1) := by decide +kernel
theorem dX10_givePoints_19 : decode cX10_givePoints 19 = .ok (.istore_n 2, 1) := by decide +kernel
theorem dX10_givePoints_20 : decode cX10_givePoints 20 = .ok (.iconst 0, 1) := by decide +kernel
theorem dX10_givePoints_21 : decode cX10_givePoints 21 = .ok (.istore_n 3, 1) := by decide +kernel
theorem dX10_givePoints_22 : decode cX10_givePoints 22 = .ok (.iload_n 3, 1) := by decide +kernel
theorem dX10_givePoints_23 : decode cX10_givePoints 23 = .ok (.aload_n 0, 1) := by decide +kernel
theorem dX10_givePoints_24 : decode cX10_givePoints 24 = .ok (.getfield 26, 3) := by decide +kernel
theorem dX10_givePoints_27 : decode cX10_givePoints 27 = .ok (.getfield 136, 3) := by decide +kernel
theorem dX10_givePoints_30 : decode cX10_givePoints 30 = .ok (.if_icmp .ge 71, 3) := by decide +kernel
theorem dX10_givePoints_33 : decode cX10_givePoints 33 = .ok (.aload_n 0, 1) := by decide +kernel
theorem dX10_givePoints_34 : decode cX10_givePoints 34 = .ok (.getfield 54, 3) := by decide +kernel
theorem dX10_givePoints_37 : decode cX10_givePoints 37 = .ok (.iload_n 3, 1) := by decide +kernel
theorem dX10_givePoints_38 : decode cX10_givePoints 38 = .ok (.invokevirtual 333, 3) := by decide +kernel
theorem dX10_givePoints_41 : decode cX10_givePoints 41 = .ok (.ifCond .eq 54, 3) := by decide +kernel
theorem dX10_givePoints_44 : decode cX10_givePoints 44 = .ok (.aload_n 0, 1) := by decide +kernel
theorem dX10_givePoints_45 : decode cX10_givePoints 45 = .ok (.getfield 54, 3) := by decide +kernel
theorem dX10_givePoints_48 : decode cX10_givePoints 48 = .ok (.iload_n 3, 1) := by decide +kernel
theorem dX10_givePoints_49 : decode cX10_givePoints 49 = .ok (.invokevirtual 224, 3) := by decide +kernel
theorem dX10_givePoints_52 : decode cX10_givePoints 52 = .ok (.istore 4, 2) := by decide +kernel
theorem dX10_givePoints_54 : decode cX10_givePoints 54 = .ok (.aload_n 0, 1) := by decide +kernel
theorem dX10_givePoints_55 : decode cX10_givePoints 55 = .ok (.getfield 26, 3) := by decide +kernel
theorem dX10_givePoints_58 : decode cX10_givePoints 58 = .ok (.getfield 250, 3) := by decide +kernel
theorem dX10_givePoints_61 : decode cX10_givePoints 61 = .ok (.iload_n 3, 1) := by decide +kernel
theorem dX10_givePoints_62 : decode cX10_givePoints 62 = .ok (.dup2, 1) := by decide +kernel
theorem dX10_givePoints_63 : decode cX10_givePoints 63 = .ok (.iaload, 1) := by decide +kernel
theorem dX10_givePoints_64 : decode cX10_givePoints 64 = .ok (.iload_n 1, 1) := by decide +kernel
theorem dX10_givePoints_65 : decode cX10_givePoints 65 = .ok (.ifCond .eq 20, 3) := by decide +kernel
theorem dX10_givePoints_68 : decode cX10_givePoints 68 = .ok (.iload 4, 2) := by decide +kernel
theorem dX10_givePoints_70 : decode cX10_givePoints 70 = .ok (.aload_n 0, 1) := by decide +kernel
theorem dX10_givePoints_71 : decode cX10_givePoints 71 = .ok (.getfield 54, 3) := by decide +kernel
theorem dX10_givePoints_74 : decode cX10_givePoints 74 = .ok (.iload 4, 2) := by decide +kernel
theorem dX10_givePoints_76 : decode cX10_givePoints 76 = .ok (.invokevirtual 336, 3) := by decide +kernel
theorem dX10_givePoints_79 : decode cX10_givePoints 79 = .ok (.invokestatic 339, 3) := by decide +kernel
theorem dX10_givePoints_82 : decode cX10_givePoints 82 = .ok (.goto 8, 3) := by decide +kernel
theorem dX10_givePoints_85 : decode cX10_givePoints 85 = .ok (.iload 4, 2) := by decide +kernel
theorem dX10_givePoints_87 : decode cX10_givePoints 87 = .ok (.invokestatic 342, 3) := by decide +kernel
theorem dX10_givePoints_90 : decode cX10_givePoints 90 = .ok (.iadd, 1) := by decide +kernel
theorem dX10_givePoints_91 : decode cX10_givePoints 91 = .ok (.iastore, 1) := by decide +kernel
theorem dX10_givePoints_92 : decode cX10_givePoints 92 = .ok (.iinc 2 1, 3) := by decide +kernel
theorem dX10_givePoints_95 : decode cX10_givePoints 95 = .ok (.iinc 3 1, 3) := by decide +kernel
theorem dX10_givePoints_98 : decode cX10_givePoints 98 = .ok (.goto (-76), 3) := by decide +kernel
theorem dX10_givePoints_101 : decode cX10_givePoints 101 = .ok (.iload_n 2, 1) := by decide +kernel
theorem dX10_givePoints_102 : decode cX10_givePoints 102 = .ok (.ireturn, 1) := by decide +kernel
theorem dX10_sharedPoints_0 : decode cX10_sharedPoints 0 = .ok (.iconst 0, 1) := by decide +kernel
theorem dX10_sharedPoints_1 : decode cX10_sharedPoints 1 = .ok (.istore_n 2, 1) := by decide +kernel
theorem dX10_sharedPoints_2 : decode cX10_sharedPoints 2 = .ok (.iconst 0, 1) := by decide +kernel
theorem dX10_sharedPoints_3 : decode cX10_sharedPoints 3 = .ok (.istore_n 3, 1) := by decide +kernel
theorem dX10_sharedPoints_4 : decode cX10_sharedPoints 4 = .ok (.iload_n 3, 1) := by decide +kernel
theorem dX10_sharedPoints_5 : decode cX10_sharedPoints 5 = .ok (.iload_n 1, 1) := by decide +kernel
theorem dX10_sharedPoints_6 : decode cX10_sharedPoints 6 = .ok (.if_icmp .ge 18, 3) := by decide +kernel
theorem dX10_sharedPoints_9 : decode cX10_sharedPoints 9 = .ok (.iload_n 2, 1) := by decide +kernel
theorem dX10_sharedPoints_10 : decode cX10_sharedPoints 10 = .ok (.iload_n 0, 1) := by decide +kernel
theorem dX10_sharedPoints_11 : decode cX10_sharedPoints 11 = .ok (.iload_n 3, 1) := by decide +kernel
theorem dX10_sharedPoints_12 : decode cX10_sharedPoints 12 = .ok (.iadd, 1) := by decide +kernel
theorem dX10_sharedPoints_13 : decode cX10_sharedPoints 13 = .ok (.invokestatic 342, 3) := by decide +kernel
theorem dX10_sharedPoints_16 : decode cX10_sharedPoints 16 = .ok (.iadd, 1) := by decide +kernel
theorem dX10_sharedPoints_17 : decode cX10_sharedPoints 17 = .ok (.istore_n 2, 1) := by decide +kernel
theorem dX10_sharedPoints_18 : decode cX10_sharedPoints 18 = .ok (.iinc 3 1, 3) := by decide +kernel
theorem dX10_sharedPoints_21 : decode cX10_sharedPoints 21 = .ok (.goto (-17), 3) := by decide +kernel
theorem dX10_sharedPoints_24 : decode cX10_sharedPoints 24 = .ok (.iload_n 1, 1) := by decide +kernel
theorem dX10_sharedPoints_25 : decode cX10_sharedPoints 25 = .ok (.ifCond .le 9, 3) := by decide +kernel
theorem dX10_sharedPoints_28 : decode cX10_sharedPoints 28 = .ok (.iload_n 2, 1) := by decide +kernel
theorem dX10_sharedPoints_29 : decode cX10_sharedPoints 29 = .ok (.iload_n 1, 1) := by decide +kernel
theorem dX10_sharedPoints_30 : decode cX10_sharedPoints 30 = .ok (.idiv, 1) := by decide +kernel
theorem dX10_sharedPoints_31 : decode cX10_sharedPoints 31 = .ok (.goto 4, 3) := by decide +kernel
theorem dX10_sharedPoints_34 : decode cX10_sharedPoints 34 = .ok (.iconst 0, 1) := by decide +kernel
theorem dX10_sharedPoints_35 : decode cX10_sharedPoints 35 = .ok (.ireturn, 1) := by decide +kernel
theorem dX10_pointsOfPlace_0 : decode cX10_pointsOfPlace 0 = .ok (.iload_n 0, 1) := by decide +kernel
theorem dX10_pointsOfPlace_1 : decode cX10_pointsOfPlace 1 = .ok (.iconst 1, 1) := by decide +kernel
theorem dX10_pointsOfPlace_2 : decode cX10_pointsOfPlace 2 = .ok (.getstatic 345, 3) := by decide +kernel
theorem dX10_pointsOfPlace_5 : decode cX10_pointsOfPlace 5 = .ok (.arraylength, 1) := by decide +kernel
theorem dX10_pointsOfPlace_6 : decode cX10_pointsOfPlace 6 = .ok (.invokestatic 62, 3) := by decide +kernel
theorem dX10_pointsOfPlace_9 : decode cX10_pointsOfPlace 9 = .ok (.ifCond .eq 13, 3) := by decide +kernel
theorem dX10_pointsOfPlace_12 : decode cX10_pointsOfPlace 12 = .ok (.getstatic 345, 3) := by decide +kernel
theorem dX10_pointsOfPlace_15 : decode cX10_pointsOfPlace 15 = .ok (.iload_n 0, 1) := by decide +kernel
theorem dX10_pointsOfPlace_16 : decode cX10_pointsOfPlace 16 = .ok (.iconst 1, 1) := by decide +kernel
theorem dX10_pointsOfPlace_17 : decode cX10_pointsOfPlace 17 = .ok (.isub, 1) := by decide +kernel
theorem dX10_pointsOfPlace_18 : decode cX10_pointsOfPlace 18 = .ok (.iaload, 1) := by decide +kernel
theorem dX10_pointsOfPlace_19 : decode cX10_pointsOfPlace 19 = .ok (.goto 4, 3) := by decide +kernel
theorem dX10_pointsOfPlace_22 : decode cX10_pointsOfPlace 22 = .ok (.iconst 0, 1) := by decide +kernel
theorem dX10_pointsOfPlace_23 : decode cX10_pointsOfPlace 23 = .ok (.ireturn, 1) := by decide +kernel
end
section
theorem dJ9_abs_0f7a4_0 : decode cJ9_abs_0f7a4 0 = .ok (.iload_n 0, 1) := by decide +kernel
theorem dJ9_abs_0f7a4_1 : decode cJ9_abs_0f7a4 1 = .ok (.ifCond .ge 8, 3) := by decide +kernel
theorem dJ9_abs_0f7a4_4 : decode cJ9_abs_0f7a4 4 = .ok (.iload_n 0, 1) := by decide +kernel
theorem dJ9_abs_0f7a4_5 : decode cJ9_abs_0f7a4 5 = .ok (.ineg, 1) := by decide +kernel
theorem dJ9_abs_0f7a4_6 : decode cJ9_abs_0f7a4 6 = .ok (.goto 4, 3) := by decide +kernel
theorem dJ9_abs_0f7a4_9 : decode cJ9_abs_0f7a4 9 = .ok (.iload_n 0, 1) := by decide +kernel
theorem dJ9_abs_0f7a4_10 : decode cJ9_abs_0f7a4 10 = .ok (.ireturn, 1) := by decide +kernel
theorem dJ9_max_7cf53_0 : decode cJ9_max_7cf53 0 = .ok (.iload_n 0, 1) := by decide +kernel
theorem dJ9_max_7cf53_1 : decode cJ9_max_7cf53 1 = .ok (.iload_n 1, 1) := by decide +kernel
theorem dJ9_max_7cf53_2 : decode cJ9_max_7cf53 2 = .ok (.if_icmp .lt 7, 3) := by decide +kernel
theorem dJ9_max_7cf53_5 : decode cJ9_max_7cf53 5 = .ok (.iload_n 0, 1) := by decide +kernel
theorem dJ9_max_7cf53_6 : decode cJ9_max_7cf53 6 = .ok (.goto 4, 3) := by decide +kernel
theorem dJ9_max_7cf53_9 : decode cJ9_max_7cf53 9 = .ok (.iload_n 1, 1) := by decide +kernel
theorem dJ9_max_7cf53_10 : decode cJ9_max_7cf53 10 = .ok (.ireturn, 1) := by decide +kernel
theorem dJ9_min_7cf53_0 : decode cJ9_min_7cf53 0 = .ok (.iload_n 0, 1) := by decide +kernel
theorem dJ9_min_7cf53_1 : decode cJ9_min_7cf53 1 = .ok (.iload_n 1, 1) := by decide +kernel
theorem dJ9_min_7cf53_2 : decode cJ9_min_7cf53 2 = .ok (.if_icmp .gt 7, 3) := by decide +kernel
theorem dJ9_min_7cf53_5 : decode cJ9_min_7cf53 5 = .ok (.iload_n 0, 1) := by decide +kernel
theorem dJ9_min_7cf53_6 : decode cJ9_min_7cf53 6 = .ok (.goto 4, 3) := by decide +kernel
theorem dJ9_min_7cf53_9 : decode cJ9_min_7cf53 9 = .ok (.iload_n 1, 1) := by decide +kernel
theorem dJ9_min_7cf53_10 : decode cJ9_min_7cf53 10 = .ok (.ireturn, 1) := by decide +kernel
theorem dJ0_length_8abf5_0 : decode cJ0_length_8abf5 0 = .ok (.aload_n 0, 1) := by decide +kernel
theorem dJ0_length_8abf5_1 : decode cJ0_length_8abf5 1 = .ok (.getfield 9, 3) := by decide +kernel
theorem dJ0_length_8abf5_4 : decode cJ0_length_8abf5 4 = .ok (.arraylength, 1) := by decide +kernel
theorem dJ0_length_8abf5_5 : decode cJ0_length_8abf5 5 = .ok (.aload_n 0, 1) := by decide +kernel
theorem dJ0_length_8abf5_6 : decode cJ0_length_8abf5 6 = .ok (.invokevirtual 335, 3) := by decide +kernel
theorem dJ0_length_8abf5_9 : decode cJ0_length_8abf5 9 = .ok (.ishr, 1) := by decide +kernel
theorem dJ0_length_8abf5_10 : decode cJ0_length_8abf5 10 = .ok (.ireturn, 1) := by decide +kernel
theorem dJ0_charAt_5068e_0 : decode cJ0_charAt_5068e 0 = .ok (.aload_n 0, 1) := by decide +kernel
theorem dJ0_charAt_5068e_1 : decode cJ0_charAt_5068e 1 = .ok (.invokevirtual 492, 3) := by decide +kernel
theorem dJ0_charAt_5068e_4 : decode cJ0_charAt_5068e 4 = .ok (.ifCond .eq 12, 3) := by decide +kernel
theorem dJ0_charAt_5068e_7 : decode cJ0_charAt_5068e 7 = .ok (.aload_n 0, 1) := by decide +kernel
theorem dJ0_charAt_5068e_8 : decode cJ0_charAt_5068e 8 = .ok (.getfield 9, 3) := by decide +kernel
theorem dJ0_charAt_5068e_11 : decode cJ0_charAt_5068e 11 = .ok (.iload_n 1, 1) := by decide +kernel
theorem dJ0_charAt_5068e_12 : decode cJ0_charAt_5068e 12 = .ok (.invokestatic 495, 3) := by decide +kernel
theorem dJ0_charAt_5068e_15 : decode cJ0_charAt_5068e 15 = .ok (.ireturn, 1) := by decide +kernel
theorem dJ0_charAt_5068e_16 : decode cJ0_charAt_5068e 16 = .ok (.aload_n 0, 1) := by decide +kernel
theorem dJ0_charAt_5068e_17 : decode cJ0_charAt_5068e 17 = .ok (.getfield 9, 3) := by decide +kernel
theorem dJ0_charAt_5068e_20 : decode cJ0_charAt_5068e 20 = .ok (.iload_n 1, 1) := by decide +kernel
theorem dJ0_charAt_5068e_21 : decode cJ0_charAt_5068e 21 = .ok (.invokestatic 498, 3) := by decide +kernel
theorem dJ0_charAt_5068e_24 : decode cJ0_charAt_5068e 24 = .ok (.ireturn, 1) := by decide +kernel
theorem dJ0_coder_7d493_0 : decode cJ0_coder_7d493 0 = .ok (.getstatic 38, 3) := by decide +kernel
theorem dJ0_coder_7d493_3 : decode cJ0_coder_7d493 3 = .ok (.ifCond .eq 10, 3) := by decide +kernel
theorem dJ0_coder_7d493_6 : decode cJ0_coder_7d493 6 = .ok (.aload_n 0, 1) := by decide +kernel
theorem dJ0_coder_7d493_7 : decode cJ0_coder_7d493 7 = .ok (.getfield 15, 3) := by decide +kernel
theorem dJ0_coder_7d493_10 : decode cJ0_coder_7d493 10 = .ok (.goto 4, 3) := by decide +kernel
theorem dJ0_coder_7d493_13 : decode cJ0_coder_7d493 13 = .ok (.iconst 1, 1) := by decide +kernel
theorem dJ0_coder_7d493_14 : decode cJ0_coder_7d493 14 = .ok (.ireturn, 1) := by decide +kernel
theorem dJ0_isLatin1_aae02_0 : decode cJ0_isLatin1_aae02 0 = .ok (.getstatic 38, 3) := by decide +kernel
theorem dJ0_isLatin1_aae02_3 : decode cJ0_isLatin1_aae02 3 = .ok (.ifCond .eq 14, 3) := by decide +kernel
theorem dJ0_isLatin1_aae02_6 : decode cJ0_isLatin1_aae02 6 = .ok (.aload_n 0, 1) := by decide +kernel
theorem dJ0_isLatin1_aae02_7 : decode cJ0_isLatin1_aae02 7 = .ok (.getfield 15, 3) := by decide +kernel
theorem dJ0_isLatin1_aae02_10 : decode cJ0_isLatin1_aae02 10 = .ok (.ifCond .ne 7, 3) := by decide +kernel
theorem dJ0_isLatin1_aae02_13 : decode cJ0_isLatin1_aae02 13 = .ok (.iconst 1, 1) := by decide +kernel
theorem dJ0_isLatin1_aae02_14 : decode cJ0_isLatin1_aae02 14 = .ok (.goto 4, 3) := by decide +kernel
theorem dJ0_isLatin1_aae02_17 : decode cJ0_isLatin1_aae02 17 = .ok (.iconst 0, 1) := by decide +kernel
theorem dJ0_isLatin1_aae02_18 : decode cJ0_isLatin1_aae02 18 = .ok (.ireturn, 1) := by decide +kernel
theorem dJ0_checkIndex_df160_0 : decode cJ0_checkIndex_df160 0 = .ok (.iload_n 0, 1) := by decide +kernel
theorem dJ0_checkIndex_df160_1 : decode cJ0_checkIndex_df160 1 = .ok (.iload_n 1, 1) := by decide +kernel
theorem dJ0_checkIndex_df160_2 : decode cJ0_checkIndex_df160 2 = .ok (.getstatic 1053, 3) := by decide +kernel
theorem dJ0_checkIndex_df160_5 : decode cJ0_checkIndex_df160 5 = .ok (.invokestatic 1059, 3) := by decide +kernel
theorem dJ0_checkIndex_df160_8 : decode cJ0_checkIndex_df160 8 = .ok (.pop, 1) := by decide +kernel
theorem dJ0_checkIndex_df160_9 : decode cJ0_checkIndex_df160 9 = .ok (.return_, 1) := by decide +kernel
theorem dJ1_charAt_3b067_0 : decode cJ1_charAt_3b067 0 = .ok (.iload_n 1, 1) := by decide +kernel
theorem dJ1_charAt_3b067_1 : decode cJ1_charAt_3b067 1 = .ok (.aload_n 0, 1) := by decide +kernel
theorem dJ1_charAt_3b067_2 : decode cJ1_charAt_3b067 2 = .ok (.arraylength, 1) := by decide +kernel
theorem dJ1_charAt_3b067_3 : decode cJ1_charAt_3b067 3 = .ok (.invokestatic 9, 3) := by decide +kernel
theorem dJ1_charAt_3b067_6 : decode cJ1_charAt_3b067 6 = .ok (.aload_n 0, 1) := by decide +kernel
theorem dJ1_charAt_3b067_7 : decode cJ1_charAt_3b067 7 = .ok (.iload_n 1, 1) := by decide +kernel
theorem dJ1_charAt_3b067_8 : decode cJ1_charAt_3b067 8 = .ok (.baload, 1) := by decide +kernel
theorem dJ1_charAt_3b067_9 : decode cJ1_charAt_3b067 9 = .ok (.sipush 255, 3) := by decide +kernel
theorem dJ1_charAt_3b067_12 : decode cJ1_charAt_3b067 12 = .ok (.iand, 1) := by decide +kernel
theorem dJ1_charAt_3b067_13 : decode cJ1_charAt_3b067 13 = .ok (.i2c, 1) := by decide +kernel
theorem dJ1_charAt_3b067_14 : decode cJ1_charAt_3b067 14 = .ok (.ireturn, 1) := by decide +kernel
theorem dJ2_getChar_3b067_0 : decode cJ2_getChar_3b067 0 = .ok (.getstatic 44, 3) := by decide +kernel
theorem dJ2_getChar_3b067_3 : decode cJ2_getChar_3b067 3 = .ok (.ifCond .ne 25, 3) := by decide +kernel
theorem dJ2_getChar_3b067_6 : decode cJ2_getChar_3b067 6 = .ok (.iload_n 1, 1) := by decide +kernel
theorem dJ2_getChar_3b067_7 : decode cJ2_getChar_3b067 7 = .ok (.ifCond .lt 11, 3) := by decide +kernel
theorem dJ2_getChar_3b067_10 : decode cJ2_getChar_3b067 10 = .ok (.iload_n 1, 1) := by decide +kernel
theorem dJ2_getChar_3b067_11 : decode cJ2_getChar_3b067 11 = .ok (.aload_n 0, 1) := by decide +kernel
theorem dJ2_getChar_3b067_12 : decode cJ2_getChar_3b067 12 = .ok (.invokestatic 48, 3) := by decide +kernel
theorem dJ2_getChar_3b067_15 : decode cJ2_getChar_3b067 15 = .ok (.if_icmp .lt 13, 3) := by decide +kernel
theorem dJ2_getChar_3b067_18 : decode cJ2_getChar_3b067 18 = .ok (.new 52, 3) := by decide +kernel
theorem dJ2_getChar_3b067_21 : decode cJ2_getChar_3b067 21 = .ok (.dup, 1) := by decide +kernel
theorem dJ2_getChar_3b067_22 : decode cJ2_getChar_3b067 22 = .ok (.ldc 54, 2) := by decide +kernel
theorem dJ2_getChar_3b067_24 : decode cJ2_getChar_3b067 24 = .ok (.invokespecial 56, 3) := by decide +kernel
theorem dJ2_getChar_3b067_27 : decode cJ2_getChar_3b067 27 = .ok (.athrow, 1) := by decide +kernel
theorem dJ2_getChar_3b067_28 : decode cJ2_getChar_3b067 28 = .ok (.iload_n 1, 1) := by decide +kernel
theorem dJ2_getChar_3b067_29 : decode cJ2_getChar_3b067 29 = .ok (.iconst 1, 1) := by decide +kernel
theorem dJ2_getChar_3b067_30 : decode cJ2_getChar_3b067 30 = .ok (.ishl, 1) := by decide +kernel
theorem dJ2_getChar_3b067_31 : decode cJ2_getChar_3b067 31 = .ok (.istore_n 1, 1) := by decide +kernel
theorem dJ2_getChar_3b067_32 : decode cJ2_getChar_3b067 32 = .ok (.aload_n 0, 1) := by decide +kernel
theorem dJ2_getChar_3b067_33 : decode cJ2_getChar_3b067 33 = .ok (.iload_n 1, 1) := by decide +kernel
theorem dJ2_getChar_3b067_34 : decode cJ2_getChar_3b067 34 = .ok (.iinc 1 1, 3) := by decide +kernel
theorem dJ2_getChar_3b067_37 : decode cJ2_getChar_3b067 37 = .ok (.baload, 1) := by decide +kernel
theorem dJ2_getChar_3b067_38 : decode cJ2_getChar_3b067 38 = .ok (.sipush 255, 3) := by decide +kernel
theorem dJ2_getChar_3b067_41 : decode cJ2_getChar_3b067 41 = .ok (.iand, 1) := by decide +kernel
theorem dJ2_getChar_3b067_42 : decode cJ2_getChar_3b067 42 = .ok (.getstatic 59, 3) := by decide +kernel
theorem dJ2_getChar_3b067_45 : decode cJ2_getChar_3b067 45 = .ok (.ishl, 1) := by decide +kernel
theorem dJ2_getChar_3b067_46 : decode cJ2_getChar_3b067 46 = .ok (.aload_n 0, 1) := by decide +kernel
theorem dJ2_getChar_3b067_47 : decode cJ2_getChar_3b067 47 = .ok (.iload_n 1, 1) := by decide +kernel
theorem dJ2_getChar_3b067_48 : decode cJ2_getChar_3b067 48 = .ok (.baload, 1) := by decide +kernel
theorem dJ2_getChar_3b067_49 : decode cJ2_getChar_3b067 49 = .ok (.sipush 255, 3) := by decide +kernel
theorem dJ2_getChar_3b067_52 : decode cJ2_getChar_3b067 52 = .ok (.iand, 1) := by decide +kernel
theorem dJ2_getChar_3b067_53 : decode cJ2_getChar_3b067 53 = .ok (.getstatic 63, 3) := by decide +kernel
theorem dJ2_getChar_3b067_56 : decode cJ2_getChar_3b067 56 = .ok (.ishl, 1) := by decide +kernel
theorem dJ2_getChar_3b067_57 : decode cJ2_getChar_3b067 57 = .ok (.ior, 1) := by decide +kernel
theorem dJ2_getChar_3b067_58 : decode cJ2_getChar_3b067 58 = .ok (.i2c, 1) := by decide +kernel
theorem dJ2_getChar_3b067_59 : decode cJ2_getChar_3b067 59 = .ok (.ireturn, 1) := by decide +kernel
theorem dJ2_length_9d52b_0 : decode cJ2_length_9d52b 0 = .ok (.aload_n 0, 1) := by decide +kernel
theorem dJ2_length_9d52b_1 : decode cJ2_length_9d52b 1 = .ok (.arraylength, 1) := by decide +kernel
theorem dJ2_length_9d52b_2 : decode cJ2_length_9d52b 2 = .ok (.iconst 1, 1) := by decide +kernel
theorem dJ2_length_9d52b_3 : decode cJ2_length_9d52b 3 = .ok (.ishr, 1) := by decide +kernel
theorem dJ2_length_9d52b_4 : decode cJ2_length_9d52b 4 = .ok (.ireturn, 1) := by decide +kernel
theorem dJ2_charAt_3b067_0 : decode cJ2_charAt_3b067 0 = .ok (.iload_n 1, 1) := by decide +kernel
theorem dJ2_charAt_3b067_1 : decode cJ2_charAt_3b067 1 = .ok (.aload_n 0, 1) := by decide +kernel
theorem dJ2_charAt_3b067_2 : decode cJ2_charAt_3b067 2 = .ok (.invokestatic 67, 3) := by decide +kernel
theorem dJ2_charAt_3b067_5 : decode cJ2_charAt_3b067 5 = .ok (.aload_n 0, 1) := by decide +kernel
theorem dJ2_charAt_3b067_6 : decode cJ2_charAt_3b067 6 = .ok (.iload_n 1, 1) := by decide +kernel
theorem dJ2_charAt_3b067_7 : decode cJ2_charAt_3b067 7 = .ok (.invokestatic 71, 3) := by decide +kernel
theorem dJ2_charAt_3b067_10 : decode cJ2_charAt_3b067 10 = .ok (.ireturn, 1) := by decide +kernel
theorem dJ2_checkIndex_2214a_0 : decode cJ2_checkIndex_2214a 0 = .ok (.iload_n 0, 1) := by decide +kernel
theorem dJ2_checkIndex_2214a_1 : decode cJ2_checkIndex_2214a 1 = .ok (.aload_n 1, 1) := by decide +kernel
theorem dJ2_checkIndex_2214a_2 : decode cJ2_checkIndex_2214a 2 = .ok (.invokestatic 48, 3) := by decide +kernel
theorem dJ2_checkIndex_2214a_5 : decode cJ2_checkIndex_2214a 5 = .ok (.invokestatic 414, 3) := by decide +kernel
theorem dJ2_checkIndex_2214a_8 : decode cJ2_checkIndex_2214a 8 = .ok (.return_, 1) := by decide +kernel
theorem dJ3_checkIndex_8e157_0 : decode cJ3_checkIndex_8e157 0 = .ok (.iload_n 0, 1) := by decide +kernel
theorem dJ3_checkIndex_8e157_1 : decode cJ3_checkIndex_8e157 1 = .ok (.ifCond .lt 8, 3) := by decide +kernel
theorem dJ3_checkIndex_8e157_4 : decode cJ3_checkIndex_8e157 4 = .ok (.iload_n 0, 1) := by decide +kernel
theorem dJ3_checkIndex_8e157_5 : decode cJ3_checkIndex_8e157 5 = .ok (.iload_n 1, 1) := by decide +kernel
theorem dJ3_checkIndex_8e157_6 : decode cJ3_checkIndex_8e157 6 = .ok (.if_icmp .lt 10, 3) := by decide +kernel
theorem dJ3_checkIndex_8e157_9 : decode cJ3_checkIndex_8e157 9 = .ok (.aload_n 2, 1) := by decide +kernel
theorem dJ3_checkIndex_8e157_10 : decode cJ3_checkIndex_8e157 10 = .ok (.iload_n 0, 1) := by decide +kernel
theorem dJ3_checkIndex_8e157_11 : decode cJ3_checkIndex_8e157 11 = .ok (.iload_n 1, 1) := by decide +kernel
theorem dJ3_checkIndex_8e157_12 : decode cJ3_checkIndex_8e157 12 = .ok (.invokestatic 95, 3) := by decide +kernel
theorem dJ3_checkIndex_8e157_15 : decode cJ3_checkIndex_8e157 15 = .ok (.athrow, 1) := by decide +kernel
theorem dJ3_checkIndex_8e157_16 : decode cJ3_checkIndex_8e157 16 = .ok (.iload_n 0, 1) := by decide +kernel
theorem dJ3_checkIndex_8e157_17 : decode cJ3_checkIndex_8e157 17 = .ok (.ireturn, 1) := by decide +kernel
theorem dL_glide_0 : decode cL_glide 0 = .ok (.aload_n 3, 1) := by decide +kernel
theorem dL_glide_1 : decode cL_glide 1 = .ok (.iconst 0, 1) := by decide +kernel
theorem dL_glide_2 : decode cL_glide 2 = .ok (.aload_n 0, 1) := by decide +kernel
theorem dL_glide_3 : decode cL_glide 3 = .ok (.iload_n 1, 1) := by decide +kernel
theorem dL_glide_4 : decode cL_glide 4 = .ok (.iload_n 2, 1) := by decide +kernel
theorem dL_glide_5 : decode cL_glide 5 = .ok (.invokevirtual 7, 3) := by decide +kernel
theorem dL_glide_8 : decode cL_glide 8 = .ok (.i2l, 1) := by decide +kernel
theorem dL_glide_9 : decode cL_glide 9 = .ok (.lastore, 1) := by decide +kernel
theorem dL_glide_10 : decode cL_glide 10 = .ok (.goto 7, 3) := by decide +kernel
theorem dL_glide_13 : decode cL_glide 13 = .ok (.astore 4, 2) := by decide +kernel
theorem dL_glide_15 : decode cL_glide 15 = .ok (.iconst 1, 1) := by decide +kernel
theorem dL_glide_16 : decode cL_glide 16 = .ok (.ireturn, 1) := by decide +kernel
theorem dL_glide_17 : decode cL_glide 17 = .ok (.iconst 0, 1) := by decide +kernel
theorem dL_glide_18 : decode cL_glide 18 = .ok (.ireturn, 1) := by decide +kernel
theorem dL_ice_0 : decode cL_ice 0 = .ok (.aload_n 3, 1) := by decide +kernel
theorem dL_ice_1 : decode cL_ice 1 = .ok (.iconst 0, 1) := by decide +kernel
theorem dL_ice_2 : decode cL_ice 2 = .ok (.aload_n 0, 1) := by decide +kernel
theorem dL_ice_3 : decode cL_ice 3 = .ok (.iload_n 1, 1) := by decide +kernel
theorem dL_ice_4 : decode cL_ice 4 = .ok (.iload_n 2, 1) := by decide +kernel
theorem dL_ice_5 : decode cL_ice 5 = .ok (.invokevirtual 15, 3) := by decide +kernel
theorem dL_ice_8 : decode cL_ice 8 = .ok (.i2l, 1) := by decide +kernel
theorem dL_ice_9 : decode cL_ice 9 = .ok (.lastore, 1) := by decide +kernel
theorem dL_ice_10 : decode cL_ice 10 = .ok (.goto 7, 3) := by decide +kernel
theorem dL_ice_13 : decode cL_ice 13 = .ok (.astore 4, 2) := by decide +kernel
theorem dL_ice_15 : decode cL_ice 15 = .ok (.iconst 1, 1) := by decide +kernel
theorem dL_ice_16 : decode cL_ice 16 = .ok (.ireturn, 1) := by decide +kernel
theorem dL_ice_17 : decode cL_ice 17 = .ok (.iconst 0, 1) := by decide +kernel
theorem dL_ice_18 : decode cL_ice 18 = .ok (.ireturn, 1) := by decide +kernel
theorem dL_law_0 : decode cL_law 0 = .ok (.new 8, 3) := by decide +kernel
theorem dL_law_3 : decode cL_law 3 = .ok (.dup, 1) := by decide +kernel
theorem dL_law_4 : decode cL_law 4 = .ok (.invokespecial 18, 3) := by decide +kernel
theorem dL_law_7 : decode cL_law 7 = .ok (.astore_n 1, 1) := by decide +kernel
theorem dL_law_8 : decode cL_law 8 = .ok (.new 19, 3) := by decide +kernel
theorem dL_law_11 : decode cL_law 11 = .ok (.dup, 1) := by decide +kernel
theorem dL_law_12 : decode cL_law 12 = .ok (.invokespecial 21, 3) := by decide +kernel
theorem dL_law_15 : decode cL_law 15 = .ok (.astore_n 2, 1) := by decide +kernel
theorem dL_law_16 : decode cL_law 16 = .ok (.iconst 1, 1) := by decide +kernel
theorem dL_law_17 : decode cL_law 17 = .ok (.newarray .long, 2) := by decide +kernel
theorem dL_law_19 : decode cL_law 19 = .ok (.astore_n 3, 1) := by decide +kernel
theorem dL_law_20 : decode cL_law 20 = .ok (.iconst 0, 1) := by decide +kernel
theorem dL_law_21 : decode cL_law 21 = .ok (.istore 4, 2) := by decide +kernel
theorem dL_law_23 : decode cL_law 23 = .ok (.iload 4, 2) := by decide +kernel
theorem dL_law_25 : decode cL_law 25 = .ok (.aload_n 0, 1) := by decide +kernel
theorem dL_law_26 : decode cL_law 26 = .ok (.arraylength, 1) := by decide +kernel
theorem dL_law_27 : decode cL_law 27 = .ok (.bipush 6, 2) := by decide +kernel
theorem dL_law_29 : decode cL_law 29 = .ok (.isub, 1) := by decide +kernel
theorem dL_law_30 : decode cL_law 30 = .ok (.if_icmp .gt 1353, 3) := by decide +kernel
theorem dL_law_33 : decode cL_law 33 = .ok (.aload_n 0, 1) := by decide +kernel
theorem dL_law_34 : decode cL_law 34 = .ok (.iload 4, 2) := by decide +kernel
theorem dL_law_36 : decode cL_law 36 = .ok (.iaload, 1) := by decide +kernel
theorem dL_law_37 : decode cL_law 37 = .ok (.bipush 31, 2) := by decide +kernel
theorem dL_law_39 : decode cL_law 39 = .ok (.iand, 1) := by decide +kernel
theorem dL_law_40 : decode cL_law 40 = .ok (.tableswitch 1337 0 30 #[140, 177, 238, 311, 384, 452, 501, 538, 575, 588, 637, 698, 771, 796, 809, 822, 847, 860, 885, 910, 923, 936, 973, 1022, 1071, 1108, 1145, 1213, 1262, 1275, 1312], 140) := by decide +kernel
theorem dL_law_180 : decode cL_law 180 = .ok (.aload_n 1, 1) := by decide +kernel
theorem dL_law_181 : decode cL_law 181 = .ok (.aload_n 0, 1) := by decide +kernel
theorem dL_law_182 : decode cL_law 182 = .ok (.iload 4, 2) := by decide +kernel
theorem dL_law_184 : decode cL_law 184 = .ok (.iconst 1, 1) := by decide +kernel
theorem dL_law_185 : decode cL_law 185 = .ok (.iadd, 1) := by decide +kernel
theorem dL_law_186 : decode cL_law 186 = .ok (.iaload, 1) := by decide +kernel
theorem dL_law_187 : decode cL_law 187 = .ok (.aload_n 0, 1) := by decide +kernel
theorem dL_law_188 : decode cL_law 188 = .ok (.iload 4, 2) := by decide +kernel
theorem dL_law_190 : decode cL_law 190 = .ok (.iconst 2, 1) := by decide +kernel
theorem dL_law_191 : decode cL_law 191 = .ok (.iadd, 1) := by decide +kernel
theorem dL_law_192 : decode cL_law 192 = .ok (.iaload, 1) := by decide +kernel
theorem dL_law_193 : decode cL_law 193 = .ok (.invokevirtual 22, 3) := by decide +kernel
theorem dL_law_196 : decode cL_law 196 = .ok (.aload_n 2, 1) := by decide +kernel
theorem dL_law_197 : decode cL_law 197 = .ok (.aload_n 0, 1) := by decide +kernel
theorem dL_law_198 : decode cL_law 198 = .ok (.iload 4, 2) := by decide +kernel
theorem dL_law_200 : decode cL_law 200 = .ok (.iconst 1, 1) := by decide +kernel
theorem dL_law_201 : decode cL_law 201 = .ok (.iadd, 1) := by decide +kernel
theorem dL_law_202 : decode cL_law 202 = .ok (.iaload, 1) := by decide +kernel
theorem dL_law_203 : decode cL_law 203 = .ok (.aload_n 0, 1) := by decide +kernel
theorem dL_law_204 : decode cL_law 204 = .ok (.iload 4, 2) := by decide +kernel
theorem dL_law_206 : decode cL_law 206 = .ok (.iconst 2, 1) := by decide +kernel
theorem dL_law_207 : decode cL_law 207 = .ok (.iadd, 1) := by decide +kernel
theorem dL_law_208 : decode cL_law 208 = .ok (.iaload, 1) := by decide +kernel
theorem dL_law_209 : decode cL_law 209 = .ok (.invokevirtual 26, 3) := by decide +kernel
theorem dL_law_212 : decode cL_law 212 = .ok (.if_icmp .eq 1165, 3) := by decide +kernel
theorem dL_law_215 : decode cL_law 215 = .ok (.iconst 0, 1) := by decide +kernel
theorem dL_law_216 : decode cL_law 216 = .ok (.ireturn, 1) := by decide +kernel
theorem dL_law_217 : decode cL_law 217 = .ok (.aload_n 1, 1) := by decide +kernel
theorem dL_law_218 : decode cL_law 218 = .ok (.aload_n 0, 1) := by decide +kernel
theorem dL_law_219 : decode cL_law 219 = .ok (.iload 4, 2) := by decide +kernel
theorem dL_law_221 : decode cL_law 221 = .ok (.iconst 1, 1) := by decide +kernel
theorem dL_law_222 : decode cL_law 222 = .ok (.iadd, 1) := by decide +kernel
theorem dL_law_223 : decode cL_law 223 = .ok (.iaload, 1) := by decide +kernel
theorem dL_law_224 : decode cL_law 224 = .ok (.aload_n 0, 1) := by decide +kernel
theorem dL_law_225 : decode cL_law 225 = .ok (.iload 4, 2) := by decide +kernel
theorem dL_law_227 : decode cL_law 227 = .ok (.iconst 2, 1) := by decide +kernel
theorem dL_law_228 : decode cL_law 228 = .ok (.iadd, 1) := by decide +kernel
theorem dL_law_229 : decode cL_law 229 = .ok (.iaload, 1) := by decide +kernel
theorem dL_law_230 : decode cL_law 230 = .ok (.aload_n 0, 1) := by decide +kernel
theorem dL_law_231 : decode cL_law 231 = .ok (.iload 4, 2) := by decide +kernel
theorem dL_law_233 : decode cL_law 233 = .ok (.iconst 3, 1) := by decide +kernel
theorem dL_law_234 : decode cL_law 234 = .ok (.iadd, 1) := by decide +kernel
theorem dL_law_235 : decode cL_law 235 = .ok (.iaload, 1) := by decide +kernel
theorem dL_law_236 : decode cL_law 236 = .ok (.aload_n 0, 1) := by decide +kernel
theorem dL_law_237 : decode cL_law 237 = .ok (.iload 4, 2) := by decide +kernel
theorem dL_law_239 : decode cL_law 239 = .ok (.iconst 4, 1) := by decide +kernel
theorem dL_law_240 : decode cL_law 240 = .ok (.iadd, 1) := by decide +kernel
theorem dL_law_241 : decode cL_law 241 = .ok (.iaload, 1) := by decide +kernel
theorem dL_law_242 : decode cL_law 242 = .ok (.invokevirtual 27, 3) := by decide +kernel
theorem dL_law_245 : decode cL_law 245 = .ok (.aload_n 2, 1) := by decide +kernel
theorem dL_law_246 : decode cL_law 246 = .ok (.aload_n 0, 1) := by decide +kernel
theorem dL_law_247 : decode cL_law 247 = .ok (.iload 4, 2) := by decide +kernel
theorem dL_law_249 : decode cL_law 249 = .ok (.iconst 1, 1) := by decide +kernel
theorem dL_law_250 : decode cL_law 250 = .ok (.iadd, 1) := by decide +kernel
theorem dL_law_251 : decode cL_law 251 = .ok (.iaload, 1) := by decide +kernel
theorem dL_law_252 : decode cL_law 252 = .ok (.aload_n 0, 1) := by decide +kernel
theorem dL_law_253 : decode cL_law 253 = .ok (.iload 4, 2) := by decide +kernel
theorem dL_law_255 : decode cL_law 255 = .ok (.iconst 2, 1) := by decide +kernel
theorem dL_law_256 : decode cL_law 256 = .ok (.iadd, 1) := by decide +kernel
theorem dL_law_257 : decode cL_law 257 = .ok (.iaload, 1) := by decide +kernel
theorem dL_law_258 : decode cL_law 258 = .ok (.aload_n 0, 1) := by decide +kernel
theorem dL_law_259 : decode cL_law 259 = .ok (.iload 4, 2) := by decide +kernel
theorem dL_law_261 : decode cL_law 261 = .ok (.iconst 3, 1) := by decide +kernel
theorem dL_law_262 : decode cL_law 262 = .ok (.iadd, 1) := by decide +kernel
theorem dL_law_263 : decode cL_law 263 = .ok (.iaload, 1) := by decide +kernel
theorem dL_law_264 : decode cL_law 264 = .ok (.aload_n 0, 1) := by decide +kernel
theorem dL_law_265 : decode cL_law 265 = .ok (.iload 4, 2) := by decide +kernel
theorem dL_law_267 : decode cL_law 267 = .ok (.iconst 4, 1) := by decide +kernel
theorem dL_law_268 : decode cL_law 268 = .ok (.iadd, 1) := by decide +kernel
theorem dL_law_269 : decode cL_law 269 = .ok (.iaload, 1) := by decide +kernel
theorem dL_law_270 : decode cL_law 270 = .ok (.invokevirtual 31, 3) := by decide +kernel
theorem dL_law_273 : decode cL_law 273 = .ok (.if_icmp .eq 1104, 3) := by decide +kernel
theorem dL_law_276 : decode cL_law 276 = .ok (.iconst 0, 1) := by decide +kernel
theorem dL_law_277 : decode cL_law 277 = .ok (.ireturn, 1) := by decide +kernel
theorem dL_law_278 : decode cL_law 278 = .ok (.aload_n 1, 1) := by decide +kernel
theorem dL_law_279 : decode cL_law 279 = .ok (.aload_n 0, 1) := by decide +kernel
theorem dL_law_280 : decode cL_law 280 = .ok (.iload 4, 2) := by decide +kernel
theorem dL_law_282 : decode cL_law 282 = .ok (.iconst 1, 1) := by decide +kernel
theorem dL_law_283 : decode cL_law 283 = .ok (.iadd, 1) := by decide +kernel
theorem dL_law_284 : decode cL_law 284 = .ok (.iaload, 1) := by decide +kernel
theorem dL_law_285 : decode cL_law 285 = .ok (.aload_n 0, 1) := by decide +kernel
theorem dL_law_286 : decode cL_law 286 = .ok (.iload 4, 2) := by decide +kernel
theorem dL_law_288 : decode cL_law 288 = .ok (.iconst 2, 1) := by decide +kernel
theorem dL_law_289 : decode cL_law 289 = .ok (.iadd, 1) := by decide +kernel
theorem dL_law_290 : decode cL_law 290 = .ok (.iaload, 1) := by decide +kernel
theorem dL_law_291 : decode cL_law 291 = .ok (.aload_n 0, 1) := by decide +kernel
theorem dL_law_292 : decode cL_law 292 = .ok (.iload 4, 2) := by decide +kernel
theorem dL_law_294 : decode cL_law 294 = .ok (.iconst 3, 1) := by decide +kernel
theorem dL_law_295 : decode cL_law 295 = .ok (.iadd, 1) := by decide +kernel
theorem dL_law_296 : decode cL_law 296 = .ok (.iaload, 1) := by decide +kernel
theorem dL_law_297 : decode cL_law 297 = .ok (.aload_n 0, 1) := by decide +kernel
theorem dL_law_298 : decode cL_law 298 = .ok (.iload 4, 2) := by decide +kernel
theorem dL_law_300 : decode cL_law 300 = .ok (.iconst 4, 1) := by decide +kernel
theorem dL_law_301 : decode cL_law 301 = .ok (.iadd, 1) := by decide +kernel
theorem dL_law_302 : decode cL_law 302 = .ok (.iaload, 1) := by decide +kernel
theorem dL_law_303 : decode cL_law 303 = .ok (.aload_n 0, 1) := by decide +kernel
theorem dL_law_304 : decode cL_law 304 = .ok (.iload 4, 2) := by decide +kernel
theorem dL_law_306 : decode cL_law 306 = .ok (.iconst 5, 1) := by decide +kernel
theorem dL_law_307 : decode cL_law 307 = .ok (.iadd, 1) := by decide +kernel
theorem dL_law_308 : decode cL_law 308 = .ok (.iaload, 1) := by decide +kernel
theorem dL_law_309 : decode cL_law 309 = .ok (.invokevirtual 32, 3) := by decide +kernel
theorem dL_law_312 : decode cL_law 312 = .ok (.aload_n 2, 1) := by decide +kernel
theorem dL_law_313 : decode cL_law 313 = .ok (.aload_n 0, 1) := by decide +kernel
theorem dL_law_314 : decode cL_law 314 = .ok (.iload 4, 2) := by decide +kernel
theorem dL_law_316 : decode cL_law 316 = .ok (.iconst 1, 1) := by decide +kernel
theorem dL_law_317 : decode cL_law 317 = .ok (.iadd, 1) := by decide +kernel
theorem dL_law_318 : decode cL_law 318 = .ok (.iaload, 1) := by decide +kernel
theorem dL_law_319 : decode cL_law 319 = .ok (.aload_n 0, 1) := by decide +kernel
theorem dL_law_320 : decode cL_law 320 = .ok (.iload 4, 2) := by decide +kernel
theorem dL_law_322 : decode cL_law 322 = .ok (.iconst 2, 1) := by decide +kernel
theorem dL_law_323 : decode cL_law 323 = .ok (.iadd, 1) := by decide +kernel
theorem dL_law_324 : decode cL_law 324 = .ok (.iaload, 1) := by decide +kernel
theorem dL_law_325 : decode cL_law 325 = .ok (.aload_n 0, 1) := by decide +kernel
theorem dL_law_326 : decode cL_law 326 = .ok (.iload 4, 2) := by decide +kernel
theorem dL_law_328 : decode cL_law 328 = .ok (.iconst 3, 1) := by decide +kernel
theorem dL_law_329 : decode cL_law 329 = .ok (.iadd, 1) := by decide +kernel
theorem dL_law_330 : decode cL_law 330 = .ok (.iaload, 1) := by decide +kernel
theorem dL_law_331 : decode cL_law 331 = .ok (.aload_n 0, 1) := by decide +kernel
theorem dL_law_332 : decode cL_law 332 = .ok (.iload 4, 2) := by decide +kernel
theorem dL_law_334 : decode cL_law 334 = .ok (.iconst 4, 1) := by decide +kernel
theorem dL_law_335 : decode cL_law 335 = .ok (.iadd, 1) := by decide +kernel
theorem dL_law_336 : decode cL_law 336 = .ok (.iaload, 1) := by decide +kernel
theorem dL_law_337 : decode cL_law 337 = .ok (.aload_n 0, 1) := by decide +kernel
theorem dL_law_338 : decode cL_law 338 = .ok (.iload 4, 2) := by decide +kernel
theorem dL_law_340 : decode cL_law 340 = .ok (.iconst 5, 1) := by decide +kernel
theorem dL_law_341 : decode cL_law 341 = .ok (.iadd, 1) := by decide +kernel
theorem dL_law_342 : decode cL_law 342 = .ok (.iaload, 1) := by decide +kernel
theorem dL_law_343 : decode cL_law 343 = .ok (.invokevirtual 36, 3) := by decide +kernel
theorem dL_law_346 : decode cL_law 346 = .ok (.if_icmp .eq 1031, 3) := by decide +kernel
theorem dL_law_349 : decode cL_law 349 = .ok (.iconst 0, 1) := by decide +kernel
theorem dL_law_350 : decode cL_law 350 = .ok (.ireturn, 1) := by decide +kernel
theorem dL_law_351 : decode cL_law 351 = .ok (.aload_n 1, 1) := by decide +kernel
theorem dL_law_352 : decode cL_law 352 = .ok (.aload_n 0, 1) := by decide +kernel
theorem dL_law_353 : decode cL_law 353 = .ok (.iload 4, 2) := by decide +kernel
theorem dL_law_355 : decode cL_law 355 = .ok (.iconst 1, 1) := by decide +kernel
theorem dL_law_356 : decode cL_law 356 = .ok (.iadd, 1) := by decide +kernel
theorem dL_law_357 : decode cL_law 357 = .ok (.iaload, 1) := by decide +kernel
theorem dL_law_358 : decode cL_law 358 = .ok (.aload_n 0, 1) := by decide +kernel
theorem dL_law_359 : decode cL_law 359 = .ok (.iload 4, 2) := by decide +kernel
theorem dL_law_361 : decode cL_law 361 = .ok (.iconst 2, 1) := by decide +kernel
theorem dL_law_362 : decode cL_law 362 = .ok (.iadd, 1) := by decide +kernel
theorem dL_law_363 : decode cL_law 363 = .ok (.iaload, 1) := by decide +kernel
theorem dL_law_364 : decode cL_law 364 = .ok (.aload_n 0, 1) := by decide +kernel
theorem dL_law_365 : decode cL_law 365 = .ok (.iload 4, 2) := by decide +kernel
theorem dL_law_367 : decode cL_law 367 = .ok (.iconst 3, 1) := by decide +kernel
theorem dL_law_368 : decode cL_law 368 = .ok (.iadd, 1) := by decide +kernel
theorem dL_law_369 : decode cL_law 369 = .ok (.iaload, 1) := by decide +kernel
theorem dL_law_370 : decode cL_law 370 = .ok (.aload_n 0, 1) := by decide +kernel
theorem dL_law_371 : decode cL_law 371 = .ok (.iload 4, 2) := by decide +kernel
theorem dL_law_373 : decode cL_law 373 = .ok (.iconst 4, 1) := by decide +kernel
theorem dL_law_374 : decode cL_law 374 = .ok (.iadd, 1) := by decide +kernel
theorem dL_law_375 : decode cL_law 375 = .ok (.iaload, 1) := by decide +kernel
theorem dL_law_376 : decode cL_law 376 = .ok (.aload_n 0, 1) := by decide +kernel
theorem dL_law_377 : decode cL_law 377 = .ok (.iload 4, 2) := by decide +kernel
theorem dL_law_379 : decode cL_law 379 = .ok (.iconst 5, 1) := by decide +kernel
theorem dL_law_380 : decode cL_law 380 = .ok (.iadd, 1) := by decide +kernel
theorem dL_law_381 : decode cL_law 381 = .ok (.iaload, 1) := by decide +kernel
theorem dL_law_382 : decode cL_law 382 = .ok (.invokevirtual 37, 3) := by decide +kernel
theorem dL_law_385 : decode cL_law 385 = .ok (.aload_n 2, 1) := by decide +kernel
theorem dL_law_386 : decode cL_law 386 = .ok (.aload_n 0, 1) := by decide +kernel
theorem dL_law_387 : decode cL_law 387 = .ok (.iload 4, 2) := by decide +kernel
theorem dL_law_389 : decode cL_law 389 = .ok (.iconst 1, 1) := by decide +kernel
theorem dL_law_390 : decode cL_law 390 = .ok (.iadd, 1) := by decide +kernel
theorem dL_law_391 : decode cL_law 391 = .ok (.iaload, 1) := by decide +kernel
theorem dL_law_392 : decode cL_law 392 = .ok (.aload_n 0, 1) := by decide +kernel
theorem dL_law_393 : decode cL_law 393 = .ok (.iload 4, 2) := by decide +kernel
theorem dL_law_395 : decode cL_law 395 = .ok (.iconst 2, 1) := by decide +kernel
theorem dL_law_396 : decode cL_law 396 = .ok (.iadd, 1) := by decide +kernel
theorem dL_law_397 : decode cL_law 397 = .ok (.iaload, 1) := by decide +kernel
theorem dL_law_398 : decode cL_law 398 = .ok (.aload_n 0, 1) := by decide +kernel
theorem dL_law_399 : decode cL_law 399 = .ok (.iload 4, 2) := by decide +kernel
theorem dL_law_401 : decode cL_law 401 = .ok (.iconst 3, 1) := by decide +kernel
theorem dL_law_402 : decode cL_law 402 = .ok (.iadd, 1) := by decide +kernel
theorem dL_law_403 : decode cL_law 403 = .ok (.iaload, 1) := by decide +kernel
theorem dL_law_404 : decode cL_law 404 = .ok (.aload_n 0, 1) := by decide +kernel
theorem dL_law_405 : decode cL_law 405 = .ok (.iload 4, 2) := by decide +kernel
theorem dL_law_407 : decode cL_law 407 = .ok (.iconst 4, 1) := by decide +kernel
theorem dL_law_408 : decode cL_law 408 = .ok (.iadd, 1) := by decide +kernel
theorem dL_law_409 : decode cL_law 409 = .ok (.iaload, 1) := by decide +kernel
theorem dL_law_410 : decode cL_law 410 = .ok (.aload_n 0, 1) := by decide +kernel
theorem dL_law_411 : decode cL_law 411 = .ok (.iload 4, 2) := by decide +kernel
theorem dL_law_413 : decode cL_law 413 = .ok (.iconst 5, 1) := by decide +kernel
theorem dL_law_414 : decode cL_law 414 = .ok (.iadd, 1) := by decide +kernel
theorem dL_law_415 : decode cL_law 415 = .ok (.iaload, 1) := by decide +kernel
theorem dL_law_416 : decode cL_law 416 = .ok (.invokevirtual 41, 3) := by decide +kernel
theorem dL_law_419 : decode cL_law 419 = .ok (.if_icmp .eq 958, 3) := by decide +kernel
theorem dL_law_422 : decode cL_law 422 = .ok (.iconst 0, 1) := by decide +kernel
theorem dL_law_423 : decode cL_law 423 = .ok (.ireturn, 1) := by decide +kernel
theorem dL_law_424 : decode cL_law 424 = .ok (.aload_n 1, 1) := by decide +kernel
theorem dL_law_425 : decode cL_law 425 = .ok (.aload_n 0, 1) := by decide +kernel
theorem dL_law_426 : decode cL_law 426 = .ok (.iload 4, 2) := by decide +kernel
theorem dL_law_428 : decode cL_law 428 = .ok (.iconst 1, 1) := by decide +kernel
theorem dL_law_429 : decode cL_law 429 = .ok (.iadd, 1) := by decide +kernel
theorem dL_law_430 : decode cL_law 430 = .ok (.iaload, 1) := by decide +kernel
theorem dL_law_431 : decode cL_law 431 = .ok (.aload_n 0, 1) := by decide +kernel
theorem dL_law_432 : decode cL_law 432 = .ok (.iload 4, 2) := by decide +kernel
theorem dL_law_434 : decode cL_law 434 = .ok (.iconst 2, 1) := by decide +kernel
theorem dL_law_435 : decode cL_law 435 = .ok (.iadd, 1) := by decide +kernel
theorem dL_law_436 : decode cL_law 436 = .ok (.iaload, 1) := by decide +kernel
theorem dL_law_437 : decode cL_law 437 = .ok (.aload_n 3, 1) := by decide +kernel
theorem dL_law_438 : decode cL_law 438 = .ok (.invokestatic 42, 3) := by decide +kernel
theorem dL_law_441 : decode cL_law 441 = .ok (.istore 5, 2) := by decide +kernel
theorem dL_law_443 : decode cL_law 443 = .ok (.aload_n 2, 1) := by decide +kernel
theorem dL_law_444 : decode cL_law 444 = .ok (.aload_n 0, 1) := by decide +kernel
theorem dL_law_445 : decode cL_law 445 = .ok (.iload 4, 2) := by decide +kernel
theorem dL_law_447 : decode cL_law 447 = .ok (.iconst 1, 1) := by decide +kernel
theorem dL_law_448 : decode cL_law 448 = .ok (.iadd, 1) := by decide +kernel
theorem dL_law_449 : decode cL_law 449 = .ok (.iaload, 1) := by decide +kernel
theorem dL_law_450 : decode cL_law 450 = .ok (.aload_n 0, 1) := by decide +kernel
theorem dL_law_451 : decode cL_law 451 = .ok (.iload 4, 2) := by decide +kernel
theorem dL_law_453 : decode cL_law 453 = .ok (.iconst 2, 1) := by decide +kernel
theorem dL_law_454 : decode cL_law 454 = .ok (.iadd, 1) := by decide +kernel
theorem dL_law_455 : decode cL_law 455 = .ok (.iaload, 1) := by decide +kernel
theorem dL_law_456 : decode cL_law 456 = .ok (.invokevirtual 47, 3) := by decide +kernel
theorem dL_law_459 : decode cL_law 459 = .ok (.istore 6, 2) := by decide +kernel
theorem dL_law_461 : decode cL_law 461 = .ok (.aload_n 2, 1) := by decide +kernel
theorem dL_law_462 : decode cL_law 462 = .ok (.invokevirtual 48, 3) := by decide +kernel
theorem dL_law_465 : decode cL_law 465 = .ok (.iload 5, 2) := by decide +kernel
theorem dL_law_467 : decode cL_law 467 = .ok (.if_icmp .eq 5, 3) := by decide +kernel
theorem dL_law_470 : decode cL_law 470 = .ok (.iconst 0, 1) := by decide +kernel
theorem dL_law_471 : decode cL_law 471 = .ok (.ireturn, 1) := by decide +kernel
theorem dL_law_472 : decode cL_law 472 = .ok (.iload 5, 2) := by decide +kernel
theorem dL_law_474 : decode cL_law 474 = .ok (.ifCond .ne 15, 3) := by decide +kernel
theorem dL_law_477 : decode cL_law 477 = .ok (.aload_n 3, 1) := by decide +kernel
theorem dL_law_478 : decode cL_law 478 = .ok (.iconst 0, 1) := by decide +kernel
theorem dL_law_479 : decode cL_law 479 = .ok (.laload, 1) := by decide +kernel
theorem dL_law_480 : decode cL_law 480 = .ok (.iload 6, 2) := by decide +kernel
theorem dL_law_482 : decode cL_law 482 = .ok (.i2l, 1) := by decide +kernel
theorem dL_law_483 : decode cL_law 483 = .ok (.lcmp, 1) := by decide +kernel
theorem dL_law_484 : decode cL_law 484 = .ok (.ifCond .eq 5, 3) := by decide +kernel
theorem dL_law_487 : decode cL_law 487 = .ok (.iconst 0, 1) := by decide +kernel
theorem dL_law_488 : decode cL_law 488 = .ok (.ireturn, 1) := by decide +kernel
theorem dL_law_489 : decode cL_law 489 = .ok (.goto 888, 3) := by decide +kernel
theorem dL_law_492 : decode cL_law 492 = .ok (.aload_n 1, 1) := by decide +kernel
theorem dL_law_493 : decode cL_law 493 = .ok (.aload_n 0, 1) := by decide +kernel
theorem dL_law_494 : decode cL_law 494 = .ok (.iload 4, 2) := by decide +kernel
theorem dL_law_496 : decode cL_law 496 = .ok (.iconst 1, 1) := by decide +kernel
theorem dL_law_497 : decode cL_law 497 = .ok (.iadd, 1) := by decide +kernel
theorem dL_law_498 : decode cL_law 498 = .ok (.iaload, 1) := by decide +kernel
theorem dL_law_499 : decode cL_law 499 = .ok (.aload_n 0, 1) := by decide +kernel
theorem dL_law_500 : decode cL_law 500 = .ok (.iload 4, 2) := by decide +kernel
theorem dL_law_502 : decode cL_law 502 = .ok (.iconst 2, 1) := by decide +kernel
theorem dL_law_503 : decode cL_law 503 = .ok (.iadd, 1) := by decide +kernel
theorem dL_law_504 : decode cL_law 504 = .ok (.iaload, 1) := by decide +kernel
theorem dL_law_505 : decode cL_law 505 = .ok (.aload_n 0, 1) := by decide +kernel
theorem dL_law_506 : decode cL_law 506 = .ok (.iload 4, 2) := by decide +kernel
theorem dL_law_508 : decode cL_law 508 = .ok (.iconst 3, 1) := by decide +kernel
theorem dL_law_509 : decode cL_law 509 = .ok (.iadd, 1) := by decide +kernel
theorem dL_law_510 : decode cL_law 510 = .ok (.iaload, 1) := by decide +kernel
theorem dL_law_511 : decode cL_law 511 = .ok (.invokevirtual 52, 3) := by decide +kernel
theorem dL_law_514 : decode cL_law 514 = .ok (.aload_n 2, 1) := by decide +kernel
theorem dL_law_515 : decode cL_law 515 = .ok (.aload_n 0, 1) := by decide +kernel
theorem dL_law_516 : decode cL_law 516 = .ok (.iload 4, 2) := by decide +kernel
theorem dL_law_518 : decode cL_law 518 = .ok (.iconst 1, 1) := by decide +kernel
theorem dL_law_519 : decode cL_law 519 = .ok (.iadd, 1) := by decide +kernel
theorem dL_law_520 : decode cL_law 520 = .ok (.iaload, 1) := by decide +kernel
theorem dL_law_521 : decode cL_law 521 = .ok (.aload_n 0, 1) := by decide +kernel
theorem dL_law_522 : decode cL_law 522 = .ok (.iload 4, 2) := by decide +kernel
theorem dL_law_524 : decode cL_law 524 = .ok (.iconst 2, 1) := by decide +kernel
theorem dL_law_525 : decode cL_law 525 = .ok (.iadd, 1) := by decide +kernel
theorem dL_law_526 : decode cL_law 526 = .ok (.iaload, 1) := by decide +kernel
theorem dL_law_527 : decode cL_law 527 = .ok (.aload_n 0, 1) := by decide +kernel
theorem dL_law_528 : decode cL_law 528 = .ok (.iload 4, 2) := by decide +kernel
theorem dL_law_530 : decode cL_law 530 = .ok (.iconst 3, 1) := by decide +kernel
theorem dL_law_531 : decode cL_law 531 = .ok (.iadd, 1) := by decide +kernel
theorem dL_law_532 : decode cL_law 532 = .ok (.iaload, 1) := by decide +kernel
theorem dL_law_533 : decode cL_law 533 = .ok (.invokevirtual 56, 3) := by decide +kernel
theorem dL_law_536 : decode cL_law 536 = .ok (.if_icmp .eq 841, 3) := by decide +kernel
theorem dL_law_539 : decode cL_law 539 = .ok (.iconst 0, 1) := by decide +kernel
theorem dL_law_540 : decode cL_law 540 = .ok (.ireturn, 1) := by decide +kernel
theorem dL_law_541 : decode cL_law 541 = .ok (.aload_n 1, 1) := by decide +kernel
theorem dL_law_542 : decode cL_law 542 = .ok (.aload_n 0, 1) := by decide +kernel
theorem dL_law_543 : decode cL_law 543 = .ok (.iload 4, 2) := by decide +kernel
theorem dL_law_545 : decode cL_law 545 = .ok (.iconst 1, 1) := by decide +kernel
theorem dL_law_546 : decode cL_law 546 = .ok (.iadd, 1) := by decide +kernel
theorem dL_law_547 : decode cL_law 547 = .ok (.iaload, 1) := by decide +kernel
theorem dL_law_548 : decode cL_law 548 = .ok (.aload_n 0, 1) := by decide +kernel
theorem dL_law_549 : decode cL_law 549 = .ok (.iload 4, 2) := by decide +kernel
theorem dL_law_551 : decode cL_law 551 = .ok (.iconst 2, 1) := by decide +kernel
theorem dL_law_552 : decode cL_law 552 = .ok (.iadd, 1) := by decide +kernel
theorem dL_law_553 : decode cL_law 553 = .ok (.iaload, 1) := by decide +kernel
theorem dL_law_554 : decode cL_law 554 = .ok (.invokevirtual 57, 3) := by decide +kernel
theorem dL_law_557 : decode cL_law 557 = .ok (.aload_n 2, 1) := by decide +kernel
theorem dL_law_558 : decode cL_law 558 = .ok (.aload_n 0, 1) := by decide +kernel
theorem dL_law_559 : decode cL_law 559 = .ok (.iload 4, 2) := by decide +kernel
theorem dL_law_561 : decode cL_law 561 = .ok (.iconst 1, 1) := by decide +kernel
theorem dL_law_562 : decode cL_law 562 = .ok (.iadd, 1) := by decide +kernel
theorem dL_law_563 : decode cL_law 563 = .ok (.iaload, 1) := by decide +kernel
theorem dL_law_564 : decode cL_law 564 = .ok (.aload_n 0, 1) := by decide +kernel
theorem dL_law_565 : decode cL_law 565 = .ok (.iload 4, 2) := by decide +kernel
theorem dL_law_567 : decode cL_law 567 = .ok (.iconst 2, 1) := by decide +kernel
theorem dL_law_568 : decode cL_law 568 = .ok (.iadd, 1) := by decide +kernel
theorem dL_law_569 : decode cL_law 569 = .ok (.iaload, 1) := by decide +kernel
theorem dL_law_570 : decode cL_law 570 = .ok (.invokevirtual 60, 3) := by decide +kernel
theorem dL_law_573 : decode cL_law 573 = .ok (.if_icmp .eq 804, 3) := by decide +kernel
theorem dL_law_576 : decode cL_law 576 = .ok (.iconst 0, 1) := by decide +kernel
theorem dL_law_577 : decode cL_law 577 = .ok (.ireturn, 1) := by decide +kernel
theorem dL_law_578 : decode cL_law 578 = .ok (.aload_n 1, 1) := by decide +kernel
theorem dL_law_579 : decode cL_law 579 = .ok (.aload_n 0, 1) := by decide +kernel
theorem dL_law_580 : decode cL_law 580 = .ok (.iload 4, 2) := by decide +kernel
theorem dL_law_582 : decode cL_law 582 = .ok (.iconst 1, 1) := by decide +kernel
theorem dL_law_583 : decode cL_law 583 = .ok (.iadd, 1) := by decide +kernel
theorem dL_law_584 : decode cL_law 584 = .ok (.iaload, 1) := by decide +kernel
theorem dL_law_585 : decode cL_law 585 = .ok (.aload_n 0, 1) := by decide +kernel
theorem dL_law_586 : decode cL_law 586 = .ok (.iload 4, 2) := by decide +kernel
theorem dL_law_588 : decode cL_law 588 = .ok (.iconst 2, 1) := by decide +kernel
theorem dL_law_589 : decode cL_law 589 = .ok (.iadd, 1) := by decide +kernel
theorem dL_law_590 : decode cL_law 590 = .ok (.iaload, 1) := by decide +kernel
theorem dL_law_591 : decode cL_law 591 = .ok (.invokevirtual 61, 3) := by decide +kernel
theorem dL_law_594 : decode cL_law 594 = .ok (.aload_n 2, 1) := by decide +kernel
theorem dL_law_595 : decode cL_law 595 = .ok (.aload_n 0, 1) := by decide +kernel
theorem dL_law_596 : decode cL_law 596 = .ok (.iload 4, 2) := by decide +kernel
theorem dL_law_598 : decode cL_law 598 = .ok (.iconst 1, 1) := by decide +kernel
theorem dL_law_599 : decode cL_law 599 = .ok (.iadd, 1) := by decide +kernel
theorem dL_law_600 : decode cL_law 600 = .ok (.iaload, 1) := by decide +kernel
theorem dL_law_601 : decode cL_law 601 = .ok (.aload_n 0, 1) := by decide +kernel
theorem dL_law_602 : decode cL_law 602 = .ok (.iload 4, 2) := by decide +kernel
theorem dL_law_604 : decode cL_law 604 = .ok (.iconst 2, 1) := by decide +kernel
theorem dL_law_605 : decode cL_law 605 = .ok (.iadd, 1) := by decide +kernel
theorem dL_law_606 : decode cL_law 606 = .ok (.iaload, 1) := by decide +kernel
theorem dL_law_607 : decode cL_law 607 = .ok (.invokevirtual 64, 3) := by decide +kernel
theorem dL_law_610 : decode cL_law 610 = .ok (.if_icmp .eq 767, 3) := by decide +kernel
theorem dL_law_613 : decode cL_law 613 = .ok (.iconst 0, 1) := by decide +kernel
theorem dL_law_614 : decode cL_law 614 = .ok (.ireturn, 1) := by decide +kernel
theorem dL_law_615 : decode cL_law 615 = .ok (.aload_n 1, 1) := by decide +kernel
theorem dL_law_616 : decode cL_law 616 = .ok (.invokevirtual 65, 3) := by decide +kernel
theorem dL_law_619 : decode cL_law 619 = .ok (.aload_n 2, 1) := by decide +kernel
theorem dL_law_620 : decode cL_law 620 = .ok (.invokevirtual 68, 3) := by decide +kernel
theorem dL_law_623 : decode cL_law 623 = .ok (.if_icmp .eq 754, 3) := by decide +kernel
theorem dL_law_626 : decode cL_law 626 = .ok (.iconst 0, 1) := by decide +kernel
theorem dL_law_627 : decode cL_law 627 = .ok (.ireturn, 1) := by decide +kernel
theorem dL_law_628 : decode cL_law 628 = .ok (.aload_n 1, 1) := by decide +kernel
theorem dL_law_629 : decode cL_law 629 = .ok (.aload_n 0, 1) := by decide +kernel
theorem dL_law_630 : decode cL_law 630 = .ok (.iload 4, 2) := by decide +kernel
theorem dL_law_632 : decode cL_law 632 = .ok (.iconst 1, 1) := by decide +kernel
theorem dL_law_633 : decode cL_law 633 = .ok (.iadd, 1) := by decide +kernel
theorem dL_law_634 : decode cL_law 634 = .ok (.iaload, 1) := by decide +kernel
theorem dL_law_635 : decode cL_law 635 = .ok (.aload_n 0, 1) := by decide +kernel
theorem dL_law_636 : decode cL_law 636 = .ok (.iload 4, 2) := by decide +kernel
theorem dL_law_638 : decode cL_law 638 = .ok (.iconst 2, 1) := by decide +kernel
theorem dL_law_639 : decode cL_law 639 = .ok (.iadd, 1) := by decide +kernel
theorem dL_law_640 : decode cL_law 640 = .ok (.iaload, 1) := by decide +kernel
theorem dL_law_641 : decode cL_law 641 = .ok (.aload_n 0, 1) := by decide +kernel
theorem dL_law_642 : decode cL_law 642 = .ok (.iload 4, 2) := by decide +kernel
theorem dL_law_644 : decode cL_law 644 = .ok (.iconst 3, 1) := by decide +kernel
theorem dL_law_645 : decode cL_law 645 = .ok (.iadd, 1) := by decide +kernel
theorem dL_law_646 : decode cL_law 646 = .ok (.iaload, 1) := by decide +kernel
theorem dL_law_647 : decode cL_law 647 = .ok (.invokevirtual 69, 3) := by decide +kernel
theorem dL_law_650 : decode cL_law 650 = .ok (.aload_n 2, 1) := by decide +kernel
theorem dL_law_651 : decode cL_law 651 = .ok (.aload_n 0, 1) := by decide +kernel
theorem dL_law_652 : decode cL_law 652 = .ok (.iload 4, 2) := by decide +kernel
theorem dL_law_654 : decode cL_law 654 = .ok (.iconst 1, 1) := by decide +kernel
theorem dL_law_655 : decode cL_law 655 = .ok (.iadd, 1) := by decide +kernel
theorem dL_law_656 : decode cL_law 656 = .ok (.iaload, 1) := by decide +kernel
theorem dL_law_657 : decode cL_law 657 = .ok (.aload_n 0, 1) := by decide +kernel
theorem dL_law_658 : decode cL_law 658 = .ok (.iload 4, 2) := by decide +kernel
theorem dL_law_660 : decode cL_law 660 = .ok (.iconst 2, 1) := by decide +kernel
theorem dL_law_661 : decode cL_law 661 = .ok (.iadd, 1) := by decide +kernel
theorem dL_law_662 : decode cL_law 662 = .ok (.iaload, 1) := by decide +kernel
theorem dL_law_663 : decode cL_law 663 = .ok (.aload_n 0, 1) := by decide +kernel
theorem dL_law_664 : decode cL_law 664 = .ok (.iload 4, 2) := by decide +kernel
theorem dL_law_666 : decode cL_law 666 = .ok (.iconst 3, 1) := by decide +kernel
theorem dL_law_667 : decode cL_law 667 = .ok (.iadd, 1) := by decide +kernel
theorem dL_law_668 : decode cL_law 668 = .ok (.iaload, 1) := by decide +kernel
theorem dL_law_669 : decode cL_law 669 = .ok (.invokevirtual 72, 3) := by decide +kernel
theorem dL_law_672 : decode cL_law 672 = .ok (.if_icmp .eq 705, 3) := by decide +kernel
theorem dL_law_675 : decode cL_law 675 = .ok (.iconst 0, 1) := by decide +kernel
theorem dL_law_676 : decode cL_law 676 = .ok (.ireturn, 1) := by decide +kernel
theorem dL_law_677 : decode cL_law 677 = .ok (.aload_n 1, 1) := by decide +kernel
theorem dL_law_678 : decode cL_law 678 = .ok (.aload_n 0, 1) := by decide +kernel
theorem dL_law_679 : decode cL_law 679 = .ok (.iload 4, 2) := by decide +kernel
theorem dL_law_681 : decode cL_law 681 = .ok (.iconst 1, 1) := by decide +kernel
theorem dL_law_682 : decode cL_law 682 = .ok (.iadd, 1) := by decide +kernel
theorem dL_law_683 : decode cL_law 683 = .ok (.iaload, 1) := by decide +kernel
theorem dL_law_684 : decode cL_law 684 = .ok (.aload_n 0, 1) := by decide +kernel
theorem dL_law_685 : decode cL_law 685 = .ok (.iload 4, 2) := by decide +kernel
theorem dL_law_687 : decode cL_law 687 = .ok (.iconst 2, 1) := by decide +kernel
theorem dL_law_688 : decode cL_law 688 = .ok (.iadd, 1) := by decide +kernel
theorem dL_law_689 : decode cL_law 689 = .ok (.iaload, 1) := by decide +kernel
theorem dL_law_690 : decode cL_law 690 = .ok (.aload_n 0, 1) := by decide +kernel
theorem dL_law_691 : decode cL_law 691 = .ok (.iload 4, 2) := by decide +kernel
theorem dL_law_693 : decode cL_law 693 = .ok (.iconst 3, 1) := by decide +kernel
theorem dL_law_694 : decode cL_law 694 = .ok (.iadd, 1) := by decide +kernel
theorem dL_law_695 : decode cL_law 695 = .ok (.iaload, 1) := by decide +kernel
theorem dL_law_696 : decode cL_law 696 = .ok (.aload_n 0, 1) := by decide +kernel
theorem dL_law_697 : decode cL_law 697 = .ok (.iload 4, 2) := by decide +kernel
theorem dL_law_699 : decode cL_law 699 = .ok (.iconst 4, 1) := by decide +kernel
theorem dL_law_700 : decode cL_law 700 = .ok (.iadd, 1) := by decide +kernel
theorem dL_law_701 : decode cL_law 701 = .ok (.iaload, 1) := by decide +kernel
theorem dL_law_702 : decode cL_law 702 = .ok (.invokevirtual 73, 3) := by decide +kernel
theorem dL_law_705 : decode cL_law 705 = .ok (.aload_n 2, 1) := by decide +kernel
theorem dL_law_706 : decode cL_law 706 = .ok (.aload_n 0, 1) := by decide +kernel
theorem dL_law_707 : decode cL_law 707 = .ok (.iload 4, 2) := by decide +kernel
theorem dL_law_709 : decode cL_law 709 = .ok (.iconst 1, 1) := by decide +kernel
theorem dL_law_710 : decode cL_law 710 = .ok (.iadd, 1) := by decide +kernel
theorem dL_law_711 : decode cL_law 711 = .ok (.iaload, 1) := by decide +kernel
theorem dL_law_712 : decode cL_law 712 = .ok (.aload_n 0, 1) := by decide +kernel
theorem dL_law_713 : decode cL_law 713 = .ok (.iload 4, 2) := by decide +kernel
theorem dL_law_715 : decode cL_law 715 = .ok (.iconst 2, 1) := by decide +kernel
theorem dL_law_716 : decode cL_law 716 = .ok (.iadd, 1) := by decide +kernel
theorem dL_law_717 : decode cL_law 717 = .ok (.iaload, 1) := by decide +kernel
theorem dL_law_718 : decode cL_law 718 = .ok (.aload_n 0, 1) := by decide +kernel
theorem dL_law_719 : decode cL_law 719 = .ok (.iload 4, 2) := by decide +kernel
theorem dL_law_721 : decode cL_law 721 = .ok (.iconst 3, 1) := by decide +kernel
theorem dL_law_722 : decode cL_law 722 = .ok (.iadd, 1) := by decide +kernel
theorem dL_law_723 : decode cL_law 723 = .ok (.iaload, 1) := by decide +kernel
theorem dL_law_724 : decode cL_law 724 = .ok (.aload_n 0, 1) := by decide +kernel
theorem dL_law_725 : decode cL_law 725 = .ok (.iload 4, 2) := by decide +kernel
theorem dL_law_727 : decode cL_law 727 = .ok (.iconst 4, 1) := by decide +kernel
theorem dL_law_728 : decode cL_law 728 = .ok (.iadd, 1) := by decide +kernel
theorem dL_law_729 : decode cL_law 729 = .ok (.iaload, 1) := by decide +kernel
theorem dL_law_730 : decode cL_law 730 = .ok (.invokevirtual 77, 3) := by decide +kernel
theorem dL_law_733 : decode cL_law 733 = .ok (.if_icmp .eq 644, 3) := by decide +kernel
theorem dL_law_736 : decode cL_law 736 = .ok (.iconst 0, 1) := by decide +kernel
theorem dL_law_737 : decode cL_law 737 = .ok (.ireturn, 1) := by decide +kernel
theorem dL_law_738 : decode cL_law 738 = .ok (.aload_n 1, 1) := by decide +kernel
theorem dL_law_739 : decode cL_law 739 = .ok (.aload_n 0, 1) := by decide +kernel
theorem dL_law_740 : decode cL_law 740 = .ok (.iload 4, 2) := by decide +kernel
theorem dL_law_742 : decode cL_law 742 = .ok (.iconst 1, 1) := by decide +kernel
theorem dL_law_743 : decode cL_law 743 = .ok (.iadd, 1) := by decide +kernel
theorem dL_law_744 : decode cL_law 744 = .ok (.iaload, 1) := by decide +kernel
theorem dL_law_745 : decode cL_law 745 = .ok (.aload_n 0, 1) := by decide +kernel
theorem dL_law_746 : decode cL_law 746 = .ok (.iload 4, 2) := by decide +kernel
theorem dL_law_748 : decode cL_law 748 = .ok (.iconst 2, 1) := by decide +kernel
theorem dL_law_749 : decode cL_law 749 = .ok (.iadd, 1) := by decide +kernel
theorem dL_law_750 : decode cL_law 750 = .ok (.iaload, 1) := by decide +kernel
theorem dL_law_751 : decode cL_law 751 = .ok (.aload_n 0, 1) := by decide +kernel
theorem dL_law_752 : decode cL_law 752 = .ok (.iload 4, 2) := by decide +kernel
theorem dL_law_754 : decode cL_law 754 = .ok (.iconst 3, 1) := by decide +kernel
theorem dL_law_755 : decode cL_law 755 = .ok (.iadd, 1) := by decide +kernel
theorem dL_law_756 : decode cL_law 756 = .ok (.iaload, 1) := by decide +kernel
theorem dL_law_757 : decode cL_law 757 = .ok (.aload_n 0, 1) := by decide +kernel
theorem dL_law_758 : decode cL_law 758 = .ok (.iload 4, 2) := by decide +kernel
theorem dL_law_760 : decode cL_law 760 = .ok (.iconst 4, 1) := by decide +kernel
theorem dL_law_761 : decode cL_law 761 = .ok (.iadd, 1) := by decide +kernel
theorem dL_law_762 : decode cL_law 762 = .ok (.iaload, 1) := by decide +kernel
theorem dL_law_763 : decode cL_law 763 = .ok (.aload_n 0, 1) := by decide +kernel
theorem dL_law_764 : decode cL_law 764 = .ok (.iload 4, 2) := by decide +kernel
theorem dL_law_766 : decode cL_law 766 = .ok (.iconst 5, 1) := by decide +kernel
theorem dL_law_767 : decode cL_law 767 = .ok (.iadd, 1) := by decide +kernel
theorem dL_law_768 : decode cL_law 768 = .ok (.iaload, 1) := by decide +kernel
theorem dL_law_769 : decode cL_law 769 = .ok (.invokevirtual 78, 3) := by decide +kernel
theorem dL_law_772 : decode cL_law 772 = .ok (.aload_n 2, 1) := by decide +kernel
theorem dL_law_773 : decode cL_law 773 = .ok (.aload_n 0, 1) := by decide +kernel
theorem dL_law_774 : decode cL_law 774 = .ok (.iload 4, 2) := by decide +kernel
theorem dL_law_776 : decode cL_law 776 = .ok (.iconst 1, 1) := by decide +kernel
theorem dL_law_777 : decode cL_law 777 = .ok (.iadd, 1) := by decide +kernel
theorem dL_law_778 : decode cL_law 778 = .ok (.iaload, 1) := by decide +kernel
theorem dL_law_779 : decode cL_law 779 = .ok (.aload_n 0, 1) := by decide +kernel
theorem dL_law_780 : decode cL_law 780 = .ok (.iload 4, 2) := by decide +kernel
theorem dL_law_782 : decode cL_law 782 = .ok (.iconst 2, 1) := by decide +kernel
theorem dL_law_783 : decode cL_law 783 = .ok (.iadd, 1) := by decide +kernel
theorem dL_law_784 : decode cL_law 784 = .ok (.iaload, 1) := by decide +kernel
theorem dL_law_785 : decode cL_law 785 = .ok (.aload_n 0, 1) := by decide +kernel
theorem dL_law_786 : decode cL_law 786 = .ok (.iload 4, 2) := by decide +kernel
theorem dL_law_788 : decode cL_law 788 = .ok (.iconst 3, 1) := by decide +kernel
theorem dL_law_789 : decode cL_law 789 = .ok (.iadd, 1) := by decide +kernel
theorem dL_law_790 : decode cL_law 790 = .ok (.iaload, 1) := by decide +kernel
theorem dL_law_791 : decode cL_law 791 = .ok (.aload_n 0, 1) := by decide +kernel
theorem dL_law_792 : decode cL_law 792 = .ok (.iload 4, 2) := by decide +kernel
theorem dL_law_794 : decode cL_law 794 = .ok (.iconst 4, 1) := by decide +kernel
theorem dL_law_795 : decode cL_law 795 = .ok (.iadd, 1) := by decide +kernel
theorem dL_law_796 : decode cL_law 796 = .ok (.iaload, 1) := by decide +kernel
theorem dL_law_797 : decode cL_law 797 = .ok (.aload_n 0, 1) := by decide +kernel
theorem dL_law_798 : decode cL_law 798 = .ok (.iload 4, 2) := by decide +kernel
theorem dL_law_800 : decode cL_law 800 = .ok (.iconst 5, 1) := by decide +kernel
theorem dL_law_801 : decode cL_law 801 = .ok (.iadd, 1) := by decide +kernel
theorem dL_law_802 : decode cL_law 802 = .ok (.iaload, 1) := by decide +kernel
theorem dL_law_803 : decode cL_law 803 = .ok (.invokevirtual 81, 3) := by decide +kernel
theorem dL_law_806 : decode cL_law 806 = .ok (.if_icmp .eq 571, 3) := by decide +kernel
theorem dL_law_809 : decode cL_law 809 = .ok (.iconst 0, 1) := by decide +kernel
theorem dL_law_810 : decode cL_law 810 = .ok (.ireturn, 1) := by decide +kernel
theorem dL_law_811 : decode cL_law 811 = .ok (.aload_n 1, 1) := by decide +kernel
theorem dL_law_812 : decode cL_law 812 = .ok (.aload_n 0, 1) := by decide +kernel
theorem dL_law_813 : decode cL_law 813 = .ok (.iload 4, 2) := by decide +kernel
theorem dL_law_815 : decode cL_law 815 = .ok (.iconst 1, 1) := by decide +kernel
theorem dL_law_816 : decode cL_law 816 = .ok (.iadd, 1) := by decide +kernel
theorem dL_law_817 : decode cL_law 817 = .ok (.iaload, 1) := by decide +kernel
theorem dL_law_818 : decode cL_law 818 = .ok (.invokevirtual 82, 3) := by decide +kernel
theorem dL_law_821 : decode cL_law 821 = .ok (.aload_n 2, 1) := by decide +kernel
theorem dL_law_822 : decode cL_law 822 = .ok (.aload_n 0, 1) := by decide +kernel
theorem dL_law_823 : decode cL_law 823 = .ok (.iload 4, 2) := by decide +kernel
theorem dL_law_825 : decode cL_law 825 = .ok (.iconst 1, 1) := by decide +kernel
theorem dL_law_826 : decode cL_law 826 = .ok (.iadd, 1) := by decide +kernel
theorem dL_law_827 : decode cL_law 827 = .ok (.iaload, 1) := by decide +kernel
theorem dL_law_828 : decode cL_law 828 = .ok (.invokevirtual 86, 3) := by decide +kernel
theorem dL_law_831 : decode cL_law 831 = .ok (.if_icmp .eq 546, 3) := by decide +kernel
theorem dL_law_834 : decode cL_law 834 = .ok (.iconst 0, 1) := by decide +kernel
theorem dL_law_835 : decode cL_law 835 = .ok (.ireturn, 1) := by decide +kernel
theorem dL_law_836 : decode cL_law 836 = .ok (.aload_n 1, 1) := by decide +kernel
theorem dL_law_837 : decode cL_law 837 = .ok (.invokevirtual 87, 3) := by decide +kernel
theorem dL_law_840 : decode cL_law 840 = .ok (.aload_n 2, 1) := by decide +kernel
theorem dL_law_841 : decode cL_law 841 = .ok (.invokevirtual 90, 3) := by decide +kernel
theorem dL_law_844 : decode cL_law 844 = .ok (.if_icmp .eq 533, 3) := by decide +kernel
theorem dL_law_847 : decode cL_law 847 = .ok (.iconst 0, 1) := by decide +kernel
theorem dL_law_848 : decode cL_law 848 = .ok (.ireturn, 1) := by decide +kernel
theorem dL_law_849 : decode cL_law 849 = .ok (.aload_n 1, 1) := by decide +kernel
theorem dL_law_850 : decode cL_law 850 = .ok (.invokevirtual 91, 3) := by decide +kernel
theorem dL_law_853 : decode cL_law 853 = .ok (.aload_n 2, 1) := by decide +kernel
theorem dL_law_854 : decode cL_law 854 = .ok (.invokevirtual 94, 3) := by decide +kernel
theorem dL_law_857 : decode cL_law 857 = .ok (.if_icmp .eq 520, 3) := by decide +kernel
theorem dL_law_860 : decode cL_law 860 = .ok (.iconst 0, 1) := by decide +kernel
theorem dL_law_861 : decode cL_law 861 = .ok (.ireturn, 1) := by decide +kernel
theorem dL_law_862 : decode cL_law 862 = .ok (.aload_n 1, 1) := by decide +kernel
theorem dL_law_863 : decode cL_law 863 = .ok (.aload_n 0, 1) := by decide +kernel
theorem dL_law_864 : decode cL_law 864 = .ok (.iload 4, 2) := by decide +kernel
theorem dL_law_866 : decode cL_law 866 = .ok (.iconst 1, 1) := by decide +kernel
theorem dL_law_867 : decode cL_law 867 = .ok (.iadd, 1) := by decide +kernel
theorem dL_law_868 : decode cL_law 868 = .ok (.iaload, 1) := by decide +kernel
theorem dL_law_869 : decode cL_law 869 = .ok (.invokevirtual 95, 3) := by decide +kernel
theorem dL_law_872 : decode cL_law 872 = .ok (.aload_n 2, 1) := by decide +kernel
theorem dL_law_873 : decode cL_law 873 = .ok (.aload_n 0, 1) := by decide +kernel
theorem dL_law_874 : decode cL_law 874 = .ok (.iload 4, 2) := by decide +kernel
theorem dL_law_876 : decode cL_law 876 = .ok (.iconst 1, 1) := by decide +kernel
theorem dL_law_877 : decode cL_law 877 = .ok (.iadd, 1) := by decide +kernel
theorem dL_law_878 : decode cL_law 878 = .ok (.iaload, 1) := by decide +kernel
theorem dL_law_879 : decode cL_law 879 = .ok (.invokevirtual 98, 3) := by decide +kernel
theorem dL_law_882 : decode cL_law 882 = .ok (.if_icmp .eq 495, 3) := by decide +kernel
theorem dL_law_885 : decode cL_law 885 = .ok (.iconst 0, 1) := by decide +kernel
theorem dL_law_886 : decode cL_law 886 = .ok (.ireturn, 1) := by decide +kernel
theorem dL_law_887 : decode cL_law 887 = .ok (.aload_n 1, 1) := by decide +kernel
theorem dL_law_888 : decode cL_law 888 = .ok (.invokevirtual 99, 3) := by decide +kernel
theorem dL_law_891 : decode cL_law 891 = .ok (.aload_n 2, 1) := by decide +kernel
theorem dL_law_892 : decode cL_law 892 = .ok (.invokevirtual 103, 3) := by decide +kernel
theorem dL_law_895 : decode cL_law 895 = .ok (.if_icmp .eq 482, 3) := by decide +kernel
theorem dL_law_898 : decode cL_law 898 = .ok (.iconst 0, 1) := by decide +kernel
theorem dL_law_899 : decode cL_law 899 = .ok (.ireturn, 1) := by decide +kernel
theorem dL_law_900 : decode cL_law 900 = .ok (.aload_n 1, 1) := by decide +kernel
theorem dL_law_901 : decode cL_law 901 = .ok (.aload_n 0, 1) := by decide +kernel
theorem dL_law_902 : decode cL_law 902 = .ok (.iload 4, 2) := by decide +kernel
theorem dL_law_904 : decode cL_law 904 = .ok (.iconst 1, 1) := by decide +kernel
theorem dL_law_905 : decode cL_law 905 = .ok (.iadd, 1) := by decide +kernel
theorem dL_law_906 : decode cL_law 906 = .ok (.iaload, 1) := by decide +kernel
theorem dL_law_907 : decode cL_law 907 = .ok (.invokevirtual 104, 3) := by decide +kernel
theorem dL_law_910 : decode cL_law 910 = .ok (.aload_n 2, 1) := by decide +kernel
theorem dL_law_911 : decode cL_law 911 = .ok (.aload_n 0, 1) := by decide +kernel
theorem dL_law_912 : decode cL_law 912 = .ok (.iload 4, 2) := by decide +kernel
theorem dL_law_914 : decode cL_law 914 = .ok (.iconst 1, 1) := by decide +kernel
theorem dL_law_915 : decode cL_law 915 = .ok (.iadd, 1) := by decide +kernel
theorem dL_law_916 : decode cL_law 916 = .ok (.iaload, 1) := by decide +kernel
theorem dL_law_917 : decode cL_law 917 = .ok (.invokevirtual 107, 3) := by decide +kernel
theorem dL_law_920 : decode cL_law 920 = .ok (.if_icmp .eq 457, 3) := by decide +kernel
theorem dL_law_923 : decode cL_law 923 = .ok (.iconst 0, 1) := by decide +kernel
theorem dL_law_924 : decode cL_law 924 = .ok (.ireturn, 1) := by decide +kernel
theorem dL_law_925 : decode cL_law 925 = .ok (.aload_n 1, 1) := by decide +kernel
theorem dL_law_926 : decode cL_law 926 = .ok (.aload_n 0, 1) := by decide +kernel
theorem dL_law_927 : decode cL_law 927 = .ok (.iload 4, 2) := by decide +kernel
theorem dL_law_929 : decode cL_law 929 = .ok (.iconst 1, 1) := by decide +kernel
theorem dL_law_930 : decode cL_law 930 = .ok (.iadd, 1) := by decide +kernel
theorem dL_law_931 : decode cL_law 931 = .ok (.iaload, 1) := by decide +kernel
theorem dL_law_932 : decode cL_law 932 = .ok (.invokevirtual 108, 3) := by decide +kernel
theorem dL_law_935 : decode cL_law 935 = .ok (.aload_n 2, 1) := by decide +kernel
theorem dL_law_936 : decode cL_law 936 = .ok (.aload_n 0, 1) := by decide +kernel
theorem dL_law_937 : decode cL_law 937 = .ok (.iload 4, 2) := by decide +kernel
theorem dL_law_939 : decode cL_law 939 = .ok (.iconst 1, 1) := by decide +kernel
theorem dL_law_940 : decode cL_law 940 = .ok (.iadd, 1) := by decide +kernel
theorem dL_law_941 : decode cL_law 941 = .ok (.iaload, 1) := by decide +kernel
theorem dL_law_942 : decode cL_law 942 = .ok (.invokevirtual 111, 3) := by decide +kernel
theorem dL_law_945 : decode cL_law 945 = .ok (.if_icmp .eq 432, 3) := by decide +kernel
theorem dL_law_948 : decode cL_law 948 = .ok (.iconst 0, 1) := by decide +kernel
theorem dL_law_949 : decode cL_law 949 = .ok (.ireturn, 1) := by decide +kernel
theorem dL_law_950 : decode cL_law 950 = .ok (.aload_n 1, 1) := by decide +kernel
theorem dL_law_951 : decode cL_law 951 = .ok (.invokevirtual 112, 3) := by decide +kernel
theorem dL_law_954 : decode cL_law 954 = .ok (.aload_n 2, 1) := by decide +kernel
theorem dL_law_955 : decode cL_law 955 = .ok (.invokevirtual 115, 3) := by decide +kernel
theorem dL_law_958 : decode cL_law 958 = .ok (.if_icmp .eq 419, 3) := by decide +kernel
theorem dL_law_961 : decode cL_law 961 = .ok (.iconst 0, 1) := by decide +kernel
theorem dL_law_962 : decode cL_law 962 = .ok (.ireturn, 1) := by decide +kernel
theorem dL_law_963 : decode cL_law 963 = .ok (.aload_n 1, 1) := by decide +kernel
theorem dL_law_964 : decode cL_law 964 = .ok (.invokevirtual 116, 3) := by decide +kernel
theorem dL_law_967 : decode cL_law 967 = .ok (.aload_n 2, 1) := by decide +kernel
theorem dL_law_968 : decode cL_law 968 = .ok (.invokevirtual 119, 3) := by decide +kernel
theorem dL_law_971 : decode cL_law 971 = .ok (.if_icmp .eq 406, 3) := by decide +kernel
theorem dL_law_974 : decode cL_law 974 = .ok (.iconst 0, 1) := by decide +kernel
theorem dL_law_975 : decode cL_law 975 = .ok (.ireturn, 1) := by decide +kernel
theorem dL_law_976 : decode cL_law 976 = .ok (.aload_n 1, 1) := by decide +kernel
theorem dL_law_977 : decode cL_law 977 = .ok (.aload_n 0, 1) := by decide +kernel
theorem dL_law_978 : decode cL_law 978 = .ok (.iload 4, 2) := by decide +kernel
theorem dL_law_980 : decode cL_law 980 = .ok (.iconst 1, 1) := by decide +kernel
theorem dL_law_981 : decode cL_law 981 = .ok (.iadd, 1) := by decide +kernel
theorem dL_law_982 : decode cL_law 982 = .ok (.iaload, 1) := by decide +kernel
theorem dL_law_983 : decode cL_law 983 = .ok (.aload_n 0, 1) := by decide +kernel
theorem dL_law_984 : decode cL_law 984 = .ok (.iload 4, 2) := by decide +kernel
theorem dL_law_986 : decode cL_law 986 = .ok (.iconst 2, 1) := by decide +kernel
theorem dL_law_987 : decode cL_law 987 = .ok (.iadd, 1) := by decide +kernel
theorem dL_law_988 : decode cL_law 988 = .ok (.iaload, 1) := by decide +kernel
theorem dL_law_989 : decode cL_law 989 = .ok (.invokevirtual 120, 3) := by decide +kernel
theorem dL_law_992 : decode cL_law 992 = .ok (.aload_n 2, 1) := by decide +kernel
theorem dL_law_993 : decode cL_law 993 = .ok (.aload_n 0, 1) := by decide +kernel
theorem dL_law_994 : decode cL_law 994 = .ok (.iload 4, 2) := by decide +kernel
theorem dL_law_996 : decode cL_law 996 = .ok (.iconst 1, 1) := by decide +kernel
theorem dL_law_997 : decode cL_law 997 = .ok (.iadd, 1) := by decide +kernel
theorem dL_law_998 : decode cL_law 998 = .ok (.iaload, 1) := by decide +kernel
theorem dL_law_999 : decode cL_law 999 = .ok (.aload_n 0, 1) := by decide +kernel
theorem dL_law_1000 : decode cL_law 1000 = .ok (.iload 4, 2) := by decide +kernel
theorem dL_law_1002 : decode cL_law 1002 = .ok (.iconst 2, 1) := by decide +kernel
theorem dL_law_1003 : decode cL_law 1003 = .ok (.iadd, 1) := by decide +kernel
theorem dL_law_1004 : decode cL_law 1004 = .ok (.iaload, 1) := by decide +kernel
theorem dL_law_1005 : decode cL_law 1005 = .ok (.invokevirtual 123, 3) := by decide +kernel
theorem dL_law_1008 : decode cL_law 1008 = .ok (.if_icmp .eq 369, 3) := by decide +kernel
theorem dL_law_1011 : decode cL_law 1011 = .ok (.iconst 0, 1) := by decide +kernel
theorem dL_law_1012 : decode cL_law 1012 = .ok (.ireturn, 1) := by decide +kernel
theorem dL_law_1013 : decode cL_law 1013 = .ok (.aload_n 1, 1) := by decide +kernel
theorem dL_law_1014 : decode cL_law 1014 = .ok (.aload_n 0, 1) := by decide +kernel
theorem dL_law_1015 : decode cL_law 1015 = .ok (.iload 4, 2) := by decide +kernel
theorem dL_law_1017 : decode cL_law 1017 = .ok (.iconst 1, 1) := by decide +kernel
theorem dL_law_1018 : decode cL_law 1018 = .ok (.iadd, 1) := by decide +kernel
theorem dL_law_1019 : decode cL_law 1019 = .ok (.iaload, 1) := by decide +kernel
theorem dL_law_1020 : decode cL_law 1020 = .ok (.aload_n 0, 1) := by decide +kernel
theorem dL_law_1021 : decode cL_law 1021 = .ok (.iload 4, 2) := by decide +kernel
theorem dL_law_1023 : decode cL_law 1023 = .ok (.iconst 2, 1) := by decide +kernel
theorem dL_law_1024 : decode cL_law 1024 = .ok (.iadd, 1) := by decide +kernel
theorem dL_law_1025 : decode cL_law 1025 = .ok (.iaload, 1) := by decide +kernel
theorem dL_law_1026 : decode cL_law 1026 = .ok (.aload_n 0, 1) := by decide +kernel
theorem dL_law_1027 : decode cL_law 1027 = .ok (.iload 4, 2) := by decide +kernel
theorem dL_law_1029 : decode cL_law 1029 = .ok (.iconst 3, 1) := by decide +kernel
theorem dL_law_1030 : decode cL_law 1030 = .ok (.iadd, 1) := by decide +kernel
theorem dL_law_1031 : decode cL_law 1031 = .ok (.iaload, 1) := by decide +kernel
theorem dL_law_1032 : decode cL_law 1032 = .ok (.invokevirtual 124, 3) := by decide +kernel
theorem dL_law_1035 : decode cL_law 1035 = .ok (.aload_n 2, 1) := by decide +kernel
theorem dL_law_1036 : decode cL_law 1036 = .ok (.aload_n 0, 1) := by decide +kernel
theorem dL_law_1037 : decode cL_law 1037 = .ok (.iload 4, 2) := by decide +kernel
theorem dL_law_1039 : decode cL_law 1039 = .ok (.iconst 1, 1) := by decide +kernel
theorem dL_law_1040 : decode cL_law 1040 = .ok (.iadd, 1) := by decide +kernel
theorem dL_law_1041 : decode cL_law 1041 = .ok (.iaload, 1) := by decide +kernel
theorem dL_law_1042 : decode cL_law 1042 = .ok (.aload_n 0, 1) := by decide +kernel
theorem dL_law_1043 : decode cL_law 1043 = .ok (.iload 4, 2) := by decide +kernel
theorem dL_law_1045 : decode cL_law 1045 = .ok (.iconst 2, 1) := by decide +kernel
theorem dL_law_1046 : decode cL_law 1046 = .ok (.iadd, 1) := by decide +kernel
theorem dL_law_1047 : decode cL_law 1047 = .ok (.iaload, 1) := by decide +kernel
theorem dL_law_1048 : decode cL_law 1048 = .ok (.aload_n 0, 1) := by decide +kernel
theorem dL_law_1049 : decode cL_law 1049 = .ok (.iload 4, 2) := by decide +kernel
theorem dL_law_1051 : decode cL_law 1051 = .ok (.iconst 3, 1) := by decide +kernel
theorem dL_law_1052 : decode cL_law 1052 = .ok (.iadd, 1) := by decide +kernel
theorem dL_law_1053 : decode cL_law 1053 = .ok (.iaload, 1) := by decide +kernel
theorem dL_law_1054 : decode cL_law 1054 = .ok (.invokevirtual 128, 3) := by decide +kernel
theorem dL_law_1057 : decode cL_law 1057 = .ok (.if_icmp .eq 320, 3) := by decide +kernel
theorem dL_law_1060 : decode cL_law 1060 = .ok (.iconst 0, 1) := by decide +kernel
theorem dL_law_1061 : decode cL_law 1061 = .ok (.ireturn, 1) := by decide +kernel
theorem dL_law_1062 : decode cL_law 1062 = .ok (.aload_n 1, 1) := by decide +kernel
theorem dL_law_1063 : decode cL_law 1063 = .ok (.aload_n 0, 1) := by decide +kernel
theorem dL_law_1064 : decode cL_law 1064 = .ok (.iload 4, 2) := by decide +kernel
theorem dL_law_1066 : decode cL_law 1066 = .ok (.iconst 1, 1) := by decide +kernel
theorem dL_law_1067 : decode cL_law 1067 = .ok (.iadd, 1) := by decide +kernel
theorem dL_law_1068 : decode cL_law 1068 = .ok (.iaload, 1) := by decide +kernel
theorem dL_law_1069 : decode cL_law 1069 = .ok (.aload_n 0, 1) := by decide +kernel
theorem dL_law_1070 : decode cL_law 1070 = .ok (.iload 4, 2) := by decide +kernel
theorem dL_law_1072 : decode cL_law 1072 = .ok (.iconst 2, 1) := by decide +kernel
theorem dL_law_1073 : decode cL_law 1073 = .ok (.iadd, 1) := by decide +kernel
theorem dL_law_1074 : decode cL_law 1074 = .ok (.iaload, 1) := by decide +kernel
theorem dL_law_1075 : decode cL_law 1075 = .ok (.aload_n 0, 1) := by decide +kernel
theorem dL_law_1076 : decode cL_law 1076 = .ok (.iload 4, 2) := by decide +kernel
theorem dL_law_1078 : decode cL_law 1078 = .ok (.iconst 3, 1) := by decide +kernel
theorem dL_law_1079 : decode cL_law 1079 = .ok (.iadd, 1) := by decide +kernel
theorem dL_law_1080 : decode cL_law 1080 = .ok (.iaload, 1) := by decide +kernel
theorem dL_law_1081 : decode cL_law 1081 = .ok (.invokevirtual 129, 3) := by decide +kernel
theorem dL_law_1084 : decode cL_law 1084 = .ok (.aload_n 2, 1) := by decide +kernel
theorem dL_law_1085 : decode cL_law 1085 = .ok (.aload_n 0, 1) := by decide +kernel
theorem dL_law_1086 : decode cL_law 1086 = .ok (.iload 4, 2) := by decide +kernel
theorem dL_law_1088 : decode cL_law 1088 = .ok (.iconst 1, 1) := by decide +kernel
theorem dL_law_1089 : decode cL_law 1089 = .ok (.iadd, 1) := by decide +kernel
theorem dL_law_1090 : decode cL_law 1090 = .ok (.iaload, 1) := by decide +kernel
theorem dL_law_1091 : decode cL_law 1091 = .ok (.aload_n 0, 1) := by decide +kernel
theorem dL_law_1092 : decode cL_law 1092 = .ok (.iload 4, 2) := by decide +kernel
theorem dL_law_1094 : decode cL_law 1094 = .ok (.iconst 2, 1) := by decide +kernel
theorem dL_law_1095 : decode cL_law 1095 = .ok (.iadd, 1) := by decide +kernel
theorem dL_law_1096 : decode cL_law 1096 = .ok (.iaload, 1) := by decide +kernel
theorem dL_law_1097 : decode cL_law 1097 = .ok (.aload_n 0, 1) := by decide +kernel
theorem dL_law_1098 : decode cL_law 1098 = .ok (.iload 4, 2) := by decide +kernel
theorem dL_law_1100 : decode cL_law 1100 = .ok (.iconst 3, 1) := by decide +kernel
theorem dL_law_1101 : decode cL_law 1101 = .ok (.iadd, 1) := by decide +kernel
theorem dL_law_1102 : decode cL_law 1102 = .ok (.iaload, 1) := by decide +kernel
theorem dL_law_1103 : decode cL_law 1103 = .ok (.invokevirtual 132, 3) := by decide +kernel
theorem dL_law_1106 : decode cL_law 1106 = .ok (.if_icmp .eq 271, 3) := by decide +kernel
theorem dL_law_1109 : decode cL_law 1109 = .ok (.iconst 0, 1) := by decide +kernel
theorem dL_law_1110 : decode cL_law 1110 = .ok (.ireturn, 1) := by decide +kernel
theorem dL_law_1111 : decode cL_law 1111 = .ok (.aload_n 1, 1) := by decide +kernel
theorem dL_law_1112 : decode cL_law 1112 = .ok (.aload_n 0, 1) := by decide +kernel
theorem dL_law_1113 : decode cL_law 1113 = .ok (.iload 4, 2) := by decide +kernel
theorem dL_law_1115 : decode cL_law 1115 = .ok (.iconst 1, 1) := by decide +kernel
theorem dL_law_1116 : decode cL_law 1116 = .ok (.iadd, 1) := by decide +kernel
theorem dL_law_1117 : decode cL_law 1117 = .ok (.iaload, 1) := by decide +kernel
theorem dL_law_1118 : decode cL_law 1118 = .ok (.aload_n 0, 1) := by decide +kernel
theorem dL_law_1119 : decode cL_law 1119 = .ok (.iload 4, 2) := by decide +kernel
theorem dL_law_1121 : decode cL_law 1121 = .ok (.iconst 2, 1) := by decide +kernel
theorem dL_law_1122 : decode cL_law 1122 = .ok (.iadd, 1) := by decide +kernel
theorem dL_law_1123 : decode cL_law 1123 = .ok (.iaload, 1) := by decide +kernel
theorem dL_law_1124 : decode cL_law 1124 = .ok (.invokevirtual 133, 3) := by decide +kernel
theorem dL_law_1127 : decode cL_law 1127 = .ok (.aload_n 2, 1) := by decide +kernel
theorem dL_law_1128 : decode cL_law 1128 = .ok (.aload_n 0, 1) := by decide +kernel
theorem dL_law_1129 : decode cL_law 1129 = .ok (.iload 4, 2) := by decide +kernel
theorem dL_law_1131 : decode cL_law 1131 = .ok (.iconst 1, 1) := by decide +kernel
theorem dL_law_1132 : decode cL_law 1132 = .ok (.iadd, 1) := by decide +kernel
theorem dL_law_1133 : decode cL_law 1133 = .ok (.iaload, 1) := by decide +kernel
theorem dL_law_1134 : decode cL_law 1134 = .ok (.aload_n 0, 1) := by decide +kernel
theorem dL_law_1135 : decode cL_law 1135 = .ok (.iload 4, 2) := by decide +kernel
theorem dL_law_1137 : decode cL_law 1137 = .ok (.iconst 2, 1) := by decide +kernel
theorem dL_law_1138 : decode cL_law 1138 = .ok (.iadd, 1) := by decide +kernel
theorem dL_law_1139 : decode cL_law 1139 = .ok (.iaload, 1) := by decide +kernel
theorem dL_law_1140 : decode cL_law 1140 = .ok (.invokevirtual 136, 3) := by decide +kernel
theorem dL_law_1143 : decode cL_law 1143 = .ok (.if_icmp .eq 234, 3) := by decide +kernel
theorem dL_law_1146 : decode cL_law 1146 = .ok (.iconst 0, 1) := by decide +kernel
theorem dL_law_1147 : decode cL_law 1147 = .ok (.ireturn, 1) := by decide +kernel
theorem dL_law_1148 : decode cL_law 1148 = .ok (.aload_n 1, 1) := by decide +kernel
theorem dL_law_1149 : decode cL_law 1149 = .ok (.aload_n 0, 1) := by decide +kernel
theorem dL_law_1150 : decode cL_law 1150 = .ok (.iload 4, 2) := by decide +kernel
theorem dL_law_1152 : decode cL_law 1152 = .ok (.iconst 1, 1) := by decide +kernel
theorem dL_law_1153 : decode cL_law 1153 = .ok (.iadd, 1) := by decide +kernel
theorem dL_law_1154 : decode cL_law 1154 = .ok (.iaload, 1) := by decide +kernel
theorem dL_law_1155 : decode cL_law 1155 = .ok (.aload_n 0, 1) := by decide +kernel
theorem dL_law_1156 : decode cL_law 1156 = .ok (.iload 4, 2) := by decide +kernel
theorem dL_law_1158 : decode cL_law 1158 = .ok (.iconst 2, 1) := by decide +kernel
theorem dL_law_1159 : decode cL_law 1159 = .ok (.iadd, 1) := by decide +kernel
theorem dL_law_1160 : decode cL_law 1160 = .ok (.iaload, 1) := by decide +kernel
theorem dL_law_1161 : decode cL_law 1161 = .ok (.invokevirtual 137, 3) := by decide +kernel
theorem dL_law_1164 : decode cL_law 1164 = .ok (.aload_n 2, 1) := by decide +kernel
theorem dL_law_1165 : decode cL_law 1165 = .ok (.aload_n 0, 1) := by decide +kernel
theorem dL_law_1166 : decode cL_law 1166 = .ok (.iload 4, 2) := by decide +kernel
theorem dL_law_1168 : decode cL_law 1168 = .ok (.iconst 1, 1) := by decide +kernel
theorem dL_law_1169 : decode cL_law 1169 = .ok (.iadd, 1) := by decide +kernel
theorem dL_law_1170 : decode cL_law 1170 = .ok (.iaload, 1) := by decide +kernel
theorem dL_law_1171 : decode cL_law 1171 = .ok (.aload_n 0, 1) := by decide +kernel
theorem dL_law_1172 : decode cL_law 1172 = .ok (.iload 4, 2) := by decide +kernel
theorem dL_law_1174 : decode cL_law 1174 = .ok (.iconst 2, 1) := by decide +kernel
theorem dL_law_1175 : decode cL_law 1175 = .ok (.iadd, 1) := by decide +kernel
theorem dL_law_1176 : decode cL_law 1176 = .ok (.iaload, 1) := by decide +kernel
theorem dL_law_1177 : decode cL_law 1177 = .ok (.invokevirtual 140, 3) := by decide +kernel
theorem dL_law_1180 : decode cL_law 1180 = .ok (.if_icmp .eq 197, 3) := by decide +kernel
theorem dL_law_1183 : decode cL_law 1183 = .ok (.iconst 0, 1) := by decide +kernel
theorem dL_law_1184 : decode cL_law 1184 = .ok (.ireturn, 1) := by decide +kernel
theorem dL_law_1185 : decode cL_law 1185 = .ok (.aload_n 1, 1) := by decide +kernel
theorem dL_law_1186 : decode cL_law 1186 = .ok (.aload_n 0, 1) := by decide +kernel
theorem dL_law_1187 : decode cL_law 1187 = .ok (.iload 4, 2) := by decide +kernel
theorem dL_law_1189 : decode cL_law 1189 = .ok (.iconst 1, 1) := by decide +kernel
theorem dL_law_1190 : decode cL_law 1190 = .ok (.iadd, 1) := by decide +kernel
theorem dL_law_1191 : decode cL_law 1191 = .ok (.iaload, 1) := by decide +kernel
theorem dL_law_1192 : decode cL_law 1192 = .ok (.aload_n 0, 1) := by decide +kernel
theorem dL_law_1193 : decode cL_law 1193 = .ok (.iload 4, 2) := by decide +kernel
theorem dL_law_1195 : decode cL_law 1195 = .ok (.iconst 2, 1) := by decide +kernel
theorem dL_law_1196 : decode cL_law 1196 = .ok (.iadd, 1) := by decide +kernel
theorem dL_law_1197 : decode cL_law 1197 = .ok (.iaload, 1) := by decide +kernel
theorem dL_law_1198 : decode cL_law 1198 = .ok (.aload_n 3, 1) := by decide +kernel
theorem dL_law_1199 : decode cL_law 1199 = .ok (.invokestatic 141, 3) := by decide +kernel
theorem dL_law_1202 : decode cL_law 1202 = .ok (.istore 5, 2) := by decide +kernel
theorem dL_law_1204 : decode cL_law 1204 = .ok (.aload_n 2, 1) := by decide +kernel
theorem dL_law_1205 : decode cL_law 1205 = .ok (.aload_n 0, 1) := by decide +kernel
theorem dL_law_1206 : decode cL_law 1206 = .ok (.iload 4, 2) := by decide +kernel
theorem dL_law_1208 : decode cL_law 1208 = .ok (.iconst 1, 1) := by decide +kernel
theorem dL_law_1209 : decode cL_law 1209 = .ok (.iadd, 1) := by decide +kernel
theorem dL_law_1210 : decode cL_law 1210 = .ok (.iaload, 1) := by decide +kernel
theorem dL_law_1211 : decode cL_law 1211 = .ok (.aload_n 0, 1) := by decide +kernel
theorem dL_law_1212 : decode cL_law 1212 = .ok (.iload 4, 2) := by decide +kernel
theorem dL_law_1214 : decode cL_law 1214 = .ok (.iconst 2, 1) := by decide +kernel
theorem dL_law_1215 : decode cL_law 1215 = .ok (.iadd, 1) := by decide +kernel
theorem dL_law_1216 : decode cL_law 1216 = .ok (.iaload, 1) := by decide +kernel
theorem dL_law_1217 : decode cL_law 1217 = .ok (.invokevirtual 143, 3) := by decide +kernel
theorem dL_law_1220 : decode cL_law 1220 = .ok (.istore 6, 2) := by decide +kernel
theorem dL_law_1222 : decode cL_law 1222 = .ok (.aload_n 2, 1) := by decide +kernel
theorem dL_law_1223 : decode cL_law 1223 = .ok (.invokevirtual 48, 3) := by decide +kernel
theorem dL_law_1226 : decode cL_law 1226 = .ok (.iload 5, 2) := by decide +kernel
theorem dL_law_1228 : decode cL_law 1228 = .ok (.if_icmp .eq 5, 3) := by decide +kernel
theorem dL_law_1231 : decode cL_law 1231 = .ok (.iconst 0, 1) := by decide +kernel
theorem dL_law_1232 : decode cL_law 1232 = .ok (.ireturn, 1) := by decide +kernel
theorem dL_law_1233 : decode cL_law 1233 = .ok (.iload 5, 2) := by decide +kernel
theorem dL_law_1235 : decode cL_law 1235 = .ok (.ifCond .ne 15, 3) := by decide +kernel
theorem dL_law_1238 : decode cL_law 1238 = .ok (.aload_n 3, 1) := by decide +kernel
theorem dL_law_1239 : decode cL_law 1239 = .ok (.iconst 0, 1) := by decide +kernel
theorem dL_law_1240 : decode cL_law 1240 = .ok (.laload, 1) := by decide +kernel
theorem dL_law_1241 : decode cL_law 1241 = .ok (.iload 6, 2) := by decide +kernel
theorem dL_law_1243 : decode cL_law 1243 = .ok (.i2l, 1) := by decide +kernel
theorem dL_law_1244 : decode cL_law 1244 = .ok (.lcmp, 1) := by decide +kernel
theorem dL_law_1245 : decode cL_law 1245 = .ok (.ifCond .eq 5, 3) := by decide +kernel
theorem dL_law_1248 : decode cL_law 1248 = .ok (.iconst 0, 1) := by decide +kernel
theorem dL_law_1249 : decode cL_law 1249 = .ok (.ireturn, 1) := by decide +kernel
theorem dL_law_1250 : decode cL_law 1250 = .ok (.goto 127, 3) := by decide +kernel
theorem dL_law_1253 : decode cL_law 1253 = .ok (.aload_n 1, 1) := by decide +kernel
theorem dL_law_1254 : decode cL_law 1254 = .ok (.aload_n 0, 1) := by decide +kernel
theorem dL_law_1255 : decode cL_law 1255 = .ok (.iload 4, 2) := by decide +kernel
theorem dL_law_1257 : decode cL_law 1257 = .ok (.iconst 1, 1) := by decide +kernel
theorem dL_law_1258 : decode cL_law 1258 = .ok (.iadd, 1) := by decide +kernel
theorem dL_law_1259 : decode cL_law 1259 = .ok (.iaload, 1) := by decide +kernel
theorem dL_law_1260 : decode cL_law 1260 = .ok (.aload_n 0, 1) := by decide +kernel
theorem dL_law_1261 : decode cL_law 1261 = .ok (.iload 4, 2) := by decide +kernel
theorem dL_law_1263 : decode cL_law 1263 = .ok (.iconst 2, 1) := by decide +kernel
theorem dL_law_1264 : decode cL_law 1264 = .ok (.iadd, 1) := by decide +kernel
theorem dL_law_1265 : decode cL_law 1265 = .ok (.iaload, 1) := by decide +kernel
theorem dL_law_1266 : decode cL_law 1266 = .ok (.aload_n 0, 1) := by decide +kernel
theorem dL_law_1267 : decode cL_law 1267 = .ok (.iload 4, 2) := by decide +kernel
theorem dL_law_1269 : decode cL_law 1269 = .ok (.iconst 3, 1) := by decide +kernel
theorem dL_law_1270 : decode cL_law 1270 = .ok (.iadd, 1) := by decide +kernel
theorem dL_law_1271 : decode cL_law 1271 = .ok (.iaload, 1) := by decide +kernel
theorem dL_law_1272 : decode cL_law 1272 = .ok (.invokevirtual 144, 3) := by decide +kernel
theorem dL_law_1275 : decode cL_law 1275 = .ok (.aload_n 2, 1) := by decide +kernel
theorem dL_law_1276 : decode cL_law 1276 = .ok (.aload_n 0, 1) := by decide +kernel
theorem dL_law_1277 : decode cL_law 1277 = .ok (.iload 4, 2) := by decide +kernel
theorem dL_law_1279 : decode cL_law 1279 = .ok (.iconst 1, 1) := by decide +kernel
theorem dL_law_1280 : decode cL_law 1280 = .ok (.iadd, 1) := by decide +kernel
theorem dL_law_1281 : decode cL_law 1281 = .ok (.iaload, 1) := by decide +kernel
theorem dL_law_1282 : decode cL_law 1282 = .ok (.aload_n 0, 1) := by decide +kernel
theorem dL_law_1283 : decode cL_law 1283 = .ok (.iload 4, 2) := by decide +kernel
theorem dL_law_1285 : decode cL_law 1285 = .ok (.iconst 2, 1) := by decide +kernel
theorem dL_law_1286 : decode cL_law 1286 = .ok (.iadd, 1) := by decide +kernel
theorem dL_law_1287 : decode cL_law 1287 = .ok (.iaload, 1) := by decide +kernel
theorem dL_law_1288 : decode cL_law 1288 = .ok (.aload_n 0, 1) := by decide +kernel
theorem dL_law_1289 : decode cL_law 1289 = .ok (.iload 4, 2) := by decide +kernel
theorem dL_law_1291 : decode cL_law 1291 = .ok (.iconst 3, 1) := by decide +kernel
theorem dL_law_1292 : decode cL_law 1292 = .ok (.iadd, 1) := by decide +kernel
theorem dL_law_1293 : decode cL_law 1293 = .ok (.iaload, 1) := by decide +kernel
theorem dL_law_1294 : decode cL_law 1294 = .ok (.invokevirtual 147, 3) := by decide +kernel
theorem dL_law_1297 : decode cL_law 1297 = .ok (.if_icmp .eq 80, 3) := by decide +kernel
theorem dL_law_1300 : decode cL_law 1300 = .ok (.iconst 0, 1) := by decide +kernel
theorem dL_law_1301 : decode cL_law 1301 = .ok (.ireturn, 1) := by decide +kernel
theorem dL_law_1302 : decode cL_law 1302 = .ok (.aload_n 1, 1) := by decide +kernel
theorem dL_law_1303 : decode cL_law 1303 = .ok (.invokevirtual 148, 3) := by decide +kernel
theorem dL_law_1306 : decode cL_law 1306 = .ok (.aload_n 2, 1) := by decide +kernel
theorem dL_law_1307 : decode cL_law 1307 = .ok (.invokevirtual 151, 3) := by decide +kernel
theorem dL_law_1310 : decode cL_law 1310 = .ok (.if_icmp .eq 67, 3) := by decide +kernel
theorem dL_law_1313 : decode cL_law 1313 = .ok (.iconst 0, 1) := by decide +kernel
theorem dL_law_1314 : decode cL_law 1314 = .ok (.ireturn, 1) := by decide +kernel
theorem dL_law_1315 : decode cL_law 1315 = .ok (.aload_n 1, 1) := by decide +kernel
theorem dL_law_1316 : decode cL_law 1316 = .ok (.aload_n 0, 1) := by decide +kernel
theorem dL_law_1317 : decode cL_law 1317 = .ok (.iload 4, 2) := by decide +kernel
theorem dL_law_1319 : decode cL_law 1319 = .ok (.iconst 1, 1) := by decide +kernel
theorem dL_law_1320 : decode cL_law 1320 = .ok (.iadd, 1) := by decide +kernel
theorem dL_law_1321 : decode cL_law 1321 = .ok (.iaload, 1) := by decide +kernel
theorem dL_law_1322 : decode cL_law 1322 = .ok (.aload_n 0, 1) := by decide +kernel
theorem dL_law_1323 : decode cL_law 1323 = .ok (.iload 4, 2) := by decide +kernel
theorem dL_law_1325 : decode cL_law 1325 = .ok (.iconst 2, 1) := by decide +kernel
theorem dL_law_1326 : decode cL_law 1326 = .ok (.iadd, 1) := by decide +kernel
theorem dL_law_1327 : decode cL_law 1327 = .ok (.iaload, 1) := by decide +kernel
theorem dL_law_1328 : decode cL_law 1328 = .ok (.invokevirtual 152, 3) := by decide +kernel
theorem dL_law_1331 : decode cL_law 1331 = .ok (.aload_n 2, 1) := by decide +kernel
theorem dL_law_1332 : decode cL_law 1332 = .ok (.aload_n 0, 1) := by decide +kernel
theorem dL_law_1333 : decode cL_law 1333 = .ok (.iload 4, 2) := by decide +kernel
theorem dL_law_1335 : decode cL_law 1335 = .ok (.iconst 1, 1) := by decide +kernel
theorem dL_law_1336 : decode cL_law 1336 = .ok (.iadd, 1) := by decide +kernel
theorem dL_law_1337 : decode cL_law 1337 = .ok (.iaload, 1) := by decide +kernel
theorem dL_law_1338 : decode cL_law 1338 = .ok (.aload_n 0, 1) := by decide +kernel
theorem dL_law_1339 : decode cL_law 1339 = .ok (.iload 4, 2) := by decide +kernel
theorem dL_law_1341 : decode cL_law 1341 = .ok (.iconst 2, 1) := by decide +kernel
theorem dL_law_1342 : decode cL_law 1342 = .ok (.iadd, 1) := by decide +kernel
theorem dL_law_1343 : decode cL_law 1343 = .ok (.iaload, 1) := by decide +kernel
theorem dL_law_1344 : decode cL_law 1344 = .ok (.invokevirtual 155, 3) := by decide +kernel
theorem dL_law_1347 : decode cL_law 1347 = .ok (.if_icmp .eq 30, 3) := by decide +kernel
theorem dL_law_1350 : decode cL_law 1350 = .ok (.iconst 0, 1) := by decide +kernel
theorem dL_law_1351 : decode cL_law 1351 = .ok (.ireturn, 1) := by decide +kernel
theorem dL_law_1352 : decode cL_law 1352 = .ok (.aload_n 1, 1) := by decide +kernel
theorem dL_law_1353 : decode cL_law 1353 = .ok (.aload_n 0, 1) := by decide +kernel
theorem dL_law_1354 : decode cL_law 1354 = .ok (.iload 4, 2) := by decide +kernel
theorem dL_law_1356 : decode cL_law 1356 = .ok (.iconst 1, 1) := by decide +kernel
theorem dL_law_1357 : decode cL_law 1357 = .ok (.iadd, 1) := by decide +kernel
theorem dL_law_1358 : decode cL_law 1358 = .ok (.iaload, 1) := by decide +kernel
theorem dL_law_1359 : decode cL_law 1359 = .ok (.invokevirtual 156, 3) := by decide +kernel
theorem dL_law_1362 : decode cL_law 1362 = .ok (.aload_n 2, 1) := by decide +kernel
theorem dL_law_1363 : decode cL_law 1363 = .ok (.aload_n 0, 1) := by decide +kernel
theorem dL_law_1364 : decode cL_law 1364 = .ok (.iload 4, 2) := by decide +kernel
theorem dL_law_1366 : decode cL_law 1366 = .ok (.iconst 1, 1) := by decide +kernel
theorem dL_law_1367 : decode cL_law 1367 = .ok (.iadd, 1) := by decide +kernel
theorem dL_law_1368 : decode cL_law 1368 = .ok (.iaload, 1) := by decide +kernel
theorem dL_law_1369 : decode cL_law 1369 = .ok (.invokevirtual 159, 3) := by decide +kernel
theorem dL_law_1372 : decode cL_law 1372 = .ok (.if_icmp .eq 5, 3) := by decide +kernel
theorem dL_law_1375 : decode cL_law 1375 = .ok (.iconst 0, 1) := by decide +kernel
theorem dL_law_1376 : decode cL_law 1376 = .ok (.ireturn, 1) := by decide +kernel
theorem dL_law_1377 : decode cL_law 1377 = .ok (.iinc 4 6, 3) := by decide +kernel
theorem dL_law_1380 : decode cL_law 1380 = .ok (.goto (-1357), 3) := by decide +kernel
theorem dL_law_1383 : decode cL_law 1383 = .ok (.iconst 1, 1) := by decide +kernel
theorem dL_law_1384 : decode cL_law 1384 = .ok (.ireturn, 1) := by decide +kernel
end
section
/-! ===== the universal words: every word of the tables that any method may carry ===== -/
def UW : List Cond := lw_tbl.filter goodWord
theorem UW_good {w : Cond} (h : w ∈ UW) : goodWord w = true := (List.mem_filter.mp h).2
theorem UW_tbl {w : Cond} (h : w ∈ UW) : w ∈ lw_tbl := (List.mem_filter.mp h).1
theorem UW_gi : ∀ w ∈ UW, w ∈ UW ∧ ((w.onTables && w.keeps) = true ∨ ∃ ty, w = .arrayClass ty) := fun _ h => ⟨h, good_of_word (UW_good h)⟩
def WS (y : MethodName) (cc : ByteArray) (maxL : Nat) (ret : Option FieldType) : List Cond := .code y cc maxL ret :: UW
theorem WS_gi {y : MethodName} {cc : ByteArray} {maxL : Nat} {ret : Option FieldType} (h : Cond.code y cc maxL ret ∈ UW) : GoodIn UW (WS y cc maxL ret) := fun w hw => (List.mem_cons.mp hw).elim (fun e => e ▸ UW_gi _ h) (UW_gi w)
theorem wsV_gi {own C : String} {idx : Nat} {y : MethodName} {cc : ByteArray} {maxL : Nat} {ret : Option FieldType} (h1 : Cond.methodLink own idx y ∈ UW) (h2 : Cond.instanceMethod y ∈ UW) (h3 : Cond.selects C y y ∈ UW) (h4 : Cond.initialized C ∈ UW) (h5 : Cond.code y cc maxL ret ∈ UW) : GoodIn UW (wsV own idx C y (WS y cc maxL ret)) := by
  intro w hw
  unfold wsV at hw
  rcases List.mem_append.mp hw with h | h
  · simp only [List.mem_cons, List.not_mem_nil, or_false] at h
    rcases h with rfl | rfl | rfl | rfl
    · exact UW_gi _ h1
    · exact UW_gi _ h2
    · exact UW_gi _ h3
    · exact UW_gi _ h4
  · exact WS_gi h5 w h
theorem wsS_gi {own : String} {idx : Nat} {y : MethodName} {cc : ByteArray} {maxL : Nat} {ret : Option FieldType} (h1 : Cond.methodLink own idx y ∈ UW) (h2 : Cond.static y ∈ UW) (h3 : Cond.initialized y.cls ∈ UW) (h5 : Cond.code y cc maxL ret ∈ UW) : GoodIn UW (va_wsS own idx y (WS y cc maxL ret)) := by
  intro w hw
  unfold va_wsS at hw
  rcases List.mem_append.mp hw with h | h
  · simp only [List.mem_cons, List.not_mem_nil, or_false] at h
    rcases h with rfl | rfl | rfl
    · exact UW_gi _ h1
    · exact UW_gi _ h2
    · exact UW_gi _ h3
  · exact WS_gi h5 w h
/-! words that are carried by themselves: links across the nest; what a throw asks of the classes -/
def isNest : Cond → Bool
  | .fieldLinkNest .. => true
  | .methodLinkNest .. => true
  | .declares .. => true
  | .castable .. => true
  | _ => false
def NW : List Cond := lw_tbl.filter isNest
theorem nw_on {w : Cond} (h : isNest w = true) : w.onTables = true := by
  cases w <;> first | rfl | (simp [isNest] at h)
theorem nw_warm {w : Cond} (hn : isNest w = true) {s U : State} (hW : s.WarmedH U.vm) (h : va_Nw w s) : va_Nw w U := by
  cases w <;> first | exact va_Nw.warmF hW h | exact va_Nw.warmM hW h | exact va_tabs rfl (rfl : (s.setVm U.vm).vm = U.vm) (Cond.before_shiftedFace (args := #[]) (State.Shifted.of_warmed hW) _ rfl h) | (simp [isNest] at hn)
/-! ===== the state of a system: int fields by key, arrays by key ===== -/
abbrev St : Type := (Nat → Int32) × (Nat → Nat → Int32)
def pI (σ : St) (k : Nat) (v : Int32) : St := (va_up σ.1 k v, σ.2)
def pA (σ : St) (k i : Nat) (v : Int32) : St := (σ.1, va_up σ.2 k (upd (σ.2 k) i v))
def pC (σ : St) (k : Nat) (f : Nat → Int32) : St := (σ.1, va_up σ.2 k f)
/-! the launch's numbers: classes, array classes, addresses of constants -/
abbrev Ev : Type := va_G × (Nat → ClassId) × (Nat → Nat)
def tysE (E : Ev) : List (ClassId × FieldType) := [(E.2.1 0, .int), (E.2.1 1, .byte), (E.2.1 2, .boolean), (E.2.1 3, .long), (E.2.1 4, .array .int)]
def usualF (j : Nat) : Int32 := [200, 100, 0, 16, 4, 0].getD j 0
def pointsF (j : Nat) : Int32 := [25, 20, 16, 13, 11, 10, 9, 8, 7, 6, 5, 4, 3, 2, 1, 0].getD j 0
def slenL : List Nat := [6, 4, 7, 3, 4, 5, 4, 1]
def sbytL : List (List Int32) := [[119, 101, 105, 103, 104, 116], [119, 97, 114, 109], [114, 101, 118, 101, 114, 115, 101], [99, 117, 116], [114, 117, 110, 115], [115, 104, 97, 114, 101], [107, 101, 101, 112], [59]]
def stxL : List String := ["weight", "warm", "reverse", "cut", "runs", "share", "keep", ";"]
def sixL : List Nat := [175, 180, 182, 184, 186, 188, 190, 207]
def wdSlot (j : Nat) : Int32 := [0, 1, 2, 3, 4, 5, 5].getD j 0
def wdNum (j : Nat) : Int32 := [1, 1, 1, 1, 1, 0, 0].getD j 0
def wdLow (j : Nat) : Int32 := [50, 0, 0, 1, 1, 1, 0].getD j 0
def wdHigh (j : Nat) : Int32 := [200, 100, 16, 16, 4, 1, 0].getD j 0
/-- the enum's constants -/
def Wx (E : Ev) (A : Nat → Prop) (U : State) (H : Heap) : Prop := ∀ j : Nat, j < 7 → va_OF "IceRun$Word" "text" "Ljava/lang/String;" (.ref (E.2.2 (20 + j))) (E.2.2 (10 + j)) A U H ∧ va_OF "IceRun$Word" "slot" "I" (.int (wdSlot j)) (E.2.2 (10 + j)) A U H ∧ va_OF "IceRun$Word" "numbered" "Z" (.int (wdNum j)) (E.2.2 (10 + j)) A U H ∧ va_OF "IceRun$Word" "low" "I" (.int (wdLow j)) (E.2.2 (10 + j)) A U H ∧ va_OF "IceRun$Word" "high" "I" (.int (wdHigh j)) (E.2.2 (10 + j)) A U H
/-- texts, the enum, what a throw reads -/
def Tx (E : Ev) (A : Nat → Prop) (U : State) (H : Heap) : Prop :=
  vk_S 8 slenL sbytL (fun i => E.2.2 (20 + i)) (fun i => E.2.2 (30 + i)) A U H ∧ va_Z "java/lang/String" "COMPACT_STRINGS" "Z" (.int 1) A U H ∧ va_Zq "jdk/internal/util/Preconditions" "SIOOBE_FORMATTER" "Ljava/util/function/BiFunction;" A U H ∧
  (va_Z "IceRun$Word" "ALL" "[LIceRun$Word;" (.ref (E.2.2 2)) A U H ∧ va_T (.object "IceRun$Word") (E.2.2 2) 7 (fun j => .ref (E.2.2 (10 + j))) A U H) ∧ Wx E A U H ∧
  (vx_Zq Bundle.tN "UNASSIGNED_STACK" Bundle.steD A U H ∧ vx_Zq Bundle.tN "SUPPRESSED_SENTINEL" Bundle.listD A U H)
theorem Tx.moved {E : Ev} {A : Nat → Prop} {u U : State} {H : Heap} (hvm : u.vm.Alike U.vm) (h : Tx E A u H) : Tx E A U H := ⟨h.1.moved hvm, h.2.1.moved hvm, h.2.2.1.moved hvm, ⟨h.2.2.2.1.1.moved hvm, h.2.2.2.1.2.moved hvm⟩, fun j hj => ⟨(h.2.2.2.2.1 j hj).1.moved hvm, (h.2.2.2.2.1 j hj).2.1.moved hvm, (h.2.2.2.2.1 j hj).2.2.1.moved hvm, (h.2.2.2.2.1 j hj).2.2.2.1.moved hvm, (h.2.2.2.2.1 j hj).2.2.2.2.moved hvm⟩, h.2.2.2.2.2.1.moved hvm, h.2.2.2.2.2.2.moved hvm⟩
theorem Tx.kept {E : Ev} {A : Nat → Prop} {U : State} {H H1 : Heap} (h : Tx E A U H) (hq : ∀ a : Nat, a < H.size → ¬ A a → H1[a]? = H[a]?) : Tx E A U H1 := ⟨h.1.kept hq, h.2.1.kept hq, h.2.2.1.kept hq, ⟨h.2.2.2.1.1.kept hq, h.2.2.2.1.2.kept hq⟩, fun j hj => ⟨(h.2.2.2.2.1 j hj).1.kept hq, (h.2.2.2.2.1 j hj).2.1.kept hq, (h.2.2.2.2.1 j hj).2.2.1.kept hq, (h.2.2.2.2.1 j hj).2.2.2.1.kept hq, (h.2.2.2.2.1 j hj).2.2.2.2.kept hq⟩, h.2.2.2.2.2.1.kept hq, h.2.2.2.2.2.2.kept hq⟩
theorem Tx.narrow {E : Ev} {A B : Nat → Prop} {U : State} {H : Heap} (h : Tx E A U H) (hAB : ∀ q, B q → A q) : Tx E B U H := ⟨h.1.narrow hAB, h.2.1.narrow hAB, h.2.2.1.narrow hAB, ⟨h.2.2.2.1.1.narrow hAB, h.2.2.2.1.2.narrow hAB⟩, fun j hj => ⟨(h.2.2.2.2.1 j hj).1.narrow hAB, (h.2.2.2.2.1 j hj).2.1.narrow hAB, (h.2.2.2.2.1 j hj).2.2.1.narrow hAB, (h.2.2.2.2.1 j hj).2.2.2.1.narrow hAB, (h.2.2.2.2.1 j hj).2.2.2.2.narrow hAB⟩, h.2.2.2.2.2.1.narrow hAB, h.2.2.2.2.2.2.narrow hAB⟩
def Sx (E : Ev) (A : Nat → Prop) (U : State) (H : Heap) : Prop :=
  (va_Z "IceRun" "USUAL" "[I" (.ref (E.2.2 0)) A U H ∧ va_T .int (E.2.2 0) 6 (fun j => .int (usualF j)) A U H) ∧
  (va_Z "IceRun" "POINTS" "[I" (.ref (E.2.2 1)) A U H ∧ va_T .int (E.2.2 1) 16 (fun j => .int (pointsF j)) A U H) ∧ Tx E A U H
theorem Sx.moved {E : Ev} {A : Nat → Prop} {u U : State} {H : Heap} (hvm : u.vm.Alike U.vm) (h : Sx E A u H) : Sx E A U H := ⟨⟨h.1.1.moved hvm, h.1.2.moved hvm⟩, ⟨h.2.1.1.moved hvm, h.2.1.2.moved hvm⟩, h.2.2.moved hvm⟩
theorem Sx.kept {E : Ev} {A : Nat → Prop} {U : State} {H H1 : Heap} (h : Sx E A U H) (hq : ∀ a : Nat, a < H.size → ¬ A a → H1[a]? = H[a]?) : Sx E A U H1 := ⟨⟨h.1.1.kept hq, h.1.2.kept hq⟩, ⟨h.2.1.1.kept hq, h.2.1.2.kept hq⟩, h.2.2.kept hq⟩
theorem Sx.narrow {E : Ev} {A B : Nat → Prop} {U : State} {H : Heap} (h : Sx E A U H) (hAB : ∀ q, B q → A q) : Sx E B U H := ⟨⟨h.1.1.narrow hAB, h.1.2.narrow hAB⟩, ⟨h.2.1.1.narrow hAB, h.2.1.2.narrow hAB⟩, h.2.2.narrow hAB⟩
/-- String constants of the pools -/
def Rx (E : Ev) (U : State) : Prop := (∀ i : Nat, i < 8 → vk_R "IceRunModel" (sixL.getD i 0) (stxL.getD i "") (E.2.2 (20 + i)) U) ∧ vk_R "IceRun" 104 "no such kind or hardness" (E.2.2 40) U ∧ vk_R "IceRun" 233 "no whole run with that sled" (E.2.2 41) U
theorem Rx.warm {E : Ev} {s U : State} (hW : s.WarmedH U.vm) (h : Rx E s) : Rx E U := ⟨fun i hi => (h.1 i hi).warm hW, h.2.1.warm hW, h.2.2.warm hW⟩
theorem Rx.same {E : Ev} {u U : State} (hv : U.vm = u.vm) (h : Rx E u) : Rx E U := ⟨fun i hi => (h.1 i hi).same hv, h.2.1.same hv, h.2.2.same hv⟩
/-! what never changes: the classes, the words across the nest, the constants -/
def Fx (E : Ev) (A : Nat → Prop) (U : State) (H : Heap) : Prop := va_K E.1 vwCl (tysE E) U ∧ (∀ w ∈ NW, va_Nw w U) ∧ Sx E A U H ∧ Rx E U
theorem Fx.call {E : Ev} {A A1 : Nat → Prop} {s U : State} {H : Heap} {locs : List Loc} (h : Fx E A s s.heap) (hS : va_S A s.heap H locs) (hAB : ∀ q, A1 q → A q) (hW : s.WarmedH U.vm) (hU : U.heap = H) : Fx E A1 U U.heap := by
  refine ⟨va_K.moved hW.alike h.1, fun w hw => nw_warm (List.mem_filter.mp hw).2 hW (h.2.1 w hw), ?_, h.2.2.2.warm hW⟩
  rw [hU]
  exact ((h.2.2.1.kept hS.2.1).narrow hAB).moved hW.alike
theorem Fx.frame {E : Ev} {A : Nat → Prop} {U : State} {g : JFrame} {mk : MethodId} {a : Array Value} (h : Fx E A U U.heap) : Fx E A (U.calling g mk a) (U.calling g mk a).heap :=
  ⟨va_K.moved (u := U) (U := U.calling g mk a) (Vm.Alike.refl U.vm) h.1, fun w hw => va_Nw.same (nw_on (List.mem_filter.mp hw).2) (u := U) (U := U.calling g mk a) rfl (h.2.1 w hw), Sx.moved (u := U) (U := U.calling g mk a) (Vm.Alike.refl U.vm) h.2.2.1, Rx.same (u := U) (U := U.calling g mk a) rfl h.2.2.2⟩
/-! ===== locals ===== -/
def lvH (ls : Array Slot) (nL : Nat) (lv : List (Option Value)) : Prop := ls.size = nL ∧ lv_wf ls ∧ (∀ v : Value, some v ∈ lv → v.category = 1) ∧ lv.length = nL ∧ ∀ (i : Nat) (v : Value), lv[i]? = some (some v) → ls[i]? = some (.val v)
def lvE (lv : List (Option Value)) : List (Nat × Value) := (List.range lv.length).filterMap (fun j => (lv.getD j none).map (fun v => (j, v)))
theorem lvE_mem {lv : List (Option Value)} {j : Nat} {v : Value} : (j, v) ∈ lvE lv ↔ lv[j]? = some (some v) := by
  unfold lvE
  rw [List.mem_filterMap]
  constructor
  · rintro ⟨i, hi, h⟩
    rw [List.mem_range] at hi
    rw [List.getD_eq_getElem?_getD, List.getElem?_eq_getElem hi] at h
    simp only [Option.getD_some, Option.map_eq_some_iff] at h
    obtain ⟨w, h1, h2⟩ := h
    cases h2
    rw [List.getElem?_eq_getElem hi, h1]
  · intro h
    have hj := (List.getElem?_eq_some_iff.mp h).1
    exact ⟨j, List.mem_range.mpr hj, by rw [List.getD_eq_getElem?_getD, h]; rfl⟩
theorem lvH.has {ls : Array Slot} {nL : Nat} {lv : List (Option Value)} (h : lvH ls nL lv) : lv_has ls nL (lvE lv) := ⟨h.1, h.2.1, fun q hq => h.2.2.2.2 q.1 q.2 (lvE_mem.mp (show (q.1, q.2) ∈ lvE lv from hq))⟩
theorem lvH.at {ls : Array Slot} {nL : Nat} {lv : List (Option Value)} (h : lvH ls nL lv) {i : Nat} {v : Value} (hi : lv[i]? = some (some v)) : ls[i]? = some (.val v) := h.2.2.2.2 i v hi
theorem lvH.set {ls ls' : Array Slot} {nL : Nat} {lv : List (Option Value)} (h : lvH ls nL lv) {i : Nat} {v : Value} (hc : v.category = 1) (h' : lv_has ls' nL ((i, v) :: (lvE lv).filter (fun q => !(q.1 == i) && !(q.1 + 1 == i && q.2.category == 2)))) : lvH ls' nL (lv.set i (some v)) := by
  refine ⟨h'.1, h'.2.1, fun w hw => ?_, by rw [List.length_set]; exact h.2.2.2.1, fun j w hj => ?_⟩
  · rcases List.mem_or_eq_of_mem_set hw with q | q
    · exact h.2.2.1 w q
    · cases q
      exact hc
  · by_cases e : i = j
    · subst e
      have hl : i < lv.length := by
        have := (List.getElem?_eq_some_iff.mp hj).1
        rwa [List.length_set] at this
      rw [List.getElem?_set_self hl] at hj
      cases hj
      exact h'.2.2 (i, v) List.mem_cons_self
    · rw [List.getElem?_set_ne e] at hj
      refine h'.2.2 (j, w) (List.mem_cons_of_mem _ (List.mem_filter.mpr ⟨lvE_mem.mpr hj, ?_⟩))
      have hw : w.category = 1 := h.2.2.1 w (List.mem_of_getElem? hj)
      simp [hw, Ne.symm e]
/-! ===== the judgement: from here the method comes to an end as Q says ===== -/
abbrev Kx : Type := Program × Launch × Env × Room × State × MethodId × Array Value × List Frame × Method × Code × (State → Prop) × (Nat → Prop) × Ev × Nat × Nat × Nat
def G (X : Kx) {S : Type} (w : S → va_W) (σ : S) (pc : Nat) (lv : List (Option Value)) (st : List Value) : Prop := match X with
  | (p, l, e, R, s, m, args, below, meth, c, Q, A, E, nL, kc, ks) => ∀ (H : Heap) (locs : List Loc) (ls : Array Slot), va_P E.1 vwCl (w σ) H → va_D A (w σ) → va_S A s.heap H locs → lvH ls nL lv → W p l e R s m args below meth c H locs kc ks Q (F0 m pc ls st)
def Cx (X : Kx) (l : Launch) (E : Ev) (own : String) (cc : ByteArray) (rm : Room) (ret : Option FieldType) : Prop := match X with
  | (p, l', _, R, s, m, args, _, meth, c, _, A, E', nL, kc, ks) => CallFix p m c cc nL s args UW own ∧ Fx E' A s s.heap ∧ (∀ q, s.heap.size ≤ q → A q) ∧ meth.locks = false ∧ R = rm ∧ meth.sig.returnType = ret ∧ l' = l ∧ E' = E ∧ kc ≤ R.cells ∧ ks ≤ R.slots
/-- the world behind a method -/
def pW (E : Ev) {S : Type} (w : S → va_W) (A : Nat → Prop) (u : S) (t : State) : Prop := va_P E.1 vwCl (w u) t.heap ∧ va_D A (w u)
/-- .. and ahead of it -/
def preW (E : Ev) {S : Type} (w : S → va_W) (σ : S) (sz : Nat) (U : State) : Prop := U.heap.size = sz ∧ va_P E.1 vwCl (w σ) U.heap ∧ va_D (fun _ => True) (w σ) ∧ Fx E (va_A (w σ) sz) U U.heap
def QI (X : Kx) {S : Type} (w : S → va_W) (post : Int32 → S → Prop) : Prop := match X with
  | (_, _, _, _, s, _, args, below, _, _, Q, A, E, _, kc, ks) => Q = MQ below (va_Qi post (pW E w A) A) args s kc ks A
def QV (X : Kx) {S : Type} (w : S → va_W) (post : S → Prop) : Prop := match X with
  | (_, _, _, _, s, _, args, below, _, _, Q, A, E, _, kc, ks) => Q = MQ below (va_Qv post (pW E w A) A) args s kc ks A
theorem preW.blind {E : Ev} {S : Type} {w : S → va_W} {σ : S} {sz : Nat} {As : List Value} : FrameBlind (va_Pc As (preW E w σ sz)) := fun a U g mk q => ⟨q.1, q.2.1, q.2.2.1, q.2.2.2.1, q.2.2.2.2.frame⟩
/-- the contract of a method that answers an int -/
def CI (l : Launch) (E : Ev) {S : Type} (w : S → va_W) (y : MethodName) (cc : ByteArray) (nL : Nat) (ret : FieldType) (rm : Room) (As : List Value) (σ : S) (post : Int32 → S → Prop) : Prop := ∀ sz : Nat, Met l y (WS y cc nL (some ret)) rm (va_Pc As (preW E w σ sz)) (va_Qi post (pW E w (va_A (w σ) sz)) (va_A (w σ) sz)) 0 0 (va_A (w σ) sz)
def CV (l : Launch) (E : Ev) {S : Type} (w : S → va_W) (y : MethodName) (cc : ByteArray) (nL : Nat) (rm : Room) (As : List Value) (σ : S) (post : S → Prop) : Prop := ∀ sz : Nat, Met l y (WS y cc nL none) rm (va_Pc As (preW E w σ sz)) (va_Qv post (pW E w (va_A (w σ) sz)) (va_A (w σ) sz)) 0 0 (va_A (w σ) sz)
/-! the locals with which a method begins -/
theorem lvH_entry {As : List Value} {n : Nat} {lv : List (Option Value)} (hc : As.all (fun v => v.category == 1) = true) (hn : As.length ≤ n) (hlv : lv = As.map some ++ List.replicate (n - As.length) none) : lvH ((lg_sl As ++ List.replicate (n - (lg_sl As).length) Slot.unset).toArray) n lv := by
  have hcat : ∀ v ∈ As, v.category = 1 := fun v hv => by simpa using List.all_eq_true.mp hc v hv
  have hsl : ∀ l : List Value, (∀ v ∈ l, v.category = 1) → lg_sl l = l.map Slot.val := by
    intro l hl
    induction l with
    | nil => rfl
    | cons v t ih =>
      have h1 : v.category = 1 := hl v List.mem_cons_self
      have h2 := ih (fun x hx => hl x (List.mem_cons_of_mem _ hx))
      simp only [lg_sl] at h2 ⊢
      simp [h1, h2]
  have e := hsl As hcat
  have hlen : (lg_sl As).length = As.length := by rw [e, List.length_map]
  have h0 := lv_entry As (n := n) (by omega)
  subst hlv
  refine ⟨h0.1, h0.2.1, fun v hv => ?_, by simp; omega, fun i v hi => ?_⟩
  · rcases List.mem_append.mp hv with h | h
    · obtain ⟨x, hx, e2⟩ := List.mem_map.mp h
      cases e2
      exact hcat _ hx
    · have := (List.mem_replicate.mp h).2
      cases this
  · rw [e]
    by_cases hlt : i < As.length
    · rw [List.getElem?_append_left (by simpa using hlt), List.getElem?_map] at hi
      have : As[i]? = some v := by
        cases ha : As[i]? with
        | none => rw [ha] at hi; cases hi
        | some x => rw [ha] at hi; cases hi; rfl
      simp [List.getElem?_append_left, hlt, this]
      have := (List.getElem?_eq_some_iff.mp this).2
      exact this
    · rw [List.getElem?_append_right (by simp; omega)] at hi
      have := (List.mem_replicate.mp (List.mem_of_getElem? hi)).2
      cases this
theorem met_i {l : Launch} {E : Ev} {S : Type} {w : S → va_W} {y : MethodName} {cc : ByteArray} {nL : Nat} {ret : FieldType} {rm : Room} {As : List Value} {σ : S} {post : Int32 → S → Prop} {lv : List (Option Value)} (hy : plainName y.cls = true) (hc : As.all (fun v => v.category == 1) = true) (hn : As.length ≤ nL) (hlv : lv = As.map some ++ List.replicate (nL - As.length) none)
    (body : ∀ X : Kx, Cx X l E y.cls cc rm (some ret) → QI X w post → G X w σ 0 lv []) : CI l E w y cc nL ret rm As σ post := by
  intro sz
  refine Met.ofW (cc := cc) (maxL := nL) (ret := some ret) hy rfl ?_
  intro p e s m args below meth c s₁ B hml hv
  obtain ⟨rfl, hsz, hP, hD, hF⟩ := hv
  subst hsz
  have hts := atoms_spec (ws := WS y cc nL (some ret)) B.pre
  have hU : ∀ x ∈ UW, x.before As.toArray s = true := fun x hx => hts x (List.mem_cons_of_mem _ hx)
  have K := body (p, l, e, rm, s, m, As.toArray, below, meth, c, MQ below (va_Qi post (pW E w (va_A (w σ) s.heap.size)) (va_A (w σ) s.heap.size)) As.toArray s 0 0 (va_A (w σ) s.heap.size), va_A (w σ) s.heap.size, E, nL, 0, 0) ⟨⟨B.exec, B.bytes, hml, findClass_of_methodNamed B.named, hU⟩, hF, fun q h => Or.inr h, B.notSynchronized, rfl, B.returns, rfl, rfl, Nat.zero_le _, Nat.zero_le _⟩ rfl
  rw [lg_entry_eq]
  exact K s.heap [] _ hP (hD.self (sz := s.heap.size)) va_S.rf (lvH_entry hc hn hlv)
theorem met_v {l : Launch} {E : Ev} {S : Type} {w : S → va_W} {y : MethodName} {cc : ByteArray} {nL : Nat} {rm : Room} {As : List Value} {σ : S} {post : S → Prop} {lv : List (Option Value)} (hy : plainName y.cls = true) (hc : As.all (fun v => v.category == 1) = true) (hn : As.length ≤ nL) (hlv : lv = As.map some ++ List.replicate (nL - As.length) none)
    (body : ∀ X : Kx, Cx X l E y.cls cc rm none → QV X w post → G X w σ 0 lv []) : CV l E w y cc nL rm As σ post := by
  intro sz
  refine Met.ofW (cc := cc) (maxL := nL) (ret := none) hy rfl ?_
  intro p e s m args below meth c s₁ B hml hv
  obtain ⟨rfl, hsz, hP, hD, hF⟩ := hv
  subst hsz
  have hts := atoms_spec (ws := WS y cc nL none) B.pre
  have hU : ∀ x ∈ UW, x.before As.toArray s = true := fun x hx => hts x (List.mem_cons_of_mem _ hx)
  have K := body (p, l, e, rm, s, m, As.toArray, below, meth, c, MQ below (va_Qv post (pW E w (va_A (w σ) s.heap.size)) (va_A (w σ) s.heap.size)) As.toArray s 0 0 (va_A (w σ) s.heap.size), va_A (w σ) s.heap.size, E, nL, 0, 0) ⟨⟨B.exec, B.bytes, hml, findClass_of_methodNamed B.named, hU⟩, hF, fun q h => Or.inr h, B.notSynchronized, rfl, B.returns, rfl, rfl, Nat.zero_le _, Nat.zero_le _⟩ rfl
  rw [lg_entry_eq]
  exact K s.heap [] _ hP (hD.self (sz := s.heap.size)) va_S.rf (lvH_entry hc hn hlv)
end
section
theorem g_iconst_m1 {X : Kx} {S : Type} {w : S → va_W} {σ : S} {l : Launch} {E : Ev} {own : String} {cc : ByteArray} {rm : Room} {ret : Option FieldType} {pc : Nat} {lv : List (Option Value)} {st : List Value} (C : Cx X l E own cc rm ret) (d : decode cc pc = .ok (.iconst (-1), 1)) (k : G X w σ (pc + 1) lv (.int (-1) :: st)) : G X w σ pc lv st := by
  obtain ⟨p, l', e, R, s, m, args, below, meth, c, Q, A, E', nL, kc, ks⟩ := X
  intro H locs ls hP hD hS hl
  exact lv_iconst C.1.1 C.1.2.1 d (by decide) (k H locs ls hP hD hS hl)
theorem g_iconst_0 {X : Kx} {S : Type} {w : S → va_W} {σ : S} {l : Launch} {E : Ev} {own : String} {cc : ByteArray} {rm : Room} {ret : Option FieldType} {pc : Nat} {lv : List (Option Value)} {st : List Value} (C : Cx X l E own cc rm ret) (d : decode cc pc = .ok (.iconst 0, 1)) (k : G X w σ (pc + 1) lv (.int 0 :: st)) : G X w σ pc lv st := by
  obtain ⟨p, l', e, R, s, m, args, below, meth, c, Q, A, E', nL, kc, ks⟩ := X
  intro H locs ls hP hD hS hl
  exact lv_iconst C.1.1 C.1.2.1 d (by decide) (k H locs ls hP hD hS hl)
theorem g_iconst_1 {X : Kx} {S : Type} {w : S → va_W} {σ : S} {l : Launch} {E : Ev} {own : String} {cc : ByteArray} {rm : Room} {ret : Option FieldType} {pc : Nat} {lv : List (Option Value)} {st : List Value} (C : Cx X l E own cc rm ret) (d : decode cc pc = .ok (.iconst 1, 1)) (k : G X w σ (pc + 1) lv (.int 1 :: st)) : G X w σ pc lv st := by
  obtain ⟨p, l', e, R, s, m, args, below, meth, c, Q, A, E', nL, kc, ks⟩ := X
  intro H locs ls hP hD hS hl
  exact lv_iconst C.1.1 C.1.2.1 d (by decide) (k H locs ls hP hD hS hl)
theorem g_iconst_2 {X : Kx} {S : Type} {w : S → va_W} {σ : S} {l : Launch} {E : Ev} {own : String} {cc : ByteArray} {rm : Room} {ret : Option FieldType} {pc : Nat} {lv : List (Option Value)} {st : List Value} (C : Cx X l E own cc rm ret) (d : decode cc pc = .ok (.iconst 2, 1)) (k : G X w σ (pc + 1) lv (.int 2 :: st)) : G X w σ pc lv st := by
  obtain ⟨p, l', e, R, s, m, args, below, meth, c, Q, A, E', nL, kc, ks⟩ := X
  intro H locs ls hP hD hS hl
  exact lv_iconst C.1.1 C.1.2.1 d (by decide) (k H locs ls hP hD hS hl)
theorem g_iconst_3 {X : Kx} {S : Type} {w : S → va_W} {σ : S} {l : Launch} {E : Ev} {own : String} {cc : ByteArray} {rm : Room} {ret : Option FieldType} {pc : Nat} {lv : List (Option Value)} {st : List Value} (C : Cx X l E own cc rm ret) (d : decode cc pc = .ok (.iconst 3, 1)) (k : G X w σ (pc + 1) lv (.int 3 :: st)) : G X w σ pc lv st := by
  obtain ⟨p, l', e, R, s, m, args, below, meth, c, Q, A, E', nL, kc, ks⟩ := X
  intro H locs ls hP hD hS hl
  exact lv_iconst C.1.1 C.1.2.1 d (by decide) (k H locs ls hP hD hS hl)
theorem g_iconst_4 {X : Kx} {S : Type} {w : S → va_W} {σ : S} {l : Launch} {E : Ev} {own : String} {cc : ByteArray} {rm : Room} {ret : Option FieldType} {pc : Nat} {lv : List (Option Value)} {st : List Value} (C : Cx X l E own cc rm ret) (d : decode cc pc = .ok (.iconst 4, 1)) (k : G X w σ (pc + 1) lv (.int 4 :: st)) : G X w σ pc lv st := by
  obtain ⟨p, l', e, R, s, m, args, below, meth, c, Q, A, E', nL, kc, ks⟩ := X
  intro H locs ls hP hD hS hl
  exact lv_iconst C.1.1 C.1.2.1 d (by decide) (k H locs ls hP hD hS hl)
theorem g_iconst_5 {X : Kx} {S : Type} {w : S → va_W} {σ : S} {l : Launch} {E : Ev} {own : String} {cc : ByteArray} {rm : Room} {ret : Option FieldType} {pc : Nat} {lv : List (Option Value)} {st : List Value} (C : Cx X l E own cc rm ret) (d : decode cc pc = .ok (.iconst 5, 1)) (k : G X w σ (pc + 1) lv (.int 5 :: st)) : G X w σ pc lv st := by
  obtain ⟨p, l', e, R, s, m, args, below, meth, c, Q, A, E', nL, kc, ks⟩ := X
  intro H locs ls hP hD hS hl
  exact lv_iconst C.1.1 C.1.2.1 d (by decide) (k H locs ls hP hD hS hl)
theorem g_bipush {X : Kx} {S : Type} {w : S → va_W} {σ : S} {l : Launch} {E : Ev} {own : String} {cc : ByteArray} {rm : Room} {ret : Option FieldType} {pc : Nat} {lv : List (Option Value)} {st : List Value} (C : Cx X l E own cc rm ret) {n : Int} {v : Int32} (hv : (Int8.ofInt n).toInt32 = v) (d : decode cc pc = .ok (.bipush n, 2)) (k : G X w σ (pc + 2) lv (.int v :: st)) : G X w σ pc lv st := by
  obtain ⟨p, l', e, R, s, m, args, below, meth, c, Q, A, E', nL, kc, ks⟩ := X
  intro H locs ls hP hD hS hl
  exact lv_bipush C.1.1 C.1.2.1 d hv (k H locs ls hP hD hS hl)
theorem g_sipush {X : Kx} {S : Type} {w : S → va_W} {σ : S} {l : Launch} {E : Ev} {own : String} {cc : ByteArray} {rm : Room} {ret : Option FieldType} {pc : Nat} {lv : List (Option Value)} {st : List Value} (C : Cx X l E own cc rm ret) {n : Int} {v : Int32} (hv : (Int16.ofInt n).toInt32 = v) (d : decode cc pc = .ok (.sipush n, 3)) (k : G X w σ (pc + 3) lv (.int v :: st)) : G X w σ pc lv st := by
  obtain ⟨p, l', e, R, s, m, args, below, meth, c, Q, A, E', nL, kc, ks⟩ := X
  intro H locs ls hP hD hS hl
  exact lv_sipush C.1.1 C.1.2.1 d hv (k H locs ls hP hD hS hl)
theorem g_ldc {X : Kx} {S : Type} {w : S → va_W} {σ : S} {l : Launch} {E : Ev} {own : String} {cc : ByteArray} {rm : Room} {ret : Option FieldType} {pc : Nat} {lv : List (Option Value)} {st : List Value} (C : Cx X l E own cc rm ret) {idx : Nat} {v : Int32} (hw : Cond.constant own idx v ∈ UW) (d : decode cc pc = .ok (.ldc idx, 2)) (k : G X w σ (pc + 2) lv (.int v :: st)) : G X w σ pc lv st := by
  obtain ⟨p, l', e, R, s, m, args, below, meth, c, Q, A, E', nL, kc, ks⟩ := X
  intro H locs ls hP hD hS hl
  exact lv_ldc C.1.1 C.1.2.1 C.1.2.2.2.1 (C.1.2.2.2.2 _ hw) d (k H locs ls hP hD hS hl)
theorem g_iload_0 {X : Kx} {S : Type} {w : S → va_W} {σ : S} {l : Launch} {E : Ev} {own : String} {cc : ByteArray} {rm : Room} {ret : Option FieldType} {pc : Nat} {lv : List (Option Value)} {st : List Value} (C : Cx X l E own cc rm ret) {x : Int32} (d : decode cc pc = .ok (.iload_n 0, 1)) (h : lv[0]? = some (some (.int x))) (k : G X w σ (pc + 1) lv (.int x :: st)) : G X w σ pc lv st := by
  obtain ⟨p, l', e, R, s, m, args, below, meth, c, Q, A, E', nL, kc, ks⟩ := X
  intro H locs ls hP hD hS hl
  exact lv_iload_n C.1.1 C.1.2.1 d rfl (hl.at h) (k H locs ls hP hD hS hl)
theorem g_iload_1 {X : Kx} {S : Type} {w : S → va_W} {σ : S} {l : Launch} {E : Ev} {own : String} {cc : ByteArray} {rm : Room} {ret : Option FieldType} {pc : Nat} {lv : List (Option Value)} {st : List Value} (C : Cx X l E own cc rm ret) {x : Int32} (d : decode cc pc = .ok (.iload_n 1, 1)) (h : lv[1]? = some (some (.int x))) (k : G X w σ (pc + 1) lv (.int x :: st)) : G X w σ pc lv st := by
  obtain ⟨p, l', e, R, s, m, args, below, meth, c, Q, A, E', nL, kc, ks⟩ := X
  intro H locs ls hP hD hS hl
  exact lv_iload_n C.1.1 C.1.2.1 d rfl (hl.at h) (k H locs ls hP hD hS hl)
theorem g_iload_2 {X : Kx} {S : Type} {w : S → va_W} {σ : S} {l : Launch} {E : Ev} {own : String} {cc : ByteArray} {rm : Room} {ret : Option FieldType} {pc : Nat} {lv : List (Option Value)} {st : List Value} (C : Cx X l E own cc rm ret) {x : Int32} (d : decode cc pc = .ok (.iload_n 2, 1)) (h : lv[2]? = some (some (.int x))) (k : G X w σ (pc + 1) lv (.int x :: st)) : G X w σ pc lv st := by
  obtain ⟨p, l', e, R, s, m, args, below, meth, c, Q, A, E', nL, kc, ks⟩ := X
  intro H locs ls hP hD hS hl
  exact lv_iload_n C.1.1 C.1.2.1 d rfl (hl.at h) (k H locs ls hP hD hS hl)
theorem g_iload_3 {X : Kx} {S : Type} {w : S → va_W} {σ : S} {l : Launch} {E : Ev} {own : String} {cc : ByteArray} {rm : Room} {ret : Option FieldType} {pc : Nat} {lv : List (Option Value)} {st : List Value} (C : Cx X l E own cc rm ret) {x : Int32} (d : decode cc pc = .ok (.iload_n 3, 1)) (h : lv[3]? = some (some (.int x))) (k : G X w σ (pc + 1) lv (.int x :: st)) : G X w σ pc lv st := by
  obtain ⟨p, l', e, R, s, m, args, below, meth, c, Q, A, E', nL, kc, ks⟩ := X
  intro H locs ls hP hD hS hl
  exact lv_iload_n C.1.1 C.1.2.1 d rfl (hl.at h) (k H locs ls hP hD hS hl)
theorem g_iload {X : Kx} {S : Type} {w : S → va_W} {σ : S} {l : Launch} {E : Ev} {own : String} {cc : ByteArray} {rm : Room} {ret : Option FieldType} {pc : Nat} {lv : List (Option Value)} {st : List Value} (C : Cx X l E own cc rm ret) {x : Int32} {i : Nat} (d : decode cc pc = .ok (.iload i, 2)) (h : lv[i]? = some (some (.int x))) (k : G X w σ (pc + 2) lv (.int x :: st)) : G X w σ pc lv st := by
  obtain ⟨p, l', e, R, s, m, args, below, meth, c, Q, A, E', nL, kc, ks⟩ := X
  intro H locs ls hP hD hS hl
  exact lv_iload C.1.1 C.1.2.1 d (hl.at h) (k H locs ls hP hD hS hl)
theorem g_istore_0 {X : Kx} {S : Type} {w : S → va_W} {σ : S} {l : Launch} {E : Ev} {own : String} {cc : ByteArray} {rm : Room} {ret : Option FieldType} {pc : Nat} {lv : List (Option Value)} {st : List Value} (C : Cx X l E own cc rm ret) {x : Int32} (d : decode cc pc = .ok (.istore_n 0, 1)) (hi : 0 < lv.length) (k : G X w σ (pc + 1) (lv.set 0 (some (.int x))) st) : G X w σ pc lv (.int x :: st) := by
  obtain ⟨p, l', e, R, s, m, args, below, meth, c, Q, A, E', nL, kc, ks⟩ := X
  intro H locs ls hP hD hS hl
  exact lv_istore_n C.1.1 C.1.2.1 d rfl hl.has (by rw [← hl.2.2.2.1]; exact hi) rfl (fun ls' hl' => k H locs ls' hP hD hS (hl.set rfl hl'))
theorem g_istore_1 {X : Kx} {S : Type} {w : S → va_W} {σ : S} {l : Launch} {E : Ev} {own : String} {cc : ByteArray} {rm : Room} {ret : Option FieldType} {pc : Nat} {lv : List (Option Value)} {st : List Value} (C : Cx X l E own cc rm ret) {x : Int32} (d : decode cc pc = .ok (.istore_n 1, 1)) (hi : 1 < lv.length) (k : G X w σ (pc + 1) (lv.set 1 (some (.int x))) st) : G X w σ pc lv (.int x :: st) := by
  obtain ⟨p, l', e, R, s, m, args, below, meth, c, Q, A, E', nL, kc, ks⟩ := X
  intro H locs ls hP hD hS hl
  exact lv_istore_n C.1.1 C.1.2.1 d rfl hl.has (by rw [← hl.2.2.2.1]; exact hi) rfl (fun ls' hl' => k H locs ls' hP hD hS (hl.set rfl hl'))
theorem g_istore_2 {X : Kx} {S : Type} {w : S → va_W} {σ : S} {l : Launch} {E : Ev} {own : String} {cc : ByteArray} {rm : Room} {ret : Option FieldType} {pc : Nat} {lv : List (Option Value)} {st : List Value} (C : Cx X l E own cc rm ret) {x : Int32} (d : decode cc pc = .ok (.istore_n 2, 1)) (hi : 2 < lv.length) (k : G X w σ (pc + 1) (lv.set 2 (some (.int x))) st) : G X w σ pc lv (.int x :: st) := by
  obtain ⟨p, l', e, R, s, m, args, below, meth, c, Q, A, E', nL, kc, ks⟩ := X
  intro H locs ls hP hD hS hl
  exact lv_istore_n C.1.1 C.1.2.1 d rfl hl.has (by rw [← hl.2.2.2.1]; exact hi) rfl (fun ls' hl' => k H locs ls' hP hD hS (hl.set rfl hl'))
theorem g_istore_3 {X : Kx} {S : Type} {w : S → va_W} {σ : S} {l : Launch} {E : Ev} {own : String} {cc : ByteArray} {rm : Room} {ret : Option FieldType} {pc : Nat} {lv : List (Option Value)} {st : List Value} (C : Cx X l E own cc rm ret) {x : Int32} (d : decode cc pc = .ok (.istore_n 3, 1)) (hi : 3 < lv.length) (k : G X w σ (pc + 1) (lv.set 3 (some (.int x))) st) : G X w σ pc lv (.int x :: st) := by
  obtain ⟨p, l', e, R, s, m, args, below, meth, c, Q, A, E', nL, kc, ks⟩ := X
  intro H locs ls hP hD hS hl
  exact lv_istore_n C.1.1 C.1.2.1 d rfl hl.has (by rw [← hl.2.2.2.1]; exact hi) rfl (fun ls' hl' => k H locs ls' hP hD hS (hl.set rfl hl'))
theorem g_istore {X : Kx} {S : Type} {w : S → va_W} {σ : S} {l : Launch} {E : Ev} {own : String} {cc : ByteArray} {rm : Room} {ret : Option FieldType} {pc : Nat} {lv : List (Option Value)} {st : List Value} (C : Cx X l E own cc rm ret) {x : Int32} {i : Nat} (d : decode cc pc = .ok (.istore i, 2)) (hi : i < lv.length) (k : G X w σ (pc + 2) (lv.set i (some (.int x))) st) : G X w σ pc lv (.int x :: st) := by
  obtain ⟨p, l', e, R, s, m, args, below, meth, c, Q, A, E', nL, kc, ks⟩ := X
  intro H locs ls hP hD hS hl
  exact lv_istore C.1.1 C.1.2.1 d hl.has (by rw [← hl.2.2.2.1]; exact hi) rfl (fun ls' hl' => k H locs ls' hP hD hS (hl.set rfl hl'))
theorem g_aload_0 {X : Kx} {S : Type} {w : S → va_W} {σ : S} {l : Launch} {E : Ev} {own : String} {cc : ByteArray} {rm : Room} {ret : Option FieldType} {pc : Nat} {lv : List (Option Value)} {st : List Value} (C : Cx X l E own cc rm ret) {x : Nat} (d : decode cc pc = .ok (.aload_n 0, 1)) (h : lv[0]? = some (some (.ref x))) (k : G X w σ (pc + 1) lv (.ref x :: st)) : G X w σ pc lv st := by
  obtain ⟨p, l', e, R, s, m, args, below, meth, c, Q, A, E', nL, kc, ks⟩ := X
  intro H locs ls hP hD hS hl
  exact lv_aload_n C.1.1 C.1.2.1 d rfl (hl.at h) (k H locs ls hP hD hS hl)
theorem g_aload_1 {X : Kx} {S : Type} {w : S → va_W} {σ : S} {l : Launch} {E : Ev} {own : String} {cc : ByteArray} {rm : Room} {ret : Option FieldType} {pc : Nat} {lv : List (Option Value)} {st : List Value} (C : Cx X l E own cc rm ret) {x : Nat} (d : decode cc pc = .ok (.aload_n 1, 1)) (h : lv[1]? = some (some (.ref x))) (k : G X w σ (pc + 1) lv (.ref x :: st)) : G X w σ pc lv st := by
  obtain ⟨p, l', e, R, s, m, args, below, meth, c, Q, A, E', nL, kc, ks⟩ := X
  intro H locs ls hP hD hS hl
  exact lv_aload_n C.1.1 C.1.2.1 d rfl (hl.at h) (k H locs ls hP hD hS hl)
theorem g_aload_2 {X : Kx} {S : Type} {w : S → va_W} {σ : S} {l : Launch} {E : Ev} {own : String} {cc : ByteArray} {rm : Room} {ret : Option FieldType} {pc : Nat} {lv : List (Option Value)} {st : List Value} (C : Cx X l E own cc rm ret) {x : Nat} (d : decode cc pc = .ok (.aload_n 2, 1)) (h : lv[2]? = some (some (.ref x))) (k : G X w σ (pc + 1) lv (.ref x :: st)) : G X w σ pc lv st := by
  obtain ⟨p, l', e, R, s, m, args, below, meth, c, Q, A, E', nL, kc, ks⟩ := X
  intro H locs ls hP hD hS hl
  exact lv_aload_n C.1.1 C.1.2.1 d rfl (hl.at h) (k H locs ls hP hD hS hl)
theorem g_aload_3 {X : Kx} {S : Type} {w : S → va_W} {σ : S} {l : Launch} {E : Ev} {own : String} {cc : ByteArray} {rm : Room} {ret : Option FieldType} {pc : Nat} {lv : List (Option Value)} {st : List Value} (C : Cx X l E own cc rm ret) {x : Nat} (d : decode cc pc = .ok (.aload_n 3, 1)) (h : lv[3]? = some (some (.ref x))) (k : G X w σ (pc + 1) lv (.ref x :: st)) : G X w σ pc lv st := by
  obtain ⟨p, l', e, R, s, m, args, below, meth, c, Q, A, E', nL, kc, ks⟩ := X
  intro H locs ls hP hD hS hl
  exact lv_aload_n C.1.1 C.1.2.1 d rfl (hl.at h) (k H locs ls hP hD hS hl)
theorem g_aload {X : Kx} {S : Type} {w : S → va_W} {σ : S} {l : Launch} {E : Ev} {own : String} {cc : ByteArray} {rm : Room} {ret : Option FieldType} {pc : Nat} {lv : List (Option Value)} {st : List Value} (C : Cx X l E own cc rm ret) {x : Nat} {i : Nat} (d : decode cc pc = .ok (.aload i, 2)) (h : lv[i]? = some (some (.ref x))) (k : G X w σ (pc + 2) lv (.ref x :: st)) : G X w σ pc lv st := by
  obtain ⟨p, l', e, R, s, m, args, below, meth, c, Q, A, E', nL, kc, ks⟩ := X
  intro H locs ls hP hD hS hl
  exact lv_aload C.1.1 C.1.2.1 d (hl.at h) (k H locs ls hP hD hS hl)
theorem g_astore_0 {X : Kx} {S : Type} {w : S → va_W} {σ : S} {l : Launch} {E : Ev} {own : String} {cc : ByteArray} {rm : Room} {ret : Option FieldType} {pc : Nat} {lv : List (Option Value)} {st : List Value} (C : Cx X l E own cc rm ret) {x : Nat} (d : decode cc pc = .ok (.astore_n 0, 1)) (hi : 0 < lv.length) (k : G X w σ (pc + 1) (lv.set 0 (some (.ref x))) st) : G X w σ pc lv (.ref x :: st) := by
  obtain ⟨p, l', e, R, s, m, args, below, meth, c, Q, A, E', nL, kc, ks⟩ := X
  intro H locs ls hP hD hS hl
  exact lv_astore_n C.1.1 C.1.2.1 d rfl hl.has (by rw [← hl.2.2.2.1]; exact hi) rfl (fun ls' hl' => k H locs ls' hP hD hS (hl.set rfl hl'))
theorem g_astore_1 {X : Kx} {S : Type} {w : S → va_W} {σ : S} {l : Launch} {E : Ev} {own : String} {cc : ByteArray} {rm : Room} {ret : Option FieldType} {pc : Nat} {lv : List (Option Value)} {st : List Value} (C : Cx X l E own cc rm ret) {x : Nat} (d : decode cc pc = .ok (.astore_n 1, 1)) (hi : 1 < lv.length) (k : G X w σ (pc + 1) (lv.set 1 (some (.ref x))) st) : G X w σ pc lv (.ref x :: st) := by
  obtain ⟨p, l', e, R, s, m, args, below, meth, c, Q, A, E', nL, kc, ks⟩ := X
  intro H locs ls hP hD hS hl
  exact lv_astore_n C.1.1 C.1.2.1 d rfl hl.has (by rw [← hl.2.2.2.1]; exact hi) rfl (fun ls' hl' => k H locs ls' hP hD hS (hl.set rfl hl'))
theorem g_astore_2 {X : Kx} {S : Type} {w : S → va_W} {σ : S} {l : Launch} {E : Ev} {own : String} {cc : ByteArray} {rm : Room} {ret : Option FieldType} {pc : Nat} {lv : List (Option Value)} {st : List Value} (C : Cx X l E own cc rm ret) {x : Nat} (d : decode cc pc = .ok (.astore_n 2, 1)) (hi : 2 < lv.length) (k : G X w σ (pc + 1) (lv.set 2 (some (.ref x))) st) : G X w σ pc lv (.ref x :: st) := by
  obtain ⟨p, l', e, R, s, m, args, below, meth, c, Q, A, E', nL, kc, ks⟩ := X
  intro H locs ls hP hD hS hl
  exact lv_astore_n C.1.1 C.1.2.1 d rfl hl.has (by rw [← hl.2.2.2.1]; exact hi) rfl (fun ls' hl' => k H locs ls' hP hD hS (hl.set rfl hl'))
theorem g_astore_3 {X : Kx} {S : Type} {w : S → va_W} {σ : S} {l : Launch} {E : Ev} {own : String} {cc : ByteArray} {rm : Room} {ret : Option FieldType} {pc : Nat} {lv : List (Option Value)} {st : List Value} (C : Cx X l E own cc rm ret) {x : Nat} (d : decode cc pc = .ok (.astore_n 3, 1)) (hi : 3 < lv.length) (k : G X w σ (pc + 1) (lv.set 3 (some (.ref x))) st) : G X w σ pc lv (.ref x :: st) := by
  obtain ⟨p, l', e, R, s, m, args, below, meth, c, Q, A, E', nL, kc, ks⟩ := X
  intro H locs ls hP hD hS hl
  exact lv_astore_n C.1.1 C.1.2.1 d rfl hl.has (by rw [← hl.2.2.2.1]; exact hi) rfl (fun ls' hl' => k H locs ls' hP hD hS (hl.set rfl hl'))
theorem g_astore {X : Kx} {S : Type} {w : S → va_W} {σ : S} {l : Launch} {E : Ev} {own : String} {cc : ByteArray} {rm : Room} {ret : Option FieldType} {pc : Nat} {lv : List (Option Value)} {st : List Value} (C : Cx X l E own cc rm ret) {x : Nat} {i : Nat} (d : decode cc pc = .ok (.astore i, 2)) (hi : i < lv.length) (k : G X w σ (pc + 2) (lv.set i (some (.ref x))) st) : G X w σ pc lv (.ref x :: st) := by
  obtain ⟨p, l', e, R, s, m, args, below, meth, c, Q, A, E', nL, kc, ks⟩ := X
  intro H locs ls hP hD hS hl
  exact lv_astore C.1.1 C.1.2.1 d hl.has (by rw [← hl.2.2.2.1]; exact hi) rfl (fun ls' hl' => k H locs ls' hP hD hS (hl.set rfl hl'))
theorem g_iinc {X : Kx} {S : Type} {w : S → va_W} {σ : S} {l : Launch} {E : Ev} {own : String} {cc : ByteArray} {rm : Room} {ret : Option FieldType} {pc : Nat} {lv : List (Option Value)} {st : List Value} (C : Cx X l E own cc rm ret) {x v : Int32} {i : Nat} {n : Int} (hv : Int32.ofInt n = v) (d : decode cc pc = .ok (.iinc i n, 3)) (h : lv[i]? = some (some (.int x))) (k : G X w σ (pc + 3) (lv.set i (some (.int (x + v)))) st) : G X w σ pc lv st := by
  obtain ⟨p, l', e, R, s, m, args, below, meth, c, Q, A, E', nL, kc, ks⟩ := X
  intro H locs ls hP hD hS hl
  obtain ⟨kk, hk⟩ := List.getElem?_of_mem (lvE_mem.mpr h)
  have hi : i < lv.length := (List.getElem?_eq_some_iff.mp h).1
  exact lv_iinc (v := x + v) C.1.1 C.1.2.1 d hl.has hk (by rw [hv]) (by rw [← hl.2.2.2.1]; exact hi) rfl (fun ls' hl' => k H locs ls' hP hD hS (hl.set rfl hl'))
theorem g_iadd {X : Kx} {S : Type} {w : S → va_W} {σ : S} {l : Launch} {E : Ev} {own : String} {cc : ByteArray} {rm : Room} {ret : Option FieldType} {pc : Nat} {lv : List (Option Value)} {st : List Value} (C : Cx X l E own cc rm ret) {x y : Int32} (d : decode cc pc = .ok (.iadd, 1)) (k : G X w σ (pc + 1) lv (.int (x + y) :: st)) : G X w σ pc lv (.int y :: .int x :: st) := by
  obtain ⟨p, l', e, R, s, m, args, below, meth, c, Q, A, E', nL, kc, ks⟩ := X
  intro H locs ls hP hD hS hl
  exact lv_iadd C.1.1 C.1.2.1 d (k H locs ls hP hD hS hl)
theorem g_isub {X : Kx} {S : Type} {w : S → va_W} {σ : S} {l : Launch} {E : Ev} {own : String} {cc : ByteArray} {rm : Room} {ret : Option FieldType} {pc : Nat} {lv : List (Option Value)} {st : List Value} (C : Cx X l E own cc rm ret) {x y : Int32} (d : decode cc pc = .ok (.isub, 1)) (k : G X w σ (pc + 1) lv (.int (x - y) :: st)) : G X w σ pc lv (.int y :: .int x :: st) := by
  obtain ⟨p, l', e, R, s, m, args, below, meth, c, Q, A, E', nL, kc, ks⟩ := X
  intro H locs ls hP hD hS hl
  exact lv_isub C.1.1 C.1.2.1 d (k H locs ls hP hD hS hl)
theorem g_imul {X : Kx} {S : Type} {w : S → va_W} {σ : S} {l : Launch} {E : Ev} {own : String} {cc : ByteArray} {rm : Room} {ret : Option FieldType} {pc : Nat} {lv : List (Option Value)} {st : List Value} (C : Cx X l E own cc rm ret) {x y : Int32} (d : decode cc pc = .ok (.imul, 1)) (k : G X w σ (pc + 1) lv (.int (x * y) :: st)) : G X w σ pc lv (.int y :: .int x :: st) := by
  obtain ⟨p, l', e, R, s, m, args, below, meth, c, Q, A, E', nL, kc, ks⟩ := X
  intro H locs ls hP hD hS hl
  exact lv_imul C.1.1 C.1.2.1 d (k H locs ls hP hD hS hl)
theorem g_iand {X : Kx} {S : Type} {w : S → va_W} {σ : S} {l : Launch} {E : Ev} {own : String} {cc : ByteArray} {rm : Room} {ret : Option FieldType} {pc : Nat} {lv : List (Option Value)} {st : List Value} (C : Cx X l E own cc rm ret) {x y : Int32} (d : decode cc pc = .ok (.iand, 1)) (k : G X w σ (pc + 1) lv (.int (x &&& y) :: st)) : G X w σ pc lv (.int y :: .int x :: st) := by
  obtain ⟨p, l', e, R, s, m, args, below, meth, c, Q, A, E', nL, kc, ks⟩ := X
  intro H locs ls hP hD hS hl
  exact lv_iand C.1.1 C.1.2.1 d (k H locs ls hP hD hS hl)
theorem g_ishr {X : Kx} {S : Type} {w : S → va_W} {σ : S} {l : Launch} {E : Ev} {own : String} {cc : ByteArray} {rm : Room} {ret : Option FieldType} {pc : Nat} {lv : List (Option Value)} {st : List Value} (C : Cx X l E own cc rm ret) {x y : Int32} (d : decode cc pc = .ok (.ishr, 1)) (k : G X w σ (pc + 1) lv (.int (x >>> (y &&& 31)) :: st)) : G X w σ pc lv (.int y :: .int x :: st) := by
  obtain ⟨p, l', e, R, s, m, args, below, meth, c, Q, A, E', nL, kc, ks⟩ := X
  intro H locs ls hP hD hS hl
  exact lv_ishr C.1.1 C.1.2.1 d (k H locs ls hP hD hS hl)
theorem g_idiv {X : Kx} {S : Type} {w : S → va_W} {σ : S} {l : Launch} {E : Ev} {own : String} {cc : ByteArray} {rm : Room} {ret : Option FieldType} {pc : Nat} {lv : List (Option Value)} {st : List Value} (C : Cx X l E own cc rm ret) {x y : Int32} (hne : ¬ y = 0) (d : decode cc pc = .ok (.idiv, 1)) (k : G X w σ (pc + 1) lv (.int (x / y) :: st)) : G X w σ pc lv (.int y :: .int x :: st) := by
  obtain ⟨p, l', e, R, s, m, args, below, meth, c, Q, A, E', nL, kc, ks⟩ := X
  intro H locs ls hP hD hS hl
  exact lv_idiv C.1.1 C.1.2.1 d hne (k H locs ls hP hD hS hl)
theorem g_irem {X : Kx} {S : Type} {w : S → va_W} {σ : S} {l : Launch} {E : Ev} {own : String} {cc : ByteArray} {rm : Room} {ret : Option FieldType} {pc : Nat} {lv : List (Option Value)} {st : List Value} (C : Cx X l E own cc rm ret) {x y : Int32} (hne : ¬ y = 0) (d : decode cc pc = .ok (.irem, 1)) (k : G X w σ (pc + 1) lv (.int (x - x / y * y) :: st)) : G X w σ pc lv (.int y :: .int x :: st) := by
  obtain ⟨p, l', e, R, s, m, args, below, meth, c, Q, A, E', nL, kc, ks⟩ := X
  intro H locs ls hP hD hS hl
  exact lv_irem C.1.1 C.1.2.1 d hne (k H locs ls hP hD hS hl)
theorem g_iushr {X : Kx} {S : Type} {w : S → va_W} {σ : S} {l : Launch} {E : Ev} {own : String} {cc : ByteArray} {rm : Room} {ret : Option FieldType} {pc : Nat} {lv : List (Option Value)} {st : List Value} (C : Cx X l E own cc rm ret) {x y : Int32} (d : decode cc pc = .ok (.iushr, 1)) (k : G X w σ (pc + 1) lv (.int ((x.toUInt32 >>> (y.toUInt32 &&& Int32.toUInt32 31)).toInt32) :: st)) : G X w σ pc lv (.int y :: .int x :: st) := by
  obtain ⟨p, l', e, R, s, m, args, below, meth, c, Q, A, E', nL, kc, ks⟩ := X
  intro H locs ls hP hD hS hl
  exact lv_iushr C.1.1 C.1.2.1 d rfl (k H locs ls hP hD hS hl)
theorem g_i2b {X : Kx} {S : Type} {w : S → va_W} {σ : S} {l : Launch} {E : Ev} {own : String} {cc : ByteArray} {rm : Room} {ret : Option FieldType} {pc : Nat} {lv : List (Option Value)} {st : List Value} (C : Cx X l E own cc rm ret) {x : Int32} (d : decode cc pc = .ok (.i2b, 1)) (k : G X w σ (pc + 1) lv (.int (x.toInt8.toInt32) :: st)) : G X w σ pc lv (.int x :: st) := by
  obtain ⟨p, l', e, R, s, m, args, below, meth, c, Q, A, E', nL, kc, ks⟩ := X
  intro H locs ls hP hD hS hl
  exact lv_i2b C.1.1 C.1.2.1 d rfl (k H locs ls hP hD hS hl)
theorem g_i2s {X : Kx} {S : Type} {w : S → va_W} {σ : S} {l : Launch} {E : Ev} {own : String} {cc : ByteArray} {rm : Room} {ret : Option FieldType} {pc : Nat} {lv : List (Option Value)} {st : List Value} (C : Cx X l E own cc rm ret) {x : Int32} (d : decode cc pc = .ok (.i2s, 1)) (k : G X w σ (pc + 1) lv (.int (x.toInt16.toInt32) :: st)) : G X w σ pc lv (.int x :: st) := by
  obtain ⟨p, l', e, R, s, m, args, below, meth, c, Q, A, E', nL, kc, ks⟩ := X
  intro H locs ls hP hD hS hl
  exact lv_i2s C.1.1 C.1.2.1 d rfl (k H locs ls hP hD hS hl)
theorem g_dup {X : Kx} {S : Type} {w : S → va_W} {σ : S} {l : Launch} {E : Ev} {own : String} {cc : ByteArray} {rm : Room} {ret : Option FieldType} {pc : Nat} {lv : List (Option Value)} {st : List Value} (C : Cx X l E own cc rm ret) {v : Value} (d : decode cc pc = .ok (.dup, 1)) (hv : v.category = 1) (k : G X w σ (pc + 1) lv (v :: v :: st)) : G X w σ pc lv (v :: st) := by
  obtain ⟨p, l', e, R, s, m, args, below, meth, c, Q, A, E', nL, kc, ks⟩ := X
  intro H locs ls hP hD hS hl
  exact lv_dup C.1.1 C.1.2.1 d hv (k H locs ls hP hD hS hl)
theorem g_dup2 {X : Kx} {S : Type} {w : S → va_W} {σ : S} {l : Launch} {E : Ev} {own : String} {cc : ByteArray} {rm : Room} {ret : Option FieldType} {pc : Nat} {lv : List (Option Value)} {st : List Value} (C : Cx X l E own cc rm ret) {v u : Value} (d : decode cc pc = .ok (.dup2, 1)) (hv : v.category = 1) (hu : u.category = 1) (k : G X w σ (pc + 1) lv (v :: u :: v :: u :: st)) : G X w σ pc lv (v :: u :: st) := by
  obtain ⟨p, l', e, R, s, m, args, below, meth, c, Q, A, E', nL, kc, ks⟩ := X
  intro H locs ls hP hD hS hl
  exact lv_dup2_11 C.1.1 C.1.2.1 d hv hu (k H locs ls hP hD hS hl)
theorem g_pop {X : Kx} {S : Type} {w : S → va_W} {σ : S} {l : Launch} {E : Ev} {own : String} {cc : ByteArray} {rm : Room} {ret : Option FieldType} {pc : Nat} {lv : List (Option Value)} {st : List Value} (C : Cx X l E own cc rm ret) {v : Value} (d : decode cc pc = .ok (.pop, 1)) (hv : v.category = 1) (k : G X w σ (pc + 1) lv st) : G X w σ pc lv (v :: st) := by
  obtain ⟨p, l', e, R, s, m, args, below, meth, c, Q, A, E', nL, kc, ks⟩ := X
  intro H locs ls hP hD hS hl
  exact lv_pop C.1.1 C.1.2.1 d hv (k H locs ls hP hD hS hl)
theorem g_icmp_eq {X : Kx} {S : Type} {w : S → va_W} {σ : S} {l : Launch} {E : Ev} {own : String} {cc : ByteArray} {rm : Room} {ret : Option FieldType} {pc : Nat} {lv : List (Option Value)} {st : List Value} (C : Cx X l E own cc rm ret) {x y : Int32} {off : Int} (tgt : Nat) (d : decode cc pc = .ok (.if_icmp .eq off, 3)) (ht : (pc : Int) + off = (tgt : Int)) (kt : x = y → G X w σ tgt lv st) (kf : ¬ x = y → G X w σ (pc + 3) lv st) : G X w σ pc lv (.int y :: .int x :: st) := by
  obtain ⟨p, l', e, R, s, m, args, below, meth, c, Q, A, E', nL, kc, ks⟩ := X
  intro H locs ls hP hD hS hl
  exact lv_icmp_eq C.1.1 C.1.2.1 d ht (fun q => kt q H locs ls hP hD hS hl) (fun q => kf q H locs ls hP hD hS hl)
theorem g_if_eq {X : Kx} {S : Type} {w : S → va_W} {σ : S} {l : Launch} {E : Ev} {own : String} {cc : ByteArray} {rm : Room} {ret : Option FieldType} {pc : Nat} {lv : List (Option Value)} {st : List Value} (C : Cx X l E own cc rm ret) {x : Int32} {off : Int} (tgt : Nat) (d : decode cc pc = .ok (.ifCond .eq off, 3)) (ht : (pc : Int) + off = (tgt : Int)) (kt : x = 0 → G X w σ tgt lv st) (kf : ¬ x = 0 → G X w σ (pc + 3) lv st) : G X w σ pc lv (.int x :: st) := by
  obtain ⟨p, l', e, R, s, m, args, below, meth, c, Q, A, E', nL, kc, ks⟩ := X
  intro H locs ls hP hD hS hl
  exact lv_if_eq C.1.1 C.1.2.1 d ht (fun q => kt q H locs ls hP hD hS hl) (fun q => kf q H locs ls hP hD hS hl)
theorem g_icmp_ne {X : Kx} {S : Type} {w : S → va_W} {σ : S} {l : Launch} {E : Ev} {own : String} {cc : ByteArray} {rm : Room} {ret : Option FieldType} {pc : Nat} {lv : List (Option Value)} {st : List Value} (C : Cx X l E own cc rm ret) {x y : Int32} {off : Int} (tgt : Nat) (d : decode cc pc = .ok (.if_icmp .ne off, 3)) (ht : (pc : Int) + off = (tgt : Int)) (kt : ¬ x = y → G X w σ tgt lv st) (kf : x = y → G X w σ (pc + 3) lv st) : G X w σ pc lv (.int y :: .int x :: st) := by
  obtain ⟨p, l', e, R, s, m, args, below, meth, c, Q, A, E', nL, kc, ks⟩ := X
  intro H locs ls hP hD hS hl
  exact lv_icmp_ne C.1.1 C.1.2.1 d ht (fun q => kt q H locs ls hP hD hS hl) (fun q => kf q H locs ls hP hD hS hl)
theorem g_if_ne {X : Kx} {S : Type} {w : S → va_W} {σ : S} {l : Launch} {E : Ev} {own : String} {cc : ByteArray} {rm : Room} {ret : Option FieldType} {pc : Nat} {lv : List (Option Value)} {st : List Value} (C : Cx X l E own cc rm ret) {x : Int32} {off : Int} (tgt : Nat) (d : decode cc pc = .ok (.ifCond .ne off, 3)) (ht : (pc : Int) + off = (tgt : Int)) (kt : ¬ x = 0 → G X w σ tgt lv st) (kf : x = 0 → G X w σ (pc + 3) lv st) : G X w σ pc lv (.int x :: st) := by
  obtain ⟨p, l', e, R, s, m, args, below, meth, c, Q, A, E', nL, kc, ks⟩ := X
  intro H locs ls hP hD hS hl
  exact lv_if_ne C.1.1 C.1.2.1 d ht (fun q => kt q H locs ls hP hD hS hl) (fun q => kf q H locs ls hP hD hS hl)
theorem g_icmp_lt {X : Kx} {S : Type} {w : S → va_W} {σ : S} {l : Launch} {E : Ev} {own : String} {cc : ByteArray} {rm : Room} {ret : Option FieldType} {pc : Nat} {lv : List (Option Value)} {st : List Value} (C : Cx X l E own cc rm ret) {x y : Int32} {off : Int} (tgt : Nat) (d : decode cc pc = .ok (.if_icmp .lt off, 3)) (ht : (pc : Int) + off = (tgt : Int)) (kt : x < y → G X w σ tgt lv st) (kf : ¬ x < y → G X w σ (pc + 3) lv st) : G X w σ pc lv (.int y :: .int x :: st) := by
  obtain ⟨p, l', e, R, s, m, args, below, meth, c, Q, A, E', nL, kc, ks⟩ := X
  intro H locs ls hP hD hS hl
  exact lv_icmp_lt C.1.1 C.1.2.1 d ht (fun q => kt q H locs ls hP hD hS hl) (fun q => kf q H locs ls hP hD hS hl)
theorem g_if_lt {X : Kx} {S : Type} {w : S → va_W} {σ : S} {l : Launch} {E : Ev} {own : String} {cc : ByteArray} {rm : Room} {ret : Option FieldType} {pc : Nat} {lv : List (Option Value)} {st : List Value} (C : Cx X l E own cc rm ret) {x : Int32} {off : Int} (tgt : Nat) (d : decode cc pc = .ok (.ifCond .lt off, 3)) (ht : (pc : Int) + off = (tgt : Int)) (kt : x < 0 → G X w σ tgt lv st) (kf : ¬ x < 0 → G X w σ (pc + 3) lv st) : G X w σ pc lv (.int x :: st) := by
  obtain ⟨p, l', e, R, s, m, args, below, meth, c, Q, A, E', nL, kc, ks⟩ := X
  intro H locs ls hP hD hS hl
  exact lv_if_lt C.1.1 C.1.2.1 d ht (fun q => kt q H locs ls hP hD hS hl) (fun q => kf q H locs ls hP hD hS hl)
theorem g_icmp_ge {X : Kx} {S : Type} {w : S → va_W} {σ : S} {l : Launch} {E : Ev} {own : String} {cc : ByteArray} {rm : Room} {ret : Option FieldType} {pc : Nat} {lv : List (Option Value)} {st : List Value} (C : Cx X l E own cc rm ret) {x y : Int32} {off : Int} (tgt : Nat) (d : decode cc pc = .ok (.if_icmp .ge off, 3)) (ht : (pc : Int) + off = (tgt : Int)) (kt : y ≤ x → G X w σ tgt lv st) (kf : ¬ y ≤ x → G X w σ (pc + 3) lv st) : G X w σ pc lv (.int y :: .int x :: st) := by
  obtain ⟨p, l', e, R, s, m, args, below, meth, c, Q, A, E', nL, kc, ks⟩ := X
  intro H locs ls hP hD hS hl
  exact lv_icmp_ge C.1.1 C.1.2.1 d ht (fun q => kt q H locs ls hP hD hS hl) (fun q => kf q H locs ls hP hD hS hl)
theorem g_if_ge {X : Kx} {S : Type} {w : S → va_W} {σ : S} {l : Launch} {E : Ev} {own : String} {cc : ByteArray} {rm : Room} {ret : Option FieldType} {pc : Nat} {lv : List (Option Value)} {st : List Value} (C : Cx X l E own cc rm ret) {x : Int32} {off : Int} (tgt : Nat) (d : decode cc pc = .ok (.ifCond .ge off, 3)) (ht : (pc : Int) + off = (tgt : Int)) (kt : 0 ≤ x → G X w σ tgt lv st) (kf : ¬ 0 ≤ x → G X w σ (pc + 3) lv st) : G X w σ pc lv (.int x :: st) := by
  obtain ⟨p, l', e, R, s, m, args, below, meth, c, Q, A, E', nL, kc, ks⟩ := X
  intro H locs ls hP hD hS hl
  exact lv_if_ge C.1.1 C.1.2.1 d ht (fun q => kt q H locs ls hP hD hS hl) (fun q => kf q H locs ls hP hD hS hl)
theorem g_icmp_gt {X : Kx} {S : Type} {w : S → va_W} {σ : S} {l : Launch} {E : Ev} {own : String} {cc : ByteArray} {rm : Room} {ret : Option FieldType} {pc : Nat} {lv : List (Option Value)} {st : List Value} (C : Cx X l E own cc rm ret) {x y : Int32} {off : Int} (tgt : Nat) (d : decode cc pc = .ok (.if_icmp .gt off, 3)) (ht : (pc : Int) + off = (tgt : Int)) (kt : y < x → G X w σ tgt lv st) (kf : ¬ y < x → G X w σ (pc + 3) lv st) : G X w σ pc lv (.int y :: .int x :: st) := by
  obtain ⟨p, l', e, R, s, m, args, below, meth, c, Q, A, E', nL, kc, ks⟩ := X
  intro H locs ls hP hD hS hl
  exact lv_icmp_gt C.1.1 C.1.2.1 d ht (fun q => kt q H locs ls hP hD hS hl) (fun q => kf q H locs ls hP hD hS hl)
theorem g_if_gt {X : Kx} {S : Type} {w : S → va_W} {σ : S} {l : Launch} {E : Ev} {own : String} {cc : ByteArray} {rm : Room} {ret : Option FieldType} {pc : Nat} {lv : List (Option Value)} {st : List Value} (C : Cx X l E own cc rm ret) {x : Int32} {off : Int} (tgt : Nat) (d : decode cc pc = .ok (.ifCond .gt off, 3)) (ht : (pc : Int) + off = (tgt : Int)) (kt : 0 < x → G X w σ tgt lv st) (kf : ¬ 0 < x → G X w σ (pc + 3) lv st) : G X w σ pc lv (.int x :: st) := by
  obtain ⟨p, l', e, R, s, m, args, below, meth, c, Q, A, E', nL, kc, ks⟩ := X
  intro H locs ls hP hD hS hl
  exact lv_if_gt C.1.1 C.1.2.1 d ht (fun q => kt q H locs ls hP hD hS hl) (fun q => kf q H locs ls hP hD hS hl)
theorem g_icmp_le {X : Kx} {S : Type} {w : S → va_W} {σ : S} {l : Launch} {E : Ev} {own : String} {cc : ByteArray} {rm : Room} {ret : Option FieldType} {pc : Nat} {lv : List (Option Value)} {st : List Value} (C : Cx X l E own cc rm ret) {x y : Int32} {off : Int} (tgt : Nat) (d : decode cc pc = .ok (.if_icmp .le off, 3)) (ht : (pc : Int) + off = (tgt : Int)) (kt : x ≤ y → G X w σ tgt lv st) (kf : ¬ x ≤ y → G X w σ (pc + 3) lv st) : G X w σ pc lv (.int y :: .int x :: st) := by
  obtain ⟨p, l', e, R, s, m, args, below, meth, c, Q, A, E', nL, kc, ks⟩ := X
  intro H locs ls hP hD hS hl
  exact lv_icmp_le C.1.1 C.1.2.1 d ht (fun q => kt q H locs ls hP hD hS hl) (fun q => kf q H locs ls hP hD hS hl)
theorem g_if_le {X : Kx} {S : Type} {w : S → va_W} {σ : S} {l : Launch} {E : Ev} {own : String} {cc : ByteArray} {rm : Room} {ret : Option FieldType} {pc : Nat} {lv : List (Option Value)} {st : List Value} (C : Cx X l E own cc rm ret) {x : Int32} {off : Int} (tgt : Nat) (d : decode cc pc = .ok (.ifCond .le off, 3)) (ht : (pc : Int) + off = (tgt : Int)) (kt : x ≤ 0 → G X w σ tgt lv st) (kf : ¬ x ≤ 0 → G X w σ (pc + 3) lv st) : G X w σ pc lv (.int x :: st) := by
  obtain ⟨p, l', e, R, s, m, args, below, meth, c, Q, A, E', nL, kc, ks⟩ := X
  intro H locs ls hP hD hS hl
  exact lv_if_le C.1.1 C.1.2.1 d ht (fun q => kt q H locs ls hP hD hS hl) (fun q => kf q H locs ls hP hD hS hl)
theorem g_goto {X : Kx} {S : Type} {w : S → va_W} {σ : S} {l : Launch} {E : Ev} {own : String} {cc : ByteArray} {rm : Room} {ret : Option FieldType} {pc : Nat} {lv : List (Option Value)} {st : List Value} (C : Cx X l E own cc rm ret) {off : Int} (tgt : Nat) (d : decode cc pc = .ok (.goto off, 3)) (ht : (pc : Int) + off = (tgt : Int)) (k : G X w σ tgt lv st) : G X w σ pc lv st := by
  obtain ⟨p, l', e, R, s, m, args, below, meth, c, Q, A, E', nL, kc, ks⟩ := X
  intro H locs ls hP hD hS hl
  exact lv_goto C.1.1 C.1.2.1 d ht (k H locs ls hP hD hS hl)
theorem g_tabIn {X : Kx} {S : Type} {w : S → va_W} {σ : S} {l : Launch} {E : Ev} {own : String} {cc : ByteArray} {rm : Room} {ret : Option FieldType} {pc : Nat} {lv : List (Option Value)} {st : List Value} (C : Cx X l E own cc rm ret) {x : Int32} {dflt lo hi off : Int} {offs : Array Int} {len : Nat} (tgt : Nat) (v : Int32) (hx : x = v) (d : decode cc pc = .ok (.tableswitch dflt lo hi offs, len)) (h1 : ¬ v.toInt < lo) (h2 : ¬ hi < v.toInt) (ho : offs[(v.toInt - lo).toNat]? = some off) (ht : (pc : Int) + off = (tgt : Int)) (k : G X w σ tgt lv st) : G X w σ pc lv (.int x :: st) := by
  obtain ⟨p, l', e, R, s, m, args, below, meth, c, Q, A, E', nL, kc, ks⟩ := X
  intro H locs ls hP hD hS hl
  subst hx
  exact lv_tableIn C.1.1 C.1.2.1 d h1 h2 ho ht (k H locs ls hP hD hS hl)
theorem g_tabOut {X : Kx} {S : Type} {w : S → va_W} {σ : S} {l : Launch} {E : Ev} {own : String} {cc : ByteArray} {rm : Room} {ret : Option FieldType} {pc : Nat} {lv : List (Option Value)} {st : List Value} (C : Cx X l E own cc rm ret) {x : Int32} {dflt lo hi : Int} {offs : Array Int} {len : Nat} (tgt : Nat) (h : x.toInt < lo ∨ hi < x.toInt) (d : decode cc pc = .ok (.tableswitch dflt lo hi offs, len)) (ht : (pc : Int) + dflt = (tgt : Int)) (k : G X w σ tgt lv st) : G X w σ pc lv (.int x :: st) := by
  obtain ⟨p, l', e, R, s, m, args, below, meth, c, Q, A, E', nL, kc, ks⟩ := X
  intro H locs ls hP hD hS hl
  exact lv_tableOut C.1.1 C.1.2.1 d h ht (k H locs ls hP hD hS hl)
theorem nar_z {v : Int32} (h : v = 0 ∨ v = 1) : narrow .boolean (.int v) = .int v := by
  rcases h with rfl | rfl <;> rfl
theorem g_ireturn {X : Kx} {S : Type} {w : S → va_W} {σ : S} {l : Launch} {E : Ev} {own : String} {cc : ByteArray} {rm : Room} {pc : Nat} {lv : List (Option Value)} {post : Int32 → S → Prop} {v : Int32} (C : Cx X l E own cc rm (some .int)) (hQ : QI X w post) (d : decode cc pc = .ok (.ireturn, 1)) (h : post v σ) : G X w σ pc lv [.int v] := by
  obtain ⟨p, l', e, R, s, m, args, below, meth, c, Q, A, E', nL, kc, ks⟩ := X
  intro H locs ls hP hD hS hl
  have hq : Q = _ := hQ
  subst hq
  exact W.iret C.1.1 C.1.2.1 C.2.2.2.2.2.1 (fun t ht _ => ⟨⟨v, σ, rfl, h, by rw [ht]; exact hP, hD⟩, hS.F ht⟩) hS.2.2 d C.2.2.2.1
theorem g_zreturn {X : Kx} {S : Type} {w : S → va_W} {σ : S} {l : Launch} {E : Ev} {own : String} {cc : ByteArray} {rm : Room} {pc : Nat} {lv : List (Option Value)} {post : Int32 → S → Prop} {v : Int32} (C : Cx X l E own cc rm (some .boolean)) (hQ : QI X w post) (d : decode cc pc = .ok (.ireturn, 1)) (hz : v = 0 ∨ v = 1) (h : post v σ) : G X w σ pc lv [.int v] := by
  obtain ⟨p, l', e, R, s, m, args, below, meth, c, Q, A, E', nL, kc, ks⟩ := X
  intro H locs ls hP hD hS hl
  have hq : Q = _ := hQ
  subst hq
  exact W.zret C.1.1 C.1.2.1 C.2.2.2.2.2.1 (nar_z hz) (fun t ht _ => ⟨⟨v, σ, rfl, h, by rw [ht]; exact hP, hD⟩, hS.F ht⟩) hS.2.2 d C.2.2.2.1
theorem g_return {X : Kx} {S : Type} {w : S → va_W} {σ : S} {l : Launch} {E : Ev} {own : String} {cc : ByteArray} {rm : Room} {pc : Nat} {lv : List (Option Value)} {post : S → Prop} (C : Cx X l E own cc rm none) (hQ : QV X w post) (d : decode cc pc = .ok (.return_, 1)) (h : post σ) : G X w σ pc lv [] := by
  obtain ⟨p, l', e, R, s, m, args, below, meth, c, Q, A, E', nL, kc, ks⟩ := X
  intro H locs ls hP hD hS hl
  have hq : Q = _ := hQ
  subst hq
  exact W.vret C.1.1 C.1.2.1 C.2.2.2.2.2.1 (fun t ht _ => ⟨⟨σ, rfl, h, by rw [ht]; exact hP, hD⟩, hS.F ht⟩) hS.2.2 d C.2.2.2.1
theorem g_get {X : Kx} {S : Type} {w : S → va_W} {σ : S} {l : Launch} {E : Ev} {own : String} {cc : ByteArray} {rm : Room} {ret : Option FieldType} {pc : Nat} {lv : List (Option Value)} {st : List Value} (C : Cx X l E own cc rm ret) {q0 ci N k idx a0 : Nat} {fs : List Value} {v : Value} {T : u_T} {Cn : String} (he : (w σ)[q0]? = some (a0, .inr (ci, fs))) (hc : vwCl[ci]? = some (Cn, T, N)) (hin : ∀ x ∈ u_ws Cn T N, x ∈ UW) (hk : k < N) (hlink : Cond.fieldLink own idx (T k).1 (T k).2.1 (T k).2.2.1 ∈ UW) (hv : fs[k]? = some v) (d : decode cc pc = .ok (.getfield idx, 3)) (k' : G X w σ (pc + 3) lv (v :: st)) : G X w σ pc lv (.ref a0 :: st) := by
  obtain ⟨p, l', e, R, s, m, args, below, meth, c, Q, A, E', nL, kc, ks⟩ := X
  intro H locs ls hP hD hS hl
  exact va_get C.1.1 C.1.2.1 C.1.2.2.2.2 hin C.1.2.2.2.1 C.2.1.1 hP q0 he hc k hk (C.1.2.2.2.2 _ hlink) (fun _ h9 => h9) hv d (k' H locs ls hP hD hS hl)
theorem g_getN {X : Kx} {S : Type} {w : S → va_W} {σ : S} {l : Launch} {E : Ev} {own : String} {cc : ByteArray} {rm : Room} {ret : Option FieldType} {pc : Nat} {lv : List (Option Value)} {st : List Value} (C : Cx X l E own cc rm ret) {q0 ci N k idx a0 : Nat} {fs : List Value} {v : Value} {T : u_T} {Cn : String} (he : (w σ)[q0]? = some (a0, .inr (ci, fs))) (hc : vwCl[ci]? = some (Cn, T, N)) (hin : ∀ x ∈ u_ws Cn T N, x ∈ UW) (hk : k < N) {host : String} (hlink : Cond.fieldLinkNest own idx (T k).1 (T k).2.1 (T k).2.2.1 host ∈ NW) (hv : fs[k]? = some v) (d : decode cc pc = .ok (.getfield idx, 3)) (k' : G X w σ (pc + 3) lv (v :: st)) : G X w σ pc lv (.ref a0 :: st) := by
  obtain ⟨p, l', e, R, s, m, args, below, meth, c, Q, A, E', nL, kc, ks⟩ := X
  intro H locs ls hP hD hS hl
  exact va_getN C.1.1 C.1.2.1 C.1.2.2.2.2 hin C.1.2.2.2.1 C.2.1.1 hP q0 he hc k hk (va_Nw.use rfl (C.2.1.2.1 _ hlink)) (fun _ h9 => h9) hv d (k' H locs ls hP hD hS hl)
theorem g_put {X : Kx} {S : Type} {w : S → va_W} {σ : S} {l : Launch} {E : Ev} {own : String} {cc : ByteArray} {rm : Room} {ret : Option FieldType} {pc : Nat} {lv : List (Option Value)} {st : List Value} (C : Cx X l E own cc rm ret) {q0 ci N k idx a0 : Nat} {fs : List Value} {v : Value} {T : u_T} {Cn : String} (he : (w σ)[q0]? = some (a0, .inr (ci, fs))) (hc : vwCl[ci]? = some (Cn, T, N)) (hin : ∀ x ∈ u_ws Cn T N, x ∈ UW) (hk : k < N) {σ' : S} {ty0 : Nat → FieldType} (hty : ∀ k, k < N → parseFieldDescriptor (T k).2.2.1 = some (ty0 k)) (hnm : ∀ a, a < N → ∀ b, b < N → a ≠ b → (T a).2.1 ≠ (T b).2.1) (hlink : Cond.fieldLink own idx (T k).1 (T k).2.1 (T k).2.2.1 ∈ UW) (hfin : (T k).2.2.2 = false) (hn : narrow (ty0 k) v = v) (hfit : fits (ty0 k) v = true) (hl0 : k < fs.length) (hw : (w σ).set q0 (a0, .inr (ci, fs.set k v)) = w σ') (d : decode cc pc = .ok (.putfield idx, 3)) (k' : G X w σ' (pc + 3) lv st) : G X w σ pc lv (v :: .ref a0 :: st) := by
  obtain ⟨p, l', e, R, s, m, args, below, meth, c, Q, A, E', nL, kc, ks⟩ := X
  intro H locs ls hP hD hS hl
  exact va_put C.1.1 C.1.2.1 C.1.2.2.2.2 hin ty0 hty hnm C.1.2.2.2.1 C.2.1.1 hP hD hS q0 he hc k hk (C.1.2.2.2.2 _ hlink) (fun _ h9 => h9) hfin (hty k hk) hn hfit hl0 d (fun H1 locs1 hP1 hD1 hS1 => k' H1 locs1 ls (hw ▸ hP1) (hw ▸ hD1) hS1 hl)
theorem g_putN {X : Kx} {S : Type} {w : S → va_W} {σ : S} {l : Launch} {E : Ev} {own : String} {cc : ByteArray} {rm : Room} {ret : Option FieldType} {pc : Nat} {lv : List (Option Value)} {st : List Value} (C : Cx X l E own cc rm ret) {q0 ci N k idx a0 : Nat} {fs : List Value} {v : Value} {T : u_T} {Cn : String} (he : (w σ)[q0]? = some (a0, .inr (ci, fs))) (hc : vwCl[ci]? = some (Cn, T, N)) (hin : ∀ x ∈ u_ws Cn T N, x ∈ UW) (hk : k < N) {σ' : S} {ty0 : Nat → FieldType} (hty : ∀ k, k < N → parseFieldDescriptor (T k).2.2.1 = some (ty0 k)) (hnm : ∀ a, a < N → ∀ b, b < N → a ≠ b → (T a).2.1 ≠ (T b).2.1) {host : String} (hlink : Cond.fieldLinkNest own idx (T k).1 (T k).2.1 (T k).2.2.1 host ∈ NW) (hfin : (T k).2.2.2 = false) (hn : narrow (ty0 k) v = v) (hfit : fits (ty0 k) v = true) (hl0 : k < fs.length) (hw : (w σ).set q0 (a0, .inr (ci, fs.set k v)) = w σ') (d : decode cc pc = .ok (.putfield idx, 3)) (k' : G X w σ' (pc + 3) lv st) : G X w σ pc lv (v :: .ref a0 :: st) := by
  obtain ⟨p, l', e, R, s, m, args, below, meth, c, Q, A, E', nL, kc, ks⟩ := X
  intro H locs ls hP hD hS hl
  exact va_putN C.1.1 C.1.2.1 C.1.2.2.2.2 hin ty0 hty hnm C.1.2.2.2.1 C.2.1.1 hP hD hS q0 he hc k hk (va_Nw.use rfl (C.2.1.2.1 _ hlink)) (fun _ h9 => h9) hfin (hty k hk) hn hfit hl0 d (fun H1 locs1 hP1 hD1 hS1 => k' H1 locs1 ls (hw ▸ hP1) (hw ▸ hD1) hS1 hl)
theorem g_iald {X : Kx} {S : Type} {w : S → va_W} {σ : S} {l : Launch} {E : Ev} {own : String} {cc : ByteArray} {rm : Room} {ret : Option FieldType} {pc : Nat} {lv : List (Option Value)} {st : List Value} (C : Cx X l E own cc rm ret) {q0 a0 n : Nat} {f : Nat → Int32} {i : Int32} (he : (w σ)[q0]? = some (a0, .inl (E.2.1 0, n, .inl f))) (hin : vp_in i n) (d : decode cc pc = .ok (.iaload, 1)) (k : G X w σ (pc + 1) lv (.int (f i.toNatClampNeg) :: st)) : G X w σ pc lv (.int i :: .ref a0 :: st) := by
  obtain ⟨p, l', e, R, s, m, args, below, meth, c, Q, A, E', nL, kc, ks⟩ := X
  intro H locs ls hP hD hS hl
  have hE : E' = E := C.2.2.2.2.2.2.2.1
  subst hE
  exact va_iald C.1.1 C.1.2.1 C.2.1.1 hP q0 0 he rfl hin d (k H locs ls hP hD hS hl)
theorem g_bald {X : Kx} {S : Type} {w : S → va_W} {σ : S} {l : Launch} {E : Ev} {own : String} {cc : ByteArray} {rm : Room} {ret : Option FieldType} {pc : Nat} {lv : List (Option Value)} {st : List Value} (C : Cx X l E own cc rm ret) {q0 a0 n : Nat} {f : Nat → Int32} {i : Int32} (he : (w σ)[q0]? = some (a0, .inl (E.2.1 1, n, .inl f))) (hin : vp_in i n) (d : decode cc pc = .ok (.baload, 1)) (k : G X w σ (pc + 1) lv (.int (f i.toNatClampNeg) :: st)) : G X w σ pc lv (.int i :: .ref a0 :: st) := by
  obtain ⟨p, l', e, R, s, m, args, below, meth, c, Q, A, E', nL, kc, ks⟩ := X
  intro H locs ls hP hD hS hl
  have hE : E' = E := C.2.2.2.2.2.2.2.1
  subst hE
  exact va_bald C.1.1 C.1.2.1 C.2.1.1 hP q0 1 he rfl hin d (k H locs ls hP hD hS hl)
theorem g_zald {X : Kx} {S : Type} {w : S → va_W} {σ : S} {l : Launch} {E : Ev} {own : String} {cc : ByteArray} {rm : Room} {ret : Option FieldType} {pc : Nat} {lv : List (Option Value)} {st : List Value} (C : Cx X l E own cc rm ret) {q0 a0 n : Nat} {f : Nat → Int32} {i : Int32} (he : (w σ)[q0]? = some (a0, .inl (E.2.1 2, n, .inl f))) (hin : vp_in i n) (d : decode cc pc = .ok (.baload, 1)) (k : G X w σ (pc + 1) lv (.int (f i.toNatClampNeg) :: st)) : G X w σ pc lv (.int i :: .ref a0 :: st) := by
  obtain ⟨p, l', e, R, s, m, args, below, meth, c, Q, A, E', nL, kc, ks⟩ := X
  intro H locs ls hP hD hS hl
  have hE : E' = E := C.2.2.2.2.2.2.2.1
  subst hE
  exact va_zald C.1.1 C.1.2.1 C.2.1.1 hP q0 2 he rfl hin d (k H locs ls hP hD hS hl)
theorem g_iast {X : Kx} {S : Type} {w : S → va_W} {σ : S} {l : Launch} {E : Ev} {own : String} {cc : ByteArray} {rm : Room} {ret : Option FieldType} {pc : Nat} {lv : List (Option Value)} {st : List Value} (C : Cx X l E own cc rm ret) {q0 a0 n : Nat} {f : Nat → Int32} {i x : Int32} {σ' : S} (he : (w σ)[q0]? = some (a0, .inl (E.2.1 0, n, .inl f))) (hw : (w σ).set q0 (a0, .inl (E.2.1 0, n, .inl (upd f i.toNatClampNeg x))) = w σ') (hin : vp_in i n) (d : decode cc pc = .ok (.iastore, 1)) (k : G X w σ' (pc + 1) lv st) : G X w σ pc lv (.int x :: .int i :: .ref a0 :: st) := by
  obtain ⟨p, l', e, R, s, m, args, below, meth, c, Q, A, E', nL, kc, ks⟩ := X
  intro H locs ls hP hD hS hl
  have hE : E' = E := C.2.2.2.2.2.2.2.1
  subst hE
  exact va_iast C.1.1 C.1.2.1 C.2.1.1 hP hD hS q0 0 he rfl hin d (fun H1 locs1 hP1 hD1 hS1 => k H1 locs1 ls (hw ▸ hP1) (hw ▸ hD1) hS1 hl)
theorem g_bast {X : Kx} {S : Type} {w : S → va_W} {σ : S} {l : Launch} {E : Ev} {own : String} {cc : ByteArray} {rm : Room} {ret : Option FieldType} {pc : Nat} {lv : List (Option Value)} {st : List Value} (C : Cx X l E own cc rm ret) {q0 a0 n : Nat} {f : Nat → Int32} {i x : Int32} {σ' : S} (he : (w σ)[q0]? = some (a0, .inl (E.2.1 1, n, .inl f))) (hw : (w σ).set q0 (a0, .inl (E.2.1 1, n, .inl (upd f i.toNatClampNeg (vp_nar .byte x)))) = w σ') (hin : vp_in i n) (d : decode cc pc = .ok (.bastore, 1)) (k : G X w σ' (pc + 1) lv st) : G X w σ pc lv (.int x :: .int i :: .ref a0 :: st) := by
  obtain ⟨p, l', e, R, s, m, args, below, meth, c, Q, A, E', nL, kc, ks⟩ := X
  intro H locs ls hP hD hS hl
  have hE : E' = E := C.2.2.2.2.2.2.2.1
  subst hE
  exact va_bast C.1.1 C.1.2.1 C.2.1.1 hP hD hS q0 1 he rfl hin d (fun H1 locs1 hP1 hD1 hS1 => k H1 locs1 ls (hw ▸ hP1) (hw ▸ hD1) hS1 hl)
theorem g_zast {X : Kx} {S : Type} {w : S → va_W} {σ : S} {l : Launch} {E : Ev} {own : String} {cc : ByteArray} {rm : Room} {ret : Option FieldType} {pc : Nat} {lv : List (Option Value)} {st : List Value} (C : Cx X l E own cc rm ret) {q0 a0 n : Nat} {f : Nat → Int32} {i x : Int32} {σ' : S} (he : (w σ)[q0]? = some (a0, .inl (E.2.1 2, n, .inl f))) (hw : (w σ).set q0 (a0, .inl (E.2.1 2, n, .inl (upd f i.toNatClampNeg (vp_nar .boolean x)))) = w σ') (hin : vp_in i n) (d : decode cc pc = .ok (.bastore, 1)) (k : G X w σ' (pc + 1) lv st) : G X w σ pc lv (.int x :: .int i :: .ref a0 :: st) := by
  obtain ⟨p, l', e, R, s, m, args, below, meth, c, Q, A, E', nL, kc, ks⟩ := X
  intro H locs ls hP hD hS hl
  have hE : E' = E := C.2.2.2.2.2.2.2.1
  subst hE
  exact va_zast C.1.1 C.1.2.1 C.2.1.1 hP hD hS q0 2 he rfl hin d (fun H1 locs1 hP1 hD1 hS1 => k H1 locs1 ls (hw ▸ hP1) (hw ▸ hD1) hS1 hl)
theorem g_mmax {X : Kx} {S : Type} {w : S → va_W} {σ : S} {l : Launch} {E : Ev} {own : String} {cc : ByteArray} {rm : Room} {ret : Option FieldType} {pc : Nat} {lv : List (Option Value)} {st : List Value} (C : Cx X l E own cc rm ret) {idx : Nat} {x y : Int32} (h1 : Cond.methodLink own idx Lib.Math.max.name ∈ UW) (h2 : Cond.static Lib.Math.max.name ∈ UW) (h3 : Cond.initialized "java/lang/Math" ∈ UW) (h4 : Cond.code Lib.Math.max.name Lib.Math.max.code 2 (some .int) ∈ UW) (hR : 1 ≤ rm.frames ∧ (st.map fun v => v.category).sum + 13 ≤ rm.locals) (d : decode cc pc = .ok (.invokestatic idx, 3)) (k : G X w σ (pc + 3) lv (.int (if x < y then y else x) :: st)) : G X w σ pc lv (.int y :: .int x :: st) := by
  obtain ⟨p, l', e, R, s, m, args, below, meth, c, Q, A, E', nL, kc, ks⟩ := X
  intro H locs ls hP hD hS hl
  have hR' : R = rm := C.2.2.2.2.1
  subst hR'
  exact va_mmax C.1.1 C.1.2.1 (C.1.2.2.1.trans hl.1.symm) C.1.2.2.2.1 (C.1.2.2.2.2 _ h1) (C.1.2.2.2.2 _ h2) (C.1.2.2.2.2 _ h3) (C.1.2.2.2.2 _ h4) hR.1 hR.2 C.2.2.2.2.2.2.2.2.1 C.2.2.2.2.2.2.2.2.2 d (k H locs ls hP hD hS hl)
theorem g_mmin {X : Kx} {S : Type} {w : S → va_W} {σ : S} {l : Launch} {E : Ev} {own : String} {cc : ByteArray} {rm : Room} {ret : Option FieldType} {pc : Nat} {lv : List (Option Value)} {st : List Value} (C : Cx X l E own cc rm ret) {idx : Nat} {x y : Int32} (h1 : Cond.methodLink own idx Lib.Math.min.name ∈ UW) (h2 : Cond.static Lib.Math.min.name ∈ UW) (h3 : Cond.initialized "java/lang/Math" ∈ UW) (h4 : Cond.code Lib.Math.min.name Lib.Math.min.code 2 (some .int) ∈ UW) (hR : 1 ≤ rm.frames ∧ (st.map fun v => v.category).sum + 13 ≤ rm.locals) (d : decode cc pc = .ok (.invokestatic idx, 3)) (k : G X w σ (pc + 3) lv (.int (if y < x then y else x) :: st)) : G X w σ pc lv (.int y :: .int x :: st) := by
  obtain ⟨p, l', e, R, s, m, args, below, meth, c, Q, A, E', nL, kc, ks⟩ := X
  intro H locs ls hP hD hS hl
  have hR' : R = rm := C.2.2.2.2.1
  subst hR'
  exact va_mmin C.1.1 C.1.2.1 (C.1.2.2.1.trans hl.1.symm) C.1.2.2.2.1 (C.1.2.2.2.2 _ h1) (C.1.2.2.2.2 _ h2) (C.1.2.2.2.2 _ h3) (C.1.2.2.2.2 _ h4) hR.1 hR.2 C.2.2.2.2.2.2.2.2.1 C.2.2.2.2.2.2.2.2.2 d (k H locs ls hP hD hS hl)
theorem g_mabs {X : Kx} {S : Type} {w : S → va_W} {σ : S} {l : Launch} {E : Ev} {own : String} {cc : ByteArray} {rm : Room} {ret : Option FieldType} {pc : Nat} {lv : List (Option Value)} {st : List Value} (C : Cx X l E own cc rm ret) {idx : Nat} {x : Int32} (h1 : Cond.methodLink own idx Lib.Math.abs.name ∈ UW) (h2 : Cond.static Lib.Math.abs.name ∈ UW) (h3 : Cond.initialized "java/lang/Math" ∈ UW) (h4 : Cond.code Lib.Math.abs.name Lib.Math.abs.code 1 (some .int) ∈ UW) (hR : 1 ≤ rm.frames ∧ (st.map fun v => v.category).sum + 13 ≤ rm.locals) (d : decode cc pc = .ok (.invokestatic idx, 3)) (k : G X w σ (pc + 3) lv (.int (if 0 ≤ x then x else 0 - x) :: st)) : G X w σ pc lv (.int x :: st) := by
  obtain ⟨p, l', e, R, s, m, args, below, meth, c, Q, A, E', nL, kc, ks⟩ := X
  intro H locs ls hP hD hS hl
  have hR' : R = rm := C.2.2.2.2.1
  subst hR'
  exact va_mabs C.1.1 C.1.2.1 (C.1.2.2.1.trans hl.1.symm) C.1.2.2.2.1 (C.1.2.2.2.2 _ h1) (C.1.2.2.2.2 _ h2) (C.1.2.2.2.2 _ h3) (C.1.2.2.2.2 _ h4) hR.1 hR.2 C.2.2.2.2.2.2.2.2.1 C.2.2.2.2.2.2.2.2.2 d (k H locs ls hP hD hS hl)
theorem g_callVi {X : Kx} {S : Type} {w : S → va_W} {σ : S} {l : Launch} {E : Ev} {own : String} {cc : ByteArray} {rm : Room} {ret : Option FieldType} {pc : Nat} {lv : List (Option Value)} {st : List Value} (C : Cx X l E own cc rm ret) {y : MethodName} {bytes : ByteArray} {nL' idx : Nat} (n : Nat) {rm' : Room} {As rest : List Value} {post : Int32 → S → Prop} {rt : FieldType} {b q0 ci N : Nat} {fs : List Value} {T : u_T} {Cn : String} (h1 : Cond.methodLink own idx y ∈ UW) (h2 : Cond.instanceMethod y ∈ UW) (h3 : Cond.selects Cn y y ∈ UW) (h4 : Cond.initialized Cn ∈ UW) (h5 : Cond.code y bytes nL' (some rt) ∈ UW) (hd : y.cls = Cn ∧ y.cls ≠ "java/lang/invoke/MethodHandle" ∧ y.cls ≠ "java/lang/invoke/VarHandle" ∧ (parseMethodDescriptor y.desc).map (fun d => d.parameters.length) = some n) (he : (w σ)[q0]? = some (b, .inr (ci, fs))) (hc : vwCl[ci]? = some (Cn, T, N)) (hM : CI l E w y bytes nL' rt rm' (.ref b :: As) σ post) (hz : rm'.cells = 0 ∧ rm'.slots = 0) (hR : rm'.frames + 1 ≤ rm.frames ∧ 8 + (nL' + 11) + rm'.locals ≤ rm.locals) (hn : As.length = n) (hst : st = As.reverse ++ .ref b :: rest) (hW : (rest.map fun v => v.category).sum ≤ 8) (d : decode cc pc = .ok (.invokevirtual idx, 3)) (k : ∀ (r : Int32) (u : S), post r u → G X w u (pc + 3) lv (.int r :: rest)) : G X w σ pc lv st := by
  obtain ⟨p, l', e, R, s, m, args, below, meth, c, Q, A, E', nL, kc, ks⟩ := X
  intro H locs ls hP hD hS hl
  have hR' : R = rm := C.2.2.2.2.1
  have hl' : l' = l := C.2.2.2.2.2.2.1
  have hE : E' = E := C.2.2.2.2.2.2.2.1
  subst hR'
  subst hl'
  subst hE
  have hFr : ∀ q, va_A (w σ) H.size q → A q := fun q h => h.elim (fun ⟨k9, e9, h9⟩ => hD.2 k9 _ h9) (fun h9 => C.2.2.1 q (Nat.le_trans hS.1 h9))
  subst hst
  exact va_calli (va_runV (As := As) (rest := rest) C.1 (hM H.size) (cwV n C.1.2.2.2.2 (wsV_gi h1 h2 h3 h4 h5) rfl hz.1 hz.2 hd hR) ⟨preW.blind, va_recv C.2.1.1 hP hc he, fun U hU hW9 => ⟨rfl, by rw [hU], by rw [hU]; exact hP, hD.weaken (fun _ _ _ _ => trivial), Fx.call C.2.1 hS hFr hW9 hU⟩⟩ rfl hn hl.1 rfl (lv_room hW) d ⟨C.2.2.2.2.2.2.2.2.1, C.2.2.2.2.2.2.2.2.2⟩) hS (fun q _ h => hFr q h) hFr (fun r u t H1 locs1 ht hvm hp hB hz1 hk1 hS1 => k r u hp H1 locs1 ls (ht ▸ hB.1) (hB.2.weaken (fun _ _ _ h => hFr _ h)) hS1 hl)
theorem g_callSi {X : Kx} {S : Type} {w : S → va_W} {σ : S} {l : Launch} {E : Ev} {own : String} {cc : ByteArray} {rm : Room} {ret : Option FieldType} {pc : Nat} {lv : List (Option Value)} {st : List Value} (C : Cx X l E own cc rm ret) {y : MethodName} {bytes : ByteArray} {nL' idx : Nat} (n : Nat) {rm' : Room} {As rest : List Value} {post : Int32 → S → Prop} {rt : FieldType} (h1 : Cond.methodLink own idx y ∈ UW) (h2 : Cond.static y ∈ UW) (h4 : Cond.initialized y.cls ∈ UW) (h5 : Cond.code y bytes nL' (some rt) ∈ UW) (hd : y.cls ≠ "java/lang/invoke/MethodHandle" ∧ y.cls ≠ "java/lang/invoke/VarHandle" ∧ (parseMethodDescriptor y.desc).map (fun d => d.parameters.length) = some n) (hM : CI l E w y bytes nL' rt rm' As σ post) (hz : rm'.cells = 0 ∧ rm'.slots = 0) (hR : rm'.frames + 1 ≤ rm.frames ∧ 8 + (nL' + 11) + rm'.locals ≤ rm.locals) (hn : As.length = n) (hst : st = As.reverse ++ rest) (hW : (rest.map fun v => v.category).sum ≤ 8) (d : decode cc pc = .ok (.invokestatic idx, 3)) (k : ∀ (r : Int32) (u : S), post r u → G X w u (pc + 3) lv (.int r :: rest)) : G X w σ pc lv st := by
  obtain ⟨p, l', e, R, s, m, args, below, meth, c, Q, A, E', nL, kc, ks⟩ := X
  intro H locs ls hP hD hS hl
  have hR' : R = rm := C.2.2.2.2.1
  have hl' : l' = l := C.2.2.2.2.2.2.1
  have hE : E' = E := C.2.2.2.2.2.2.2.1
  subst hR'
  subst hl'
  subst hE
  have hFr : ∀ q, va_A (w σ) H.size q → A q := fun q h => h.elim (fun ⟨k9, e9, h9⟩ => hD.2 k9 _ h9) (fun h9 => C.2.2.1 q (Nat.le_trans hS.1 h9))
  subst hst
  exact va_calli (va_runS (As := As) (rest := rest) C.1 (hM H.size) (va_cwS n C.1.2.2.2.2 (wsS_gi h1 h2 h4 h5) rfl hz.1 hz.2 hd hR) ⟨preW.blind, fun U hU hW9 => ⟨rfl, by rw [hU], by rw [hU]; exact hP, hD.weaken (fun _ _ _ _ => trivial), Fx.call C.2.1 hS hFr hW9 hU⟩⟩ rfl hn hl.1 rfl (lv_room hW) d ⟨C.2.2.2.2.2.2.2.2.1, C.2.2.2.2.2.2.2.2.2⟩) hS (fun q _ h => hFr q h) hFr (fun r u t H1 locs1 ht hvm hp hB hz1 hk1 hS1 => k r u hp H1 locs1 ls (ht ▸ hB.1) (hB.2.weaken (fun _ _ _ h => hFr _ h)) hS1 hl)
theorem g_callSNi {X : Kx} {S : Type} {w : S → va_W} {σ : S} {l : Launch} {E : Ev} {own : String} {cc : ByteArray} {rm : Room} {ret : Option FieldType} {pc : Nat} {lv : List (Option Value)} {st : List Value} (C : Cx X l E own cc rm ret) {y : MethodName} {bytes : ByteArray} {nL' idx : Nat} (n : Nat) {rm' : Room} {As rest : List Value} {post : Int32 → S → Prop} {rt : FieldType} {host : String} (h1 : Cond.methodLinkNest own idx y host ∈ NW) (h2 : Cond.static y ∈ UW) (h4 : Cond.initialized y.cls ∈ UW) (h5 : Cond.code y bytes nL' (some rt) ∈ UW) (hd : y.cls ≠ "java/lang/invoke/MethodHandle" ∧ y.cls ≠ "java/lang/invoke/VarHandle" ∧ (parseMethodDescriptor y.desc).map (fun d => d.parameters.length) = some n) (hM : CI l E w y bytes nL' rt rm' As σ post) (hz : rm'.cells = 0 ∧ rm'.slots = 0) (hR : rm'.frames + 1 ≤ rm.frames ∧ 8 + (nL' + 11) + rm'.locals ≤ rm.locals) (hn : As.length = n) (hst : st = As.reverse ++ rest) (hW : (rest.map fun v => v.category).sum ≤ 8) (d : decode cc pc = .ok (.invokestatic idx, 3)) (k : ∀ (r : Int32) (u : S), post r u → G X w u (pc + 3) lv (.int r :: rest)) : G X w σ pc lv st := by
  obtain ⟨p, l', e, R, s, m, args, below, meth, c, Q, A, E', nL, kc, ks⟩ := X
  intro H locs ls hP hD hS hl
  have hR' : R = rm := C.2.2.2.2.1
  have hl' : l' = l := C.2.2.2.2.2.2.1
  have hE : E' = E := C.2.2.2.2.2.2.2.1
  subst hR'
  subst hl'
  subst hE
  have hFr : ∀ q, va_A (w σ) H.size q → A q := fun q h => h.elim (fun ⟨k9, e9, h9⟩ => hD.2 k9 _ h9) (fun h9 => C.2.2.1 q (Nat.le_trans hS.1 h9))
  subst hst
  exact va_calli (va_runSN (As := As) (rest := rest) C.1 (hM H.size) ⟨va_cnB n C.1.2.2.2.2 (WS_gi h5) rfl hz.1 hz.2 (C.2.1.2.1 _ h1) (C.1.2.2.2.2 _ h4) hd hR, C.1.2.2.2.2 _ h2, trivial⟩ ⟨preW.blind, fun U hU hW9 => ⟨rfl, by rw [hU], by rw [hU]; exact hP, hD.weaken (fun _ _ _ _ => trivial), Fx.call C.2.1 hS hFr hW9 hU⟩⟩ rfl hn hl.1 rfl (lv_room hW) d ⟨C.2.2.2.2.2.2.2.2.1, C.2.2.2.2.2.2.2.2.2⟩) hS (fun q _ h => hFr q h) hFr (fun r u t H1 locs1 ht hvm hp hB hz1 hk1 hS1 => k r u hp H1 locs1 ls (ht ▸ hB.1) (hB.2.weaken (fun _ _ _ h => hFr _ h)) hS1 hl)
theorem g_callVv {X : Kx} {S : Type} {w : S → va_W} {σ : S} {l : Launch} {E : Ev} {own : String} {cc : ByteArray} {rm : Room} {ret : Option FieldType} {pc : Nat} {lv : List (Option Value)} {st : List Value} (C : Cx X l E own cc rm ret) {y : MethodName} {bytes : ByteArray} {nL' idx : Nat} (n : Nat) {rm' : Room} {As rest : List Value} {post : S → Prop} {b q0 ci N : Nat} {fs : List Value} {T : u_T} {Cn : String} (h1 : Cond.methodLink own idx y ∈ UW) (h2 : Cond.instanceMethod y ∈ UW) (h3 : Cond.selects Cn y y ∈ UW) (h4 : Cond.initialized Cn ∈ UW) (h5 : Cond.code y bytes nL' none ∈ UW) (hd : y.cls = Cn ∧ y.cls ≠ "java/lang/invoke/MethodHandle" ∧ y.cls ≠ "java/lang/invoke/VarHandle" ∧ (parseMethodDescriptor y.desc).map (fun d => d.parameters.length) = some n) (he : (w σ)[q0]? = some (b, .inr (ci, fs))) (hc : vwCl[ci]? = some (Cn, T, N)) (hM : CV l E w y bytes nL' rm' (.ref b :: As) σ post) (hz : rm'.cells = 0 ∧ rm'.slots = 0) (hR : rm'.frames + 1 ≤ rm.frames ∧ 8 + (nL' + 11) + rm'.locals ≤ rm.locals) (hn : As.length = n) (hst : st = As.reverse ++ .ref b :: rest) (hW : (rest.map fun v => v.category).sum ≤ 8) (d : decode cc pc = .ok (.invokevirtual idx, 3)) (k : ∀ u : S, post u → G X w u (pc + 3) lv rest) : G X w σ pc lv st := by
  obtain ⟨p, l', e, R, s, m, args, below, meth, c, Q, A, E', nL, kc, ks⟩ := X
  intro H locs ls hP hD hS hl
  have hR' : R = rm := C.2.2.2.2.1
  have hl' : l' = l := C.2.2.2.2.2.2.1
  have hE : E' = E := C.2.2.2.2.2.2.2.1
  subst hR'
  subst hl'
  subst hE
  have hFr : ∀ q, va_A (w σ) H.size q → A q := fun q h => h.elim (fun ⟨k9, e9, h9⟩ => hD.2 k9 _ h9) (fun h9 => C.2.2.1 q (Nat.le_trans hS.1 h9))
  subst hst
  exact va_callv (va_runV (As := As) (rest := rest) C.1 (hM H.size) (cwV n C.1.2.2.2.2 (wsV_gi h1 h2 h3 h4 h5) rfl hz.1 hz.2 hd hR) ⟨preW.blind, va_recv C.2.1.1 hP hc he, fun U hU hW9 => ⟨rfl, by rw [hU], by rw [hU]; exact hP, hD.weaken (fun _ _ _ _ => trivial), Fx.call C.2.1 hS hFr hW9 hU⟩⟩ rfl hn hl.1 rfl (lv_room hW) d ⟨C.2.2.2.2.2.2.2.2.1, C.2.2.2.2.2.2.2.2.2⟩) hS (fun q _ h => hFr q h) hFr (fun u t H1 locs1 ht hvm hp hB hz1 hk1 hS1 => k u hp H1 locs1 ls (ht ▸ hB.1) (hB.2.weaken (fun _ _ _ h => hFr _ h)) hS1 hl)
theorem g_callSv {X : Kx} {S : Type} {w : S → va_W} {σ : S} {l : Launch} {E : Ev} {own : String} {cc : ByteArray} {rm : Room} {ret : Option FieldType} {pc : Nat} {lv : List (Option Value)} {st : List Value} (C : Cx X l E own cc rm ret) {y : MethodName} {bytes : ByteArray} {nL' idx : Nat} (n : Nat) {rm' : Room} {As rest : List Value} {post : S → Prop} (h1 : Cond.methodLink own idx y ∈ UW) (h2 : Cond.static y ∈ UW) (h4 : Cond.initialized y.cls ∈ UW) (h5 : Cond.code y bytes nL' none ∈ UW) (hd : y.cls ≠ "java/lang/invoke/MethodHandle" ∧ y.cls ≠ "java/lang/invoke/VarHandle" ∧ (parseMethodDescriptor y.desc).map (fun d => d.parameters.length) = some n) (hM : CV l E w y bytes nL' rm' As σ post) (hz : rm'.cells = 0 ∧ rm'.slots = 0) (hR : rm'.frames + 1 ≤ rm.frames ∧ 8 + (nL' + 11) + rm'.locals ≤ rm.locals) (hn : As.length = n) (hst : st = As.reverse ++ rest) (hW : (rest.map fun v => v.category).sum ≤ 8) (d : decode cc pc = .ok (.invokestatic idx, 3)) (k : ∀ u : S, post u → G X w u (pc + 3) lv rest) : G X w σ pc lv st := by
  obtain ⟨p, l', e, R, s, m, args, below, meth, c, Q, A, E', nL, kc, ks⟩ := X
  intro H locs ls hP hD hS hl
  have hR' : R = rm := C.2.2.2.2.1
  have hl' : l' = l := C.2.2.2.2.2.2.1
  have hE : E' = E := C.2.2.2.2.2.2.2.1
  subst hR'
  subst hl'
  subst hE
  have hFr : ∀ q, va_A (w σ) H.size q → A q := fun q h => h.elim (fun ⟨k9, e9, h9⟩ => hD.2 k9 _ h9) (fun h9 => C.2.2.1 q (Nat.le_trans hS.1 h9))
  subst hst
  exact va_callv (va_runS (As := As) (rest := rest) C.1 (hM H.size) (va_cwS n C.1.2.2.2.2 (wsS_gi h1 h2 h4 h5) rfl hz.1 hz.2 hd hR) ⟨preW.blind, fun U hU hW9 => ⟨rfl, by rw [hU], by rw [hU]; exact hP, hD.weaken (fun _ _ _ _ => trivial), Fx.call C.2.1 hS hFr hW9 hU⟩⟩ rfl hn hl.1 rfl (lv_room hW) d ⟨C.2.2.2.2.2.2.2.2.1, C.2.2.2.2.2.2.2.2.2⟩) hS (fun q _ h => hFr q h) hFr (fun u t H1 locs1 ht hvm hp hB hz1 hk1 hS1 => k u hp H1 locs1 ls (ht ▸ hB.1) (hB.2.weaken (fun _ _ _ h => hFr _ h)) hS1 hl)
theorem g_callSNv {X : Kx} {S : Type} {w : S → va_W} {σ : S} {l : Launch} {E : Ev} {own : String} {cc : ByteArray} {rm : Room} {ret : Option FieldType} {pc : Nat} {lv : List (Option Value)} {st : List Value} (C : Cx X l E own cc rm ret) {y : MethodName} {bytes : ByteArray} {nL' idx : Nat} (n : Nat) {rm' : Room} {As rest : List Value} {post : S → Prop} {host : String} (h1 : Cond.methodLinkNest own idx y host ∈ NW) (h2 : Cond.static y ∈ UW) (h4 : Cond.initialized y.cls ∈ UW) (h5 : Cond.code y bytes nL' none ∈ UW) (hd : y.cls ≠ "java/lang/invoke/MethodHandle" ∧ y.cls ≠ "java/lang/invoke/VarHandle" ∧ (parseMethodDescriptor y.desc).map (fun d => d.parameters.length) = some n) (hM : CV l E w y bytes nL' rm' As σ post) (hz : rm'.cells = 0 ∧ rm'.slots = 0) (hR : rm'.frames + 1 ≤ rm.frames ∧ 8 + (nL' + 11) + rm'.locals ≤ rm.locals) (hn : As.length = n) (hst : st = As.reverse ++ rest) (hW : (rest.map fun v => v.category).sum ≤ 8) (d : decode cc pc = .ok (.invokestatic idx, 3)) (k : ∀ u : S, post u → G X w u (pc + 3) lv rest) : G X w σ pc lv st := by
  obtain ⟨p, l', e, R, s, m, args, below, meth, c, Q, A, E', nL, kc, ks⟩ := X
  intro H locs ls hP hD hS hl
  have hR' : R = rm := C.2.2.2.2.1
  have hl' : l' = l := C.2.2.2.2.2.2.1
  have hE : E' = E := C.2.2.2.2.2.2.2.1
  subst hR'
  subst hl'
  subst hE
  have hFr : ∀ q, va_A (w σ) H.size q → A q := fun q h => h.elim (fun ⟨k9, e9, h9⟩ => hD.2 k9 _ h9) (fun h9 => C.2.2.1 q (Nat.le_trans hS.1 h9))
  subst hst
  exact va_callv (va_runSN (As := As) (rest := rest) C.1 (hM H.size) ⟨va_cnB n C.1.2.2.2.2 (WS_gi h5) rfl hz.1 hz.2 (C.2.1.2.1 _ h1) (C.1.2.2.2.2 _ h4) hd hR, C.1.2.2.2.2 _ h2, trivial⟩ ⟨preW.blind, fun U hU hW9 => ⟨rfl, by rw [hU], by rw [hU]; exact hP, hD.weaken (fun _ _ _ _ => trivial), Fx.call C.2.1 hS hFr hW9 hU⟩⟩ rfl hn hl.1 rfl (lv_room hW) d ⟨C.2.2.2.2.2.2.2.2.1, C.2.2.2.2.2.2.2.2.2⟩) hS (fun q _ h => hFr q h) hFr (fun u t H1 locs1 ht hvm hp hB hz1 hk1 hS1 => k u hp H1 locs1 ls (ht ▸ hB.1) (hB.2.weaken (fun _ _ _ h => hFr _ h)) hS1 hl)
/-! loops: a body that may go on, n times at most -/
def lpN {α : Type} (B : (α → Prop) → α → Prop) : Nat → α → Prop
  | 0, _ => False
  | n + 1, a => B (lpN B n) a
theorem g_loop {α : Type} {B : (α → Prop) → α → Prop} {J : α → Prop} (hB : ∀ kb : α → Prop, (∀ a, kb a → J a) → ∀ a, B kb a → J a) : ∀ (n : Nat) (a : α), lpN B n a → J a
  | 0, _, h => h.elim
  | n + 1, a, h => hB (lpN B n) (fun b hb => g_loop hB n b hb) a h
theorem fit_z {v : Int32} (h : v = 0 ∨ v = 1) : fits .boolean (.int v) = true := by
  rcases h with rfl | rfl <;> rfl
/-! fewer known locals -/
def lvLe : List (Option Value) → List (Option Value) → Prop
  | [], [] => True
  | none :: t, _ :: t' => lvLe t t'
  | some v :: t, x :: t' => x = some v ∧ lvLe t t'
  | _, _ => False
theorem lvLe_at : ∀ {lv' lv : List (Option Value)}, lvLe lv' lv → lv'.length = lv.length ∧ ∀ (i : Nat) (v : Value), lv'[i]? = some (some v) → lv[i]? = some (some v)
  | [], [], _ => ⟨rfl, fun i v h => by simp at h⟩
  | none :: t, x :: t', h => by
    obtain ⟨h1, h2⟩ := lvLe_at (lv' := t) (lv := t') h
    refine ⟨by simp [h1], fun i v hi => ?_⟩
    cases i with
    | zero => simp at hi
    | succ i => simpa using h2 i v (by simpa using hi)
  | some u :: t, x :: t', h => by
    obtain ⟨h0, h⟩ := h
    obtain ⟨h1, h2⟩ := lvLe_at (lv' := t) (lv := t') h
    refine ⟨by simp [h1], fun i v hi => ?_⟩
    cases i with
    | zero =>
      subst h0
      simpa using hi
    | succ i => simpa using h2 i v (by simpa using hi)
theorem g_wk {X : Kx} {S : Type} {w : S → va_W} {σ : S} {pc : Nat} {lv' lv : List (Option Value)} {st : List Value} (k : G X w σ pc lv' st) (h : lvLe lv' lv) : G X w σ pc lv st := by
  obtain ⟨p, l', e, R, s, m, args, below, meth, c, Q, A, E', nL, kc, ks⟩ := X
  intro H locs ls hP hD hS hl
  obtain ⟨h1, h2⟩ := lvLe_at h
  refine k H locs ls hP hD hS ⟨hl.1, hl.2.1, fun v hv => ?_, h1.trans hl.2.2.2.1, fun i v hi => hl.2.2.2.2 i v (h2 i v hi)⟩
  obtain ⟨i, hi⟩ := List.getElem?_of_mem hv
  exact hl.2.2.1 v (List.mem_of_getElem? (h2 i v hi))
end
section
theorem vp_lt {i : Int32} {n : Nat} (h : vp_in i n) : i.toNatClampNeg < n := Nat.not_le.mp fun q => h (Or.inr q)
theorem g_aald {X : Kx} {S : Type} {w : S → va_W} {σ : S} {l : Launch} {E : Ev} {own : String} {cc : ByteArray} {rm : Room} {ret : Option FieldType} {pc : Nat} {lv : List (Option Value)} {st : List Value} (C : Cx X l E own cc rm ret) {q0 a0 n : Nat} {f : Nat → Option Nat} {i : Int32} (he : (w σ)[q0]? = some (a0, .inl (E.2.1 4, n, .inr (.inr (.inr (.inr f)))))) (hin : vp_in i n) (d : decode cc pc = .ok (.aaload, 1)) (k : G X w σ (pc + 1) lv (va_rf (f i.toNatClampNeg) :: st)) : G X w σ pc lv (.int i :: .ref a0 :: st) := by
  obtain ⟨p, l', e, R, s, m, args, below, meth, c, Q, A, E', nL, kc, ks⟩ := X
  intro H locs ls hP hD hS hl
  have hE : E' = E := C.2.2.2.2.2.2.2.1
  subst hE
  exact W.aald (v := va_rf (f i.toNatClampNeg)) (ty := .array .int) C.1.1 C.1.2.1 (hP q0 _ he) ((C.2.1.1.2 4 _ rfl).1 n (fun j => va_rf (f j))) rfl (fun q => by cases q) (by show ¬ (i < 0 ∨ (arrV _ _ _).slots.size ≤ _); rw [arrV_size]; exact hin) (by show (arrV _ _ _).slots[_]? = _; rw [arrV_read _ _ (vp_lt hin)]) rfl rfl d (k H locs ls hP hD hS hl)
theorem g_alen0 {X : Kx} {S : Type} {w : S → va_W} {σ : S} {l : Launch} {E : Ev} {own : String} {cc : ByteArray} {rm : Room} {ret : Option FieldType} {pc : Nat} {lv : List (Option Value)} {st : List Value} (C : Cx X l E own cc rm ret) {q0 a0 n : Nat} {f : Nat → Int32} {v : Int32} (he : (w σ)[q0]? = some (a0, .inl (E.2.1 0, n, .inl f))) (hv : Int32.ofNat n = v) (d : decode cc pc = .ok (.arraylength, 1)) (k : G X w σ (pc + 1) lv (.int v :: st)) : G X w σ pc lv (.ref a0 :: st) := by
  obtain ⟨p, l', e, R, s, m, args, below, meth, c, Q, A, E', nL, kc, ks⟩ := X
  intro H locs ls hP hD hS hl
  have hE : E' = E := C.2.2.2.2.2.2.2.1
  subst hE
  exact va_alen C.1.1 C.1.2.1 C.2.1.1 hP q0 0 he rfl hv d (k H locs ls hP hD hS hl)
theorem g_alen1 {X : Kx} {S : Type} {w : S → va_W} {σ : S} {l : Launch} {E : Ev} {own : String} {cc : ByteArray} {rm : Room} {ret : Option FieldType} {pc : Nat} {lv : List (Option Value)} {st : List Value} (C : Cx X l E own cc rm ret) {q0 a0 n : Nat} {f : Nat → Int32} {v : Int32} (he : (w σ)[q0]? = some (a0, .inl (E.2.1 1, n, .inl f))) (hv : Int32.ofNat n = v) (d : decode cc pc = .ok (.arraylength, 1)) (k : G X w σ (pc + 1) lv (.int v :: st)) : G X w σ pc lv (.ref a0 :: st) := by
  obtain ⟨p, l', e, R, s, m, args, below, meth, c, Q, A, E', nL, kc, ks⟩ := X
  intro H locs ls hP hD hS hl
  have hE : E' = E := C.2.2.2.2.2.2.2.1
  subst hE
  exact va_alen C.1.1 C.1.2.1 C.2.1.1 hP q0 1 he rfl hv d (k H locs ls hP hD hS hl)
theorem g_alen2 {X : Kx} {S : Type} {w : S → va_W} {σ : S} {l : Launch} {E : Ev} {own : String} {cc : ByteArray} {rm : Room} {ret : Option FieldType} {pc : Nat} {lv : List (Option Value)} {st : List Value} (C : Cx X l E own cc rm ret) {q0 a0 n : Nat} {f : Nat → Int32} {v : Int32} (he : (w σ)[q0]? = some (a0, .inl (E.2.1 2, n, .inl f))) (hv : Int32.ofNat n = v) (d : decode cc pc = .ok (.arraylength, 1)) (k : G X w σ (pc + 1) lv (.int v :: st)) : G X w σ pc lv (.ref a0 :: st) := by
  obtain ⟨p, l', e, R, s, m, args, below, meth, c, Q, A, E', nL, kc, ks⟩ := X
  intro H locs ls hP hD hS hl
  have hE : E' = E := C.2.2.2.2.2.2.2.1
  subst hE
  exact va_alen C.1.1 C.1.2.1 C.2.1.1 hP q0 2 he rfl hv d (k H locs ls hP hD hS hl)
theorem g_copyi {X : Kx} {S : Type} {w : S → va_W} {σ : S} {l : Launch} {E : Ev} {own : String} {cc : ByteArray} {rm : Room} {ret : Option FieldType} {pc : Nat} {lv : List (Option Value)} {st : List Value} (C : Cx X l E own cc rm ret) {idx : Nat} (h1 : Cond.methodLink own idx arraycopyName ∈ UW) (h2 : Cond.native arraycopyName ∈ UW) (h3 : Cond.static arraycopyName ∈ UW) (h4 : Cond.initialized "java/lang/System" ∈ UW) {q0 q1 a0 a1 n0 n1 : Nat} {f g : Nat → Int32} {sp dp n : Int32} {σ' : S} (he0 : (w σ)[q0]? = some (a0, .inl (E.2.1 0, n0, .inl f))) (he1 : (w σ)[q1]? = some (a1, .inl (E.2.1 0, n1, .inl g))) (hw : (w σ).set q1 (a1, .inl (E.2.1 0, n1, .inl (va_cpy f g sp.toNatClampNeg dp.toNatClampNeg n.toNatClampNeg))) = w σ') (hc : ¬ sp < 0 ∧ ¬ dp < 0 ∧ ¬ n < 0 ∧ sp.toNatClampNeg + n.toNatClampNeg ≤ n0 ∧ dp.toNatClampNeg + n.toNatClampNeg ≤ n1) (hR : 1 ≤ rm.frames ∧ (st.map fun v => v.category).sum + 18 ≤ rm.locals) (d : decode cc pc = .ok (.invokestatic idx, 3)) (k : G X w σ' (pc + 3) lv st) : G X w σ pc lv (.int n :: .int dp :: .ref a1 :: .int sp :: .ref a0 :: st) := by
  obtain ⟨p, l', e, R, s, m, args, below, meth, c, Q, A, E', nL, kc, ks⟩ := X
  intro H locs ls hP hD hS hl
  have hE : E' = E := C.2.2.2.2.2.2.2.1
  subst hE
  have hR' : R = rm := C.2.2.2.2.1
  subst hR'
  exact va_copyi C.1.1 C.1.2.1 (C.1.2.2.1.trans hl.1.symm) C.1.2.2.2.1 (C.1.2.2.2.2 _ h1) (C.1.2.2.2.2 _ h2) (C.1.2.2.2.2 _ h3) (C.1.2.2.2.2 _ h4) C.2.1.1 hP hD hS q0 q1 0 0 he0 he1 rfl rfl rfl hc.1 hc.2.1 hc.2.2.1 hc.2.2.2.1 hc.2.2.2.2 (fun _ _ => rfl) hR.1 hR.2 d (fun H1 locs1 hP1 hD1 hS1 => k H1 locs1 ls (hw ▸ hP1) (hw ▸ hD1) hS1 hl)
/-- System.arraycopy out of a static table of ints into an int array of the world -/
theorem va_copyT {p : Program} {l : Launch} {e : Env} {R : Room} {s : State} {m : MethodId} {args : Array Value} {below : List Frame} {meth : Method} {c : Code} {H : Heap} {locs : List Loc} {cells slots : Nat} {Q : State → Prop} {cc : ByteArray} {pc : Nat} {ls : Array Slot} {rest : List Value} {D : va_G} {cl : List vw_C} {A : Nat → Prop} {a : Nat} {tys : List (ClassId × FieldType)} {ws : va_W}
    (hexec : p.tables.exec = Jvm.exec) (hb : c.code = cc) (hml : c.maxLocals = ls.size) {own : String} {index : Nat} (hown : s.vm.findClass own = some m.cls) (hlink : (Cond.methodLink own index arraycopyName).before args s = true) (hnat : (Cond.native arraycopyName).before args s = true) (hstat : (Cond.static arraycopyName).before args s = true) (hini : (Cond.initialized "java/lang/System").before args s = true)
    (hK : va_K D cl tys s) (hP : va_P D cl ws H) (hD : va_D A ws) (hS : va_S A s.heap H locs) {b0 n0 : Nat} {f : Nat → Int32} (hX : va_T .int b0 n0 (fun j => .int (f j)) A s s.heap) (q1 t1 : Nat) {c1 : ClassId} {n1 : Nat} {g : Nat → Int32} (ha1 : ws[q1]? = some (a, .inl (c1, n1, .inl g))) (ht1 : tys[t1]? = some (c1, .int))
    {sp dp n : Int32} (h1 : ¬ sp < 0) (h2 : ¬ dp < 0) (h3 : ¬ n < 0) (h4 : sp.toNatClampNeg + n.toNatClampNeg ≤ n0) (h5 : dp.toNatClampNeg + n.toNatClampNeg ≤ n1)
    (hframes : 1 ≤ R.frames) (hlocals : (rest.map fun v => v.category).sum + (nativeFrameWords "java/lang/System" "arraycopy" 5 + 11) ≤ R.locals) (hdg : decode cc pc = .ok (.invokestatic index, 3))
    (kk : ∀ (H1 : Heap) (locs1 : List Loc), va_P D cl (ws.set q1 (a, .inl (c1, n1, .inl (va_cpy f g sp.toNatClampNeg dp.toNatClampNeg n.toNatClampNeg)))) H1 → va_D A (ws.set q1 (a, .inl (c1, n1, .inl (va_cpy f g sp.toNatClampNeg dp.toNatClampNeg n.toNatClampNeg)))) → va_S A s.heap H1 locs1 → W p l e R s m args below meth c H1 locs1 cells slots Q (F0 m (pc + 3) ls rest)) : W p l e R s m args below meth c H locs cells slots Q (F0 m pc ls (.int n :: .int dp :: .ref a :: .int sp :: .ref b0 :: rest)) := by
  have nn : ∀ z : Int32, ¬ z < 0 → z.toInt = (z.toNatClampNeg : Int) := by
    intro z hz
    have hz0 : (0 : Int) ≤ z.toInt := by
      have := Int32.not_lt.mp hz
      simpa using Int32.le_iff_toInt_le.mp this
    show z.toInt = ((z.toInt.toNat : Nat) : Int)
    omega
  intro T hT X
  obtain ⟨scr, hs1, hs2, hs3, hs4, -, hs5, hs7⟩ := hX
  have hc0 : H[b0]? = some scr := by rw [hS.2.1 b0 (Array.getElem?_eq_some_iff.mp hs1).1 hs7]; exact hs1
  have hc1 : H[a]? = some (vp_cell c1 (n1, .inl g)) := hP q1 _ ha1
  obtain ⟨hs6, k0, hk0, cm0, hkk0⟩ := hs2
  obtain ⟨-, k1, hk1, cm1, hkk1⟩ := (hK.2 t1 _ ht1).1 n1 (fun j => .int (g j))
  obtain ⟨vm', X', step⟩ := X.arraycopy hexec hown hlink hnat hstat hini (src := b0) (dst := a) (cs := scr) (cd := vp_cell c1 (n1, .inl g)) (srcPos := sp) (destPos := dp) (n := n) (by rw [hT]; exact hc0) (by rw [hT]; exact hc1)
    hs6 (fun _ h => by cases h) hs3 (fun h => by cases h) hk0 hk1 hkk0 hkk1 (by simp [refKind]) h1 h2 h3
    (by rw [nn sp h1, nn n h3]; omega)
    (by rw [nn dp h2, nn n h3]; show ¬ _ > ((arrV c1 n1 (fun j => .int (g j))).slots.size : Int); rw [arrV_size]; omega)
    (fun vm₁ _ i hi => by
      have e : scr.slots.getD (sp.toNatClampNeg + i) .null = .int (f (sp.toNatClampNeg + i)) := by
        rw [Array.getD_eq_getD_getElem?, hs5 _ (by omega)]
        rfl
      refine ⟨?_, ?_⟩
      · rw [e]
        rfl
      · rw [e]
        exact trivial)
    (g := F0 m pc ls (.int n :: .int dp :: .ref a :: .int sp :: .ref b0 :: rest)) rfl (by rw [hml]) (rest := rest) rfl (by rw [hb]; exact hdg) hframes (by show 2 * 0 + _ + _ ≤ _; omega)
  have e1 : copied scr (vp_cell c1 (n1, .inl g)) sp dp n = vp_cell c1 (n1, .inl (va_cpy f g sp.toNatClampNeg dp.toNatClampNeg n.toNatClampNeg)) := va_copiedX (fun z => .int z) scr c1 f g hs5 h4
  rw [e1] at X' step
  have hl : a < H.size := (Array.getElem?_eq_some_iff.mp hc1).1
  have hheap : ((T.setVm vm').setCell a (vp_cell c1 (n1, .inl (va_cpy f g sp.toNatClampNeg dp.toNatClampNeg n.toNatClampNeg)))).heap = H.setIfInBounds a (vp_cell c1 (n1, .inl (va_cpy f g sp.toNatClampNeg dp.toNatClampNeg n.toNatClampNeg))) := by rw [← hT]; rfl
  have oq : ∀ q : Nat, q ≠ a → (H.setIfInBounds a (vp_cell c1 (n1, .inl (va_cpy f g sp.toNatClampNeg dp.toNatClampNeg n.toNatClampNeg))))[q]? = H[q]? := fun q hq => by simp [Array.getElem?_setIfInBounds, Ne.symm hq]
  obtain ⟨t, a1, b1⟩ := kk _ _ (hP.set hD ha1 (show (H.setIfInBounds a _)[a]? = some _ by simp [Array.getElem?_setIfInBounds, hl]) oq) (hD.set ha1) ⟨by simp; exact hS.1, fun q g1 g2 => by
      rw [oq q (fun e => g2 (by rw [e]; exact hD.2 q1 _ ha1))]
      exact hS.2.1 q g1 g2, fun q hq => by
      rcases List.mem_append.mp hq with h | h
      · exact hS.2.2 q h
      · obtain ⟨z, -, hz⟩ := List.mem_map.mp h
        rw [← hz]
        exact hD.2 q1 _ ha1⟩ _ hheap X'
  exact ⟨t, step t a1, b1⟩
theorem g_copyU {X : Kx} {S : Type} {w : S → va_W} {σ : S} {l : Launch} {E : Ev} {own : String} {cc : ByteArray} {rm : Room} {ret : Option FieldType} {pc : Nat} {lv : List (Option Value)} {st : List Value} (C : Cx X l E own cc rm ret) {idx : Nat} (h1 : Cond.methodLink own idx arraycopyName ∈ UW) (h2 : Cond.native arraycopyName ∈ UW) (h3 : Cond.static arraycopyName ∈ UW) (h4 : Cond.initialized "java/lang/System" ∈ UW) {q1 a1 n1 : Nat} {g : Nat → Int32} {sp dp n : Int32} {σ' : S} (he1 : (w σ)[q1]? = some (a1, .inl (E.2.1 0, n1, .inl g))) (hw : (w σ).set q1 (a1, .inl (E.2.1 0, n1, .inl (va_cpy usualF g sp.toNatClampNeg dp.toNatClampNeg n.toNatClampNeg))) = w σ') (hc : ¬ sp < 0 ∧ ¬ dp < 0 ∧ ¬ n < 0 ∧ sp.toNatClampNeg + n.toNatClampNeg ≤ 6 ∧ dp.toNatClampNeg + n.toNatClampNeg ≤ n1) (hR : 1 ≤ rm.frames ∧ (st.map fun v => v.category).sum + 18 ≤ rm.locals) (d : decode cc pc = .ok (.invokestatic idx, 3)) (k : G X w σ' (pc + 3) lv st) : G X w σ pc lv (.int n :: .int dp :: .ref a1 :: .int sp :: .ref (E.2.2 0) :: st) := by
  obtain ⟨p, l', e, R, s, m, args, below, meth, c, Q, A, E', nL, kc, ks⟩ := X
  intro H locs ls hP hD hS hl
  have hE : E' = E := C.2.2.2.2.2.2.2.1
  subst hE
  have hR' : R = rm := C.2.2.2.2.1
  subst hR'
  exact va_copyT C.1.1 C.1.2.1 (C.1.2.2.1.trans hl.1.symm) C.1.2.2.2.1 (C.1.2.2.2.2 _ h1) (C.1.2.2.2.2 _ h2) (C.1.2.2.2.2 _ h3) (C.1.2.2.2.2 _ h4) C.2.1.1 hP hD hS C.2.1.2.2.1.1.2 q1 0 he1 rfl hc.1 hc.2.1 hc.2.2.1 hc.2.2.2.1 hc.2.2.2.2 hR.1 hR.2 d (fun H1 locs1 hP1 hD1 hS1 => k H1 locs1 ls (hw ▸ hP1) (hw ▸ hD1) hS1 hl)
theorem g_usual {X : Kx} {S : Type} {w : S → va_W} {σ : S} {l : Launch} {E : Ev} {own : String} {cc : ByteArray} {rm : Room} {ret : Option FieldType} {pc : Nat} {lv : List (Option Value)} {st : List Value} (C : Cx X l E own cc rm ret) {idx : Nat} {host : String} (hlink : Cond.fieldLinkNest own idx "IceRun" "USUAL" "[I" host ∈ NW) (d : decode cc pc = .ok (.getstatic idx, 3)) (k : G X w σ (pc + 3) lv (.ref (E.2.2 0) :: st)) : G X w σ pc lv st := by
  obtain ⟨p, l', e, R, s, m, args, below, meth, c, Q, A, E', nL, kc, ks⟩ := X
  intro H locs ls hP hD hS hl
  have hE : E' = E := C.2.2.2.2.2.2.2.1
  subst hE
  exact va_getsN C.1.1 C.1.2.1 C.2.1.2.2.1.1.1 hS C.1.2.2.2.1 (va_Nw.use rfl (C.2.1.2.1 _ hlink)) (fun _ h9 => h9) d (k H locs ls hP hD hS hl)
theorem g_points {X : Kx} {S : Type} {w : S → va_W} {σ : S} {l : Launch} {E : Ev} {own : String} {cc : ByteArray} {rm : Room} {ret : Option FieldType} {pc : Nat} {lv : List (Option Value)} {st : List Value} (C : Cx X l E own cc rm ret) {idx : Nat} (hlink : Cond.fieldLink own idx "IceRun" "POINTS" "[I" ∈ UW) (d : decode cc pc = .ok (.getstatic idx, 3)) (k : G X w σ (pc + 3) lv (.ref (E.2.2 1) :: st)) : G X w σ pc lv st := by
  obtain ⟨p, l', e, R, s, m, args, below, meth, c, Q, A, E', nL, kc, ks⟩ := X
  intro H locs ls hP hD hS hl
  have hE : E' = E := C.2.2.2.2.2.2.2.1
  subst hE
  exact va_gets C.1.1 C.1.2.1 C.2.1.2.2.1.2.1.1 hS C.1.2.2.2.1 (C.1.2.2.2.2 _ hlink) (fun _ h9 => h9) d (k H locs ls hP hD hS hl)
theorem g_plen {X : Kx} {S : Type} {w : S → va_W} {σ : S} {l : Launch} {E : Ev} {own : String} {cc : ByteArray} {rm : Room} {ret : Option FieldType} {pc : Nat} {lv : List (Option Value)} {st : List Value} (C : Cx X l E own cc rm ret) (d : decode cc pc = .ok (.arraylength, 1)) (k : G X w σ (pc + 1) lv (.int 16 :: st)) : G X w σ pc lv (.ref (E.2.2 1) :: st) := by
  obtain ⟨p, l', e, R, s, m, args, below, meth, c, Q, A, E', nL, kc, ks⟩ := X
  intro H locs ls hP hD hS hl
  have hE : E' = E := C.2.2.2.2.2.2.2.1
  subst hE
  exact va_tlen (v := 16) C.1.1 C.1.2.1 C.2.1.2.2.1.2.1.2 hS rfl d (k H locs ls hP hD hS hl)
theorem g_pald {X : Kx} {S : Type} {w : S → va_W} {σ : S} {l : Launch} {E : Ev} {own : String} {cc : ByteArray} {rm : Room} {ret : Option FieldType} {pc : Nat} {lv : List (Option Value)} {st : List Value} (C : Cx X l E own cc rm ret) {i : Int32} (hin : vp_in i 16) (d : decode cc pc = .ok (.iaload, 1)) (k : G X w σ (pc + 1) lv (.int (pointsF i.toNatClampNeg) :: st)) : G X w σ pc lv (.int i :: .ref (E.2.2 1) :: st) := by
  obtain ⟨p, l', e, R, s, m, args, below, meth, c, Q, A, E', nL, kc, ks⟩ := X
  intro H locs ls hP hD hS hl
  have hE : E' = E := C.2.2.2.2.2.2.2.1
  subst hE
  exact va_ti C.1.1 C.1.2.1 C.2.1.2.2.1.2.1.2 hS hin rfl d (k H locs ls hP hD hS hl)
end
section
theorem g_i2c {X : Kx} {S : Type} {w : S → va_W} {σ : S} {l : Launch} {E : Ev} {own : String} {cc : ByteArray} {rm : Room} {ret : Option FieldType} {pc : Nat} {lv : List (Option Value)} {st : List Value} (C : Cx X l E own cc rm ret) {x : Int32} (d : decode cc pc = .ok (.i2c, 1)) (k : G X w σ (pc + 1) lv (.int ((x.toUInt32 % 65536).toInt32) :: st)) : G X w σ pc lv (.int x :: st) := by
  obtain ⟨p, l', e, R, s, m, args, below, meth, c, Q, A, E', nL, kc, ks⟩ := X
  intro H locs ls hP hD hS hl
  exact lv_i2c C.1.1 C.1.2.1 d rfl (k H locs ls hP hD hS hl)
theorem g_compact {X : Kx} {S : Type} {w : S → va_W} {σ : S} {l : Launch} {E : Ev} {own : String} {cc : ByteArray} {rm : Room} {ret : Option FieldType} {pc : Nat} {lv : List (Option Value)} {st : List Value} (C : Cx X l E own cc rm ret) {idx : Nat} (hlink : Cond.fieldLink own idx "java/lang/String" "COMPACT_STRINGS" "Z" ∈ UW) (d : decode cc pc = .ok (.getstatic idx, 3)) (k : G X w σ (pc + 3) lv (.int 1 :: st)) : G X w σ pc lv st := by
  obtain ⟨p, l', e, R, s, m, args, below, meth, c, Q, A, E', nL, kc, ks⟩ := X
  intro H locs ls hP hD hS hl
  have hE : E' = E := C.2.2.2.2.2.2.2.1
  subst hE
  exact va_gets C.1.1 C.1.2.1 C.2.1.2.2.1.2.2.2.1 hS C.1.2.2.2.1 (C.1.2.2.2.2 _ hlink) (fun _ h9 => h9) d (k H locs ls hP hD hS hl)
theorem g_siobe {X : Kx} {S : Type} {w : S → va_W} {σ : S} {l : Launch} {E : Ev} {own : String} {cc : ByteArray} {rm : Room} {ret : Option FieldType} {pc : Nat} {lv : List (Option Value)} {st : List Value} (C : Cx X l E own cc rm ret) {idx : Nat} (hlink : Cond.fieldLink own idx "jdk/internal/util/Preconditions" "SIOOBE_FORMATTER" "Ljava/util/function/BiFunction;" ∈ UW) (d : decode cc pc = .ok (.getstatic idx, 3)) (k : ∀ v : Value, (v = .null ∨ ∃ t, v = .ref t) → G X w σ (pc + 3) lv (v :: st)) : G X w σ pc lv st := by
  obtain ⟨p, l', e, R, s, m, args, below, meth, c, Q, A, E', nL, kc, ks⟩ := X
  intro H locs ls hP hD hS hl
  have hE : E' = E := C.2.2.2.2.2.2.2.1
  subst hE
  rcases C.2.1.2.2.1.2.2.2.2.1 with h9 | ⟨t, h9⟩
  · exact va_gets C.1.1 C.1.2.1 h9 hS C.1.2.2.2.1 (C.1.2.2.2.2 _ hlink) (fun _ h8 => h8) d (k _ (Or.inl rfl) H locs ls hP hD hS hl)
  · exact va_gets C.1.1 C.1.2.1 h9 hS C.1.2.2.2.1 (C.1.2.2.2.2 _ hlink) (fun _ h8 => h8) d (k _ (Or.inr ⟨t, rfl⟩) H locs ls hP hD hS hl)
theorem g_scoder {X : Kx} {S : Type} {w : S → va_W} {σ : S} {l : Launch} {E : Ev} {own : String} {cc : ByteArray} {rm : Room} {ret : Option FieldType} {pc : Nat} {lv : List (Option Value)} {st : List Value} (C : Cx X l E own cc rm ret) {idx i : Nat} (hi : i < 8) (hlink : Cond.fieldLink own idx "java/lang/String" "coder" "B" ∈ UW) (d : decode cc pc = .ok (.getfield idx, 3)) (k : G X w σ (pc + 3) lv (.int 0 :: st)) : G X w σ pc lv (.ref (E.2.2 (20 + i)) :: st) := by
  obtain ⟨p, l', e, R, s, m, args, below, meth, c, Q, A, E', nL, kc, ks⟩ := X
  intro H locs ls hP hD hS hl
  have hE : E' = E := C.2.2.2.2.2.2.2.1
  subst hE
  exact vk_getf C.1.1 C.1.2.1 (C.2.1.2.2.1.2.2.1.1 i hi).2.1 hS C.1.2.2.2.1 (C.1.2.2.2.2 _ hlink) (fun _ h9 => h9) d (k H locs ls hP hD hS hl)
theorem g_svalue {X : Kx} {S : Type} {w : S → va_W} {σ : S} {l : Launch} {E : Ev} {own : String} {cc : ByteArray} {rm : Room} {ret : Option FieldType} {pc : Nat} {lv : List (Option Value)} {st : List Value} (C : Cx X l E own cc rm ret) {idx i : Nat} (hi : i < 8) (hlink : Cond.fieldLink own idx "java/lang/String" "value" "[B" ∈ UW) (d : decode cc pc = .ok (.getfield idx, 3)) (k : G X w σ (pc + 3) lv (.ref (E.2.2 (30 + i)) :: st)) : G X w σ pc lv (.ref (E.2.2 (20 + i)) :: st) := by
  obtain ⟨p, l', e, R, s, m, args, below, meth, c, Q, A, E', nL, kc, ks⟩ := X
  intro H locs ls hP hD hS hl
  have hE : E' = E := C.2.2.2.2.2.2.2.1
  subst hE
  exact vk_getf C.1.1 C.1.2.1 (C.2.1.2.2.1.2.2.1.1 i hi).2.2.1 hS C.1.2.2.2.1 (C.1.2.2.2.2 _ hlink) (fun _ h9 => h9) d (k H locs ls hP hD hS hl)
theorem g_slen {X : Kx} {S : Type} {w : S → va_W} {σ : S} {l : Launch} {E : Ev} {own : String} {cc : ByteArray} {rm : Room} {ret : Option FieldType} {pc : Nat} {lv : List (Option Value)} {st : List Value} (C : Cx X l E own cc rm ret) {i : Nat} (hi : i < 8) (d : decode cc pc = .ok (.arraylength, 1)) (k : G X w σ (pc + 1) lv (.int (Int32.ofNat (slenL.getD i 0)) :: st)) : G X w σ pc lv (.ref (E.2.2 (30 + i)) :: st) := by
  obtain ⟨p, l', e, R, s, m, args, below, meth, c, Q, A, E', nL, kc, ks⟩ := X
  intro H locs ls hP hD hS hl
  have hE : E' = E := C.2.2.2.2.2.2.2.1
  subst hE
  exact va_tlen C.1.1 C.1.2.1 (C.2.1.2.2.1.2.2.1.1 i hi).2.2.2 hS rfl d (k H locs ls hP hD hS hl)
theorem g_sald {X : Kx} {S : Type} {w : S → va_W} {σ : S} {l : Launch} {E : Ev} {own : String} {cc : ByteArray} {rm : Room} {ret : Option FieldType} {pc : Nat} {lv : List (Option Value)} {st : List Value} (C : Cx X l E own cc rm ret) {i : Nat} {j : Int32} (hi : i < 8) (hin : vp_in j (slenL.getD i 0)) (d : decode cc pc = .ok (.baload, 1)) (k : G X w σ (pc + 1) lv (.int ((sbytL.getD i []).getD j.toNatClampNeg 0) :: st)) : G X w σ pc lv (.int j :: .ref (E.2.2 (30 + i)) :: st) := by
  obtain ⟨p, l', e, R, s, m, args, below, meth, c, Q, A, E', nL, kc, ks⟩ := X
  intro H locs ls hP hD hS hl
  have hE : E' = E := C.2.2.2.2.2.2.2.1
  subst hE
  exact va_tb C.1.1 C.1.2.1 (C.2.1.2.2.1.2.2.1.1 i hi).2.2.2 hS hin rfl d (k H locs ls hP hD hS hl)
theorem g_ldcS {X : Kx} {S : Type} {w : S → va_W} {σ : S} {l : Launch} {E : Ev} {own : String} {cc : ByteArray} {rm : Room} {ret : Option FieldType} {pc : Nat} {lv : List (Option Value)} {st : List Value} (C : Cx X l E own cc rm ret) {i : Nat} (hi : i < 8) (ho : own = "IceRunModel") (d : decode cc pc = .ok (.ldc (sixL.getD i 0), 2)) (k : G X w σ (pc + 2) lv (.ref (E.2.2 (20 + i)) :: st)) : G X w σ pc lv st := by
  obtain ⟨p, l', e, R, s, m, args, below, meth, c, Q, A, E', nL, kc, ks⟩ := X
  intro H locs ls hP hD hS hl
  have hE : E' = E := C.2.2.2.2.2.2.2.1
  subst hE
  subst ho
  exact va_ldcS C.1.1 C.1.2.1 C.1.2.2.2.1 (C.2.1.2.2.2.1 i hi) d (k H locs ls hP hD hS hl)
theorem g_vload_2 {X : Kx} {S : Type} {w : S → va_W} {σ : S} {l : Launch} {E : Ev} {own : String} {cc : ByteArray} {rm : Room} {ret : Option FieldType} {pc : Nat} {lv : List (Option Value)} {st : List Value} (C : Cx X l E own cc rm ret) {v : Value} (hv : v = .null ∨ ∃ t, v = .ref t) (d : decode cc pc = .ok (.aload_n 2, 1)) (h : lv[2]? = some (some v)) (k : G X w σ (pc + 1) lv (v :: st)) : G X w σ pc lv st := by
  obtain ⟨p, l', e, R, s, m, args, below, meth, c, Q, A, E', nL, kc, ks⟩ := X
  intro H locs ls hP hD hS hl
  rcases hv with rfl | ⟨t, rfl⟩
  · exact lv_aload_nN C.1.1 C.1.2.1 d rfl (hl.at h) (k H locs ls hP hD hS hl)
  · exact lv_aload_n C.1.1 C.1.2.1 d rfl (hl.at h) (k H locs ls hP hD hS hl)
theorem g_nstore_2 {X : Kx} {S : Type} {w : S → va_W} {σ : S} {l : Launch} {E : Ev} {own : String} {cc : ByteArray} {rm : Room} {ret : Option FieldType} {pc : Nat} {lv : List (Option Value)} {st : List Value} (C : Cx X l E own cc rm ret) (d : decode cc pc = .ok (.astore_n 2, 1)) (hi : 2 < lv.length) (k : G X w σ (pc + 1) (lv.set 2 (some .null)) st) : G X w σ pc lv (.null :: st) := by
  obtain ⟨p, l', e, R, s, m, args, below, meth, c, Q, A, E', nL, kc, ks⟩ := X
  intro H locs ls hP hD hS hl
  exact lv_astore_nN C.1.1 C.1.2.1 d rfl hl.has (by rw [← hl.2.2.2.1]; exact hi) rfl (fun ls' hl' => k H locs ls' hP hD hS (hl.set rfl hl'))
theorem g_nload_2 {X : Kx} {S : Type} {w : S → va_W} {σ : S} {l : Launch} {E : Ev} {own : String} {cc : ByteArray} {rm : Room} {ret : Option FieldType} {pc : Nat} {lv : List (Option Value)} {st : List Value} (C : Cx X l E own cc rm ret) (d : decode cc pc = .ok (.aload_n 2, 1)) (h : lv[2]? = some (some .null)) (k : G X w σ (pc + 1) lv (.null :: st)) : G X w σ pc lv st := by
  obtain ⟨p, l', e, R, s, m, args, below, meth, c, Q, A, E', nL, kc, ks⟩ := X
  intro H locs ls hP hD hS hl
  exact lv_aload_nN C.1.1 C.1.2.1 d rfl (hl.at h) (k H locs ls hP hD hS hl)
theorem g_nnN {X : Kx} {S : Type} {w : S → va_W} {σ : S} {l : Launch} {E : Ev} {own : String} {cc : ByteArray} {rm : Room} {ret : Option FieldType} {pc : Nat} {lv : List (Option Value)} {st : List Value} (C : Cx X l E own cc rm ret) {off : Int} (d : decode cc pc = .ok (.ifnonnull off, 3)) (k : G X w σ (pc + 3) lv st) : G X w σ pc lv (.null :: st) := by
  obtain ⟨p, l', e, R, s, m, args, below, meth, c, Q, A, E', nL, kc, ks⟩ := X
  intro H locs ls hP hD hS hl
  exact lv_ifnonnullN C.1.1 C.1.2.1 d (k H locs ls hP hD hS hl)
theorem g_nnR {X : Kx} {S : Type} {w : S → va_W} {σ : S} {l : Launch} {E : Ev} {own : String} {cc : ByteArray} {rm : Room} {ret : Option FieldType} {pc : Nat} {lv : List (Option Value)} {st : List Value} (C : Cx X l E own cc rm ret) {x : Nat} {off : Int} (tgt : Nat) (d : decode cc pc = .ok (.ifnonnull off, 3)) (ht : (pc : Int) + off = (tgt : Int)) (k : G X w σ tgt lv st) : G X w σ pc lv (.ref x :: st) := by
  obtain ⟨p, l', e, R, s, m, args, below, meth, c, Q, A, E', nL, kc, ks⟩ := X
  intro H locs ls hP hD hS hl
  exact lv_ifnonnull C.1.1 C.1.2.1 d ht (k H locs ls hP hD hS hl)
theorem g_null {X : Kx} {S : Type} {w : S → va_W} {σ : S} {l : Launch} {E : Ev} {own : String} {cc : ByteArray} {rm : Room} {ret : Option FieldType} {pc : Nat} {lv : List (Option Value)} {st : List Value} (C : Cx X l E own cc rm ret) (d : decode cc pc = .ok (.aconst_null, 1)) (k : G X w σ (pc + 1) lv (.null :: st)) : G X w σ pc lv st := by
  obtain ⟨p, l', e, R, s, m, args, below, meth, c, Q, A, E', nL, kc, ks⟩ := X
  intro H locs ls hP hD hS hl
  exact lv_null C.1.1 C.1.2.1 d (k H locs ls hP hD hS hl)
theorem g_wall {X : Kx} {S : Type} {w : S → va_W} {σ : S} {l : Launch} {E : Ev} {own : String} {cc : ByteArray} {rm : Room} {ret : Option FieldType} {pc : Nat} {lv : List (Option Value)} {st : List Value} (C : Cx X l E own cc rm ret) {idx : Nat} {host : String} (hlink : Cond.fieldLinkNest own idx "IceRun$Word" "ALL" "[LIceRun$Word;" host ∈ NW) (d : decode cc pc = .ok (.getstatic idx, 3)) (k : G X w σ (pc + 3) lv (.ref (E.2.2 2) :: st)) : G X w σ pc lv st := by
  obtain ⟨p, l', e, R, s, m, args, below, meth, c, Q, A, E', nL, kc, ks⟩ := X
  intro H locs ls hP hD hS hl
  have hE : E' = E := C.2.2.2.2.2.2.2.1
  subst hE
  exact va_getsN C.1.1 C.1.2.1 C.2.1.2.2.1.2.2.2.2.2.1.1 hS C.1.2.2.2.1 (va_Nw.use rfl (C.2.1.2.1 _ hlink)) (fun _ h9 => h9) d (k H locs ls hP hD hS hl)
theorem g_wlen {X : Kx} {S : Type} {w : S → va_W} {σ : S} {l : Launch} {E : Ev} {own : String} {cc : ByteArray} {rm : Room} {ret : Option FieldType} {pc : Nat} {lv : List (Option Value)} {st : List Value} (C : Cx X l E own cc rm ret) (d : decode cc pc = .ok (.arraylength, 1)) (k : G X w σ (pc + 1) lv (.int 7 :: st)) : G X w σ pc lv (.ref (E.2.2 2) :: st) := by
  obtain ⟨p, l', e, R, s, m, args, below, meth, c, Q, A, E', nL, kc, ks⟩ := X
  intro H locs ls hP hD hS hl
  have hE : E' = E := C.2.2.2.2.2.2.2.1
  subst hE
  exact va_tlen (v := 7) C.1.1 C.1.2.1 C.2.1.2.2.1.2.2.2.2.2.1.2 hS rfl d (k H locs ls hP hD hS hl)
theorem g_wald {X : Kx} {S : Type} {w : S → va_W} {σ : S} {l : Launch} {E : Ev} {own : String} {cc : ByteArray} {rm : Room} {ret : Option FieldType} {pc : Nat} {lv : List (Option Value)} {st : List Value} (C : Cx X l E own cc rm ret) {i : Int32} (hin : vp_in i 7) (d : decode cc pc = .ok (.aaload, 1)) (k : G X w σ (pc + 1) lv (.ref (E.2.2 (10 + i.toNatClampNeg)) :: st)) : G X w σ pc lv (.int i :: .ref (E.2.2 2) :: st) := by
  obtain ⟨p, l', e, R, s, m, args, below, meth, c, Q, A, E', nL, kc, ks⟩ := X
  intro H locs ls hP hD hS hl
  have hE : E' = E := C.2.2.2.2.2.2.2.1
  subst hE
  exact vb_tq C.1.1 C.1.2.1 C.2.1.2.2.1.2.2.2.2.2.1.2 hS hin rfl d (k H locs ls hP hD hS hl)
theorem g_wtext {X : Kx} {S : Type} {w : S → va_W} {σ : S} {l : Launch} {E : Ev} {own : String} {cc : ByteArray} {rm : Room} {ret : Option FieldType} {pc : Nat} {lv : List (Option Value)} {st : List Value} (C : Cx X l E own cc rm ret) {idx j : Nat} {host : String} (hj : j < 7) (hlink : Cond.fieldLinkNest own idx "IceRun$Word" "text" "Ljava/lang/String;" host ∈ NW) (d : decode cc pc = .ok (.getfield idx, 3)) (k : G X w σ (pc + 3) lv (.ref (E.2.2 (20 + j)) :: st)) : G X w σ pc lv (.ref (E.2.2 (10 + j)) :: st) := by
  obtain ⟨p, l', e, R, s, m, args, below, meth, c, Q, A, E', nL, kc, ks⟩ := X
  intro H locs ls hP hD hS hl
  have hE : E' = E := C.2.2.2.2.2.2.2.1
  subst hE
  obtain ⟨cf, kf, fi, f, cell, h1, h2, h3, h4, h5, h6⟩ := ((C.2.1.2.2.1.2.2.2.2.2.2.1 j hj).1).kept hS.2.1
  exact va_Wgetf C.1.1 C.1.2.1 C.1.2.2.2.1 (va_Nw.use rfl (C.2.1.2.1 _ hlink)) h1 h2 h3 h4 h5 rfl rfl d (k H locs ls hP hD hS hl)
theorem g_wslot {X : Kx} {S : Type} {w : S → va_W} {σ : S} {l : Launch} {E : Ev} {own : String} {cc : ByteArray} {rm : Room} {ret : Option FieldType} {pc : Nat} {lv : List (Option Value)} {st : List Value} (C : Cx X l E own cc rm ret) {idx j : Nat} {host : String} (hj : j < 7) (hlink : Cond.fieldLinkNest own idx "IceRun$Word" "slot" "I" host ∈ NW) (d : decode cc pc = .ok (.getfield idx, 3)) (k : G X w σ (pc + 3) lv (.int (wdSlot j) :: st)) : G X w σ pc lv (.ref (E.2.2 (10 + j)) :: st) := by
  obtain ⟨p, l', e, R, s, m, args, below, meth, c, Q, A, E', nL, kc, ks⟩ := X
  intro H locs ls hP hD hS hl
  have hE : E' = E := C.2.2.2.2.2.2.2.1
  subst hE
  obtain ⟨cf, kf, fi, f, cell, h1, h2, h3, h4, h5, h6⟩ := ((C.2.1.2.2.1.2.2.2.2.2.2.1 j hj).2.1).kept hS.2.1
  exact va_Wgetf C.1.1 C.1.2.1 C.1.2.2.2.1 (va_Nw.use rfl (C.2.1.2.1 _ hlink)) h1 h2 h3 h4 h5 rfl rfl d (k H locs ls hP hD hS hl)
theorem g_wnumbered {X : Kx} {S : Type} {w : S → va_W} {σ : S} {l : Launch} {E : Ev} {own : String} {cc : ByteArray} {rm : Room} {ret : Option FieldType} {pc : Nat} {lv : List (Option Value)} {st : List Value} (C : Cx X l E own cc rm ret) {idx j : Nat} {host : String} (hj : j < 7) (hlink : Cond.fieldLinkNest own idx "IceRun$Word" "numbered" "Z" host ∈ NW) (d : decode cc pc = .ok (.getfield idx, 3)) (k : G X w σ (pc + 3) lv (.int (wdNum j) :: st)) : G X w σ pc lv (.ref (E.2.2 (10 + j)) :: st) := by
  obtain ⟨p, l', e, R, s, m, args, below, meth, c, Q, A, E', nL, kc, ks⟩ := X
  intro H locs ls hP hD hS hl
  have hE : E' = E := C.2.2.2.2.2.2.2.1
  subst hE
  obtain ⟨cf, kf, fi, f, cell, h1, h2, h3, h4, h5, h6⟩ := ((C.2.1.2.2.1.2.2.2.2.2.2.1 j hj).2.2.1).kept hS.2.1
  exact va_Wgetf C.1.1 C.1.2.1 C.1.2.2.2.1 (va_Nw.use rfl (C.2.1.2.1 _ hlink)) h1 h2 h3 h4 h5 rfl rfl d (k H locs ls hP hD hS hl)
theorem g_wlow {X : Kx} {S : Type} {w : S → va_W} {σ : S} {l : Launch} {E : Ev} {own : String} {cc : ByteArray} {rm : Room} {ret : Option FieldType} {pc : Nat} {lv : List (Option Value)} {st : List Value} (C : Cx X l E own cc rm ret) {idx j : Nat} {host : String} (hj : j < 7) (hlink : Cond.fieldLinkNest own idx "IceRun$Word" "low" "I" host ∈ NW) (d : decode cc pc = .ok (.getfield idx, 3)) (k : G X w σ (pc + 3) lv (.int (wdLow j) :: st)) : G X w σ pc lv (.ref (E.2.2 (10 + j)) :: st) := by
  obtain ⟨p, l', e, R, s, m, args, below, meth, c, Q, A, E', nL, kc, ks⟩ := X
  intro H locs ls hP hD hS hl
  have hE : E' = E := C.2.2.2.2.2.2.2.1
  subst hE
  obtain ⟨cf, kf, fi, f, cell, h1, h2, h3, h4, h5, h6⟩ := ((C.2.1.2.2.1.2.2.2.2.2.2.1 j hj).2.2.2.1).kept hS.2.1
  exact va_Wgetf C.1.1 C.1.2.1 C.1.2.2.2.1 (va_Nw.use rfl (C.2.1.2.1 _ hlink)) h1 h2 h3 h4 h5 rfl rfl d (k H locs ls hP hD hS hl)
theorem g_whigh {X : Kx} {S : Type} {w : S → va_W} {σ : S} {l : Launch} {E : Ev} {own : String} {cc : ByteArray} {rm : Room} {ret : Option FieldType} {pc : Nat} {lv : List (Option Value)} {st : List Value} (C : Cx X l E own cc rm ret) {idx j : Nat} {host : String} (hj : j < 7) (hlink : Cond.fieldLinkNest own idx "IceRun$Word" "high" "I" host ∈ NW) (d : decode cc pc = .ok (.getfield idx, 3)) (k : G X w σ (pc + 3) lv (.int (wdHigh j) :: st)) : G X w σ pc lv (.ref (E.2.2 (10 + j)) :: st) := by
  obtain ⟨p, l', e, R, s, m, args, below, meth, c, Q, A, E', nL, kc, ks⟩ := X
  intro H locs ls hP hD hS hl
  have hE : E' = E := C.2.2.2.2.2.2.2.1
  subst hE
  obtain ⟨cf, kf, fi, f, cell, h1, h2, h3, h4, h5, h6⟩ := ((C.2.1.2.2.1.2.2.2.2.2.2.1 j hj).2.2.2.2).kept hS.2.1
  exact va_Wgetf C.1.1 C.1.2.1 C.1.2.2.2.1 (va_Nw.use rfl (C.2.1.2.1 _ hlink)) h1 h2 h3 h4 h5 rfl rfl d (k H locs ls hP hD hS hl)
theorem g_nreturn {X : Kx} {S : Type} {w : S → va_W} {σ : S} {l : Launch} {E : Ev} {own : String} {cc : ByteArray} {rm : Room} {pc : Nat} {lv : List (Option Value)} {post : Int32 → S → Prop} {v : Int32} {ty : FieldType} (C : Cx X l E own cc rm (some ty)) (hQ : QI X w post) (hn : narrow ty (.int v) = .int v) (d : decode cc pc = .ok (.ireturn, 1)) (h : post v σ) : G X w σ pc lv [.int v] := by
  obtain ⟨p, l', e, R, s, m, args, below, meth, c, Q, A, E', nL, kc, ks⟩ := X
  intro H locs ls hP hD hS hl
  have hq : Q = _ := hQ
  subst hq
  exact W.zret C.1.1 C.1.2.1 C.2.2.2.2.2.1 hn (fun t ht _ => ⟨⟨v, σ, rfl, h, by rw [ht]; exact hP, hD⟩, hS.F ht⟩) hS.2.2 d C.2.2.2.1
theorem g_callT {X : Kx} {S : Type} {w : S → va_W} {σ : S} {l : Launch} {E : Ev} {own : String} {cc : ByteArray} {rm : Room} {ret : Option FieldType} {pc : Nat} {lv : List (Option Value)} {st : List Value} (C : Cx X l E own cc rm ret) {y : MethodName} {bytes : ByteArray} {nL' idx : Nat} (n : Nat) {rm' : Room} {As rest : List Value} {post : Int32 → S → Prop} {rt : FieldType} {i : Nat} (hi : i < 8) (h1 : Cond.methodLink own idx y ∈ UW) (h2 : Cond.instanceMethod y ∈ UW) (h3 : Cond.selects "java/lang/String" y y ∈ UW) (h4 : Cond.initialized "java/lang/String" ∈ UW) (h5 : Cond.code y bytes nL' (some rt) ∈ UW) (hd : y.cls = "java/lang/String" ∧ y.cls ≠ "java/lang/invoke/MethodHandle" ∧ y.cls ≠ "java/lang/invoke/VarHandle" ∧ (parseMethodDescriptor y.desc).map (fun d => d.parameters.length) = some n) (hM : CI l E w y bytes nL' rt rm' (.ref (E.2.2 (20 + i)) :: As) σ post) (hz : rm'.cells = 0 ∧ rm'.slots = 0) (hR : rm'.frames + 1 ≤ rm.frames ∧ 8 + (nL' + 11) + rm'.locals ≤ rm.locals) (hn : As.length = n) (hst : st = As.reverse ++ .ref (E.2.2 (20 + i)) :: rest) (hW : (rest.map fun v => v.category).sum ≤ 8) (d : decode cc pc = .ok (.invokevirtual idx, 3)) (k : ∀ (r : Int32) (u : S), post r u → G X w u (pc + 3) lv (.int r :: rest)) : G X w σ pc lv st := by
  obtain ⟨p, l', e, R, s, m, args, below, meth, c, Q, A, E', nL, kc, ks⟩ := X
  intro H locs ls hP hD hS hl
  have hR' : R = rm := C.2.2.2.2.1
  have hl' : l' = l := C.2.2.2.2.2.2.1
  have hE : E' = E := C.2.2.2.2.2.2.2.1
  subst hR'
  subst hl'
  subst hE
  have hFr : ∀ q, va_A (w σ) H.size q → A q := fun q h => h.elim (fun ⟨k9, e9, h9⟩ => hD.2 k9 _ h9) (fun h9 => C.2.2.1 q (Nat.le_trans hS.1 h9))
  subst hst
  exact va_calli (va_runV (As := As) (rest := rest) C.1 (hM H.size) (cwV n C.1.2.2.2.2 (wsV_gi h1 h2 h3 h4 h5) rfl hz.1 hz.2 hd hR) ⟨preW.blind, vk_recv C.2.1.2.2.1.2.2.1 hi hS, fun U hU hW9 => ⟨rfl, by rw [hU], by rw [hU]; exact hP, hD.weaken (fun _ _ _ _ => trivial), Fx.call C.2.1 hS hFr hW9 hU⟩⟩ rfl hn hl.1 rfl (lv_room hW) d ⟨C.2.2.2.2.2.2.2.2.1, C.2.2.2.2.2.2.2.2.2⟩) hS (fun q _ h => hFr q h) hFr (fun r u t H1 locs1 ht hvm hp hB hz1 hk1 hS1 => k r u hp H1 locs1 ls (ht ▸ hB.1) (hB.2.weaken (fun _ _ _ h => hFr _ h)) hS1 hl)
/-! String's own methods, on the texts of the pools -/
abbrev rmS0 : Room := { frames := 0, cells := 0, slots := 0, locals := 0 }
abbrev rmS_len : Room := { frames := 1, cells := 0, slots := 0, locals := 20 }
abbrev rmS_chk : Room := { frames := 1, cells := 0, slots := 0, locals := 22 }
abbrev rmS_cL : Room := { frames := 2, cells := 0, slots := 0, locals := 43 }
abbrev rmS_char : Room := { frames := 3, cells := 0, slots := 0, locals := 64 }
theorem uJ_38 : Cond.fieldLink RJ0 38 "java/lang/String" "COMPACT_STRINGS" "Z" ∈ UW := by decide +kernel
theorem uJ_15 : Cond.fieldLink RJ0 15 "java/lang/String" "coder" "B" ∈ UW := by decide +kernel
theorem uJ_9 : Cond.fieldLink RJ0 9 "java/lang/String" "value" "[B" ∈ UW := by decide +kernel
theorem cS_coder {l : Launch} {E : Ev} {S : Type} {w : S → va_W} {σ : S} {post : Int32 → S → Prop} {i : Nat} (hi : i < 8) (h : post 0 σ) : CI l E w yJ0_coder_7d493 cJ0_coder_7d493 1 .byte rmS0 [.ref (E.2.2 (20 + i))] σ post := met_i (lv := [some (.ref (E.2.2 (20 + i)))]) (by decide) rfl (Nat.le_of_ble_eq_true rfl) rfl (fun X C hQ => by
  refine g_compact C uJ_38 dJ0_coder_7d493_0 ?_
  refine g_if_eq C 13 dJ0_coder_7d493_3 (by decide) (fun q => absurd q (by decide)) (fun q => ?_)
  refine g_aload_0 C dJ0_coder_7d493_6 rfl ?_
  refine g_scoder C hi uJ_15 dJ0_coder_7d493_7 ?_
  refine g_goto C 14 dJ0_coder_7d493_10 (by decide) ?_
  exact g_nreturn C hQ rfl dJ0_coder_7d493_14 h)
theorem cS_isLatin1 {l : Launch} {E : Ev} {S : Type} {w : S → va_W} {σ : S} {post : Int32 → S → Prop} {i : Nat} (hi : i < 8) (h : post 1 σ) : CI l E w yJ0_isLatin1_aae02 cJ0_isLatin1_aae02 1 .boolean rmS0 [.ref (E.2.2 (20 + i))] σ post := met_i (lv := [some (.ref (E.2.2 (20 + i)))]) (by decide) rfl (Nat.le_of_ble_eq_true rfl) rfl (fun X C hQ => by
  refine g_compact C uJ_38 dJ0_isLatin1_aae02_0 ?_
  refine g_if_eq C 17 dJ0_isLatin1_aae02_3 (by decide) (fun q => absurd q (by decide)) (fun q => ?_)
  refine g_aload_0 C dJ0_isLatin1_aae02_6 rfl ?_
  refine g_scoder C hi uJ_15 dJ0_isLatin1_aae02_7 ?_
  refine g_if_ne C 17 dJ0_isLatin1_aae02_10 (by decide) (fun q => absurd rfl q) (fun q => ?_)
  refine g_iconst_1 C dJ0_isLatin1_aae02_13 ?_
  refine g_goto C 18 dJ0_isLatin1_aae02_14 (by decide) ?_
  exact g_zreturn C hQ dJ0_isLatin1_aae02_18 (Or.inr rfl) h)
def wpS_length {S : Type} (i : Nat) (σ : S) (post : Int32 → S → Prop) : Prop := i < 8 ∧ post (Int32.ofNat (slenL.getD i 0)) σ
theorem cS_length {l : Launch} {E : Ev} {S : Type} {w : S → va_W} {σ : S} {post : Int32 → S → Prop} {i : Nat} (h : wpS_length i σ post) : CI l E w yJ0_length_8abf5 cJ0_length_8abf5 1 .int rmS_len [.ref (E.2.2 (20 + i))] σ post := met_i (lv := [some (.ref (E.2.2 (20 + i)))]) (by decide) rfl (Nat.le_of_ble_eq_true rfl) rfl (fun X C hQ => by
  obtain ⟨hi, h⟩ := h
  refine g_aload_0 C dJ0_length_8abf5_0 rfl ?_
  refine g_svalue C hi uJ_9 dJ0_length_8abf5_1 ?_
  refine g_slen C hi dJ0_length_8abf5_4 ?_
  refine g_aload_0 C dJ0_length_8abf5_5 rfl ?_
  refine g_callT C 0 (As := []) (rest := [.int (Int32.ofNat (slenL.getD i 0))]) hi (by decide +kernel) (by decide +kernel) (by decide +kernel) (by decide +kernel) (by decide +kernel) (by decide +kernel) (cS_coder (post := fun r u => r = 0 ∧ u = σ) hi ⟨rfl, rfl⟩) ⟨rfl, rfl⟩ ⟨Nat.le_of_ble_eq_true rfl, Nat.le_of_ble_eq_true rfl⟩ rfl rfl (Nat.le_of_ble_eq_true rfl) dJ0_length_8abf5_6 (fun r u hr => ?_)
  obtain ⟨rfl, rfl⟩ := hr
  refine g_ishr C dJ0_length_8abf5_9 ?_
  exact g_ireturn C hQ dJ0_length_8abf5_10 (by rw [sb_shr0]; exact h))
theorem cS_preIndex {l : Launch} {E : Ev} {S : Type} {w : S → va_W} {σ : S} {post : Int32 → S → Prop} {x y : Int32} {v : Value} (hv : v = .null ∨ ∃ t, v = .ref t) (h0 : ¬ x < 0) (h1 : x < y) (h : post x σ) : CI l E w yJ3_checkIndex_8e157 cJ3_checkIndex_8e157 3 .int rmS0 [.int x, .int y, v] σ post := met_i (lv := [some (.int x), some (.int y), some v]) (by decide) (by rcases hv with rfl | ⟨t, rfl⟩ <;> rfl) (Nat.le_of_ble_eq_true rfl) rfl (fun X C hQ => by
  refine g_iload_0 C dJ3_checkIndex_8e157_0 rfl ?_
  refine g_if_lt C 9 dJ3_checkIndex_8e157_1 (by decide) (fun q => absurd q h0) (fun q => ?_)
  refine g_iload_0 C dJ3_checkIndex_8e157_4 rfl ?_
  refine g_iload_1 C dJ3_checkIndex_8e157_5 rfl ?_
  refine g_icmp_lt C 16 dJ3_checkIndex_8e157_6 (by decide) (fun q => ?_) (fun q => absurd h1 q)
  refine g_iload_0 C dJ3_checkIndex_8e157_16 rfl ?_
  exact g_ireturn C hQ dJ3_checkIndex_8e157_17 h)
theorem cS_checkIndex {l : Launch} {E : Ev} {S : Type} {w : S → va_W} {σ : S} {post : S → Prop} {x y : Int32} (h0 : ¬ x < 0) (h1 : x < y) (h : post σ) : CV l E w yJ0_checkIndex_df160 cJ0_checkIndex_df160 2 rmS_chk [.int x, .int y] σ post := met_v (lv := [some (.int x), some (.int y)]) (by decide) rfl (Nat.le_of_ble_eq_true rfl) rfl (fun X C hQ => by
  refine g_iload_0 C dJ0_checkIndex_df160_0 rfl ?_
  refine g_iload_1 C dJ0_checkIndex_df160_1 rfl ?_
  refine g_siobe C (by decide +kernel) dJ0_checkIndex_df160_2 (fun v hv => ?_)
  refine g_callSi C 3 (As := [.int x, .int y, v]) (rest := []) (by decide +kernel) (by decide +kernel) (by decide +kernel) (by decide +kernel) (by decide +kernel) (cS_preIndex (post := fun r u => r = x ∧ u = σ) hv h0 h1 ⟨rfl, rfl⟩) ⟨rfl, rfl⟩ ⟨Nat.le_of_ble_eq_true rfl, Nat.le_of_ble_eq_true rfl⟩ rfl rfl (Nat.le_of_ble_eq_true rfl) dJ0_checkIndex_df160_5 (fun r u hr => ?_)
  obtain ⟨rfl, rfl⟩ := hr
  refine g_pop C dJ0_checkIndex_df160_8 rfl ?_
  exact g_return C hQ dJ0_checkIndex_df160_9 h)
def scF (i : Nat) (k : Int32) : Int32 := (sbytL.getD i []).getD k.toNatClampNeg 0
theorem scF_char : ∀ i, i < 8 → ∀ j, j < slenL.getD i 0 → (((((sbytL.getD i []).getD j 0) &&& 255).toUInt32 % 65536).toInt32 = (sbytL.getD i []).getD j 0) := by decide +kernel
theorem scF_nar : ∀ i, i < 8 → ∀ j, j < slenL.getD i 0 → narrow .char (.int ((sbytL.getD i []).getD j 0)) = .int ((sbytL.getD i []).getD j 0) := by decide +kernel
theorem vp_lens : ∀ i, i < 8 → slenL.getD i 0 < 2 ^ 31 := by decide +kernel
theorem vp_in_lt {x : Int32} {n : Nat} (h : vp_in x n) (hn : n < 2 ^ 31) : ¬ x < 0 ∧ x < Int32.ofNat n := by
  obtain ⟨j, hj, rfl⟩ := vp_in_of h hn
  exact ⟨nI_pos (by omega), nI_lt hj hn⟩
theorem cS_latin {l : Launch} {E : Ev} {S : Type} {w : S → va_W} {σ : S} {post : Int32 → S → Prop} {i : Nat} {k : Int32} (hi : i < 8) (hk : vp_in k (slenL.getD i 0)) (h : post (scF i k) σ) : CI l E w yJ1_charAt_3b067 cJ1_charAt_3b067 2 .char rmS_cL [.ref (E.2.2 (30 + i)), .int k] σ post := met_i (lv := [some (.ref (E.2.2 (30 + i))), some (.int k)]) (by decide) rfl (Nat.le_of_ble_eq_true rfl) rfl (fun X C hQ => by
  have hb := vp_in_lt hk (vp_lens i hi)
  refine g_iload_1 C dJ1_charAt_3b067_0 rfl ?_
  refine g_aload_0 C dJ1_charAt_3b067_1 rfl ?_
  refine g_slen C hi dJ1_charAt_3b067_2 ?_
  refine g_callSv C 2 (As := [.int k, .int (Int32.ofNat (slenL.getD i 0))]) (rest := []) (by decide +kernel) (by decide +kernel) (by decide +kernel) (by decide +kernel) (by decide +kernel) (cS_checkIndex (post := fun u => u = σ) hb.1 hb.2 rfl) ⟨rfl, rfl⟩ ⟨Nat.le_of_ble_eq_true rfl, Nat.le_of_ble_eq_true rfl⟩ rfl rfl (Nat.le_of_ble_eq_true rfl) dJ1_charAt_3b067_3 (fun u hr => ?_)
  obtain rfl := hr
  refine g_aload_0 C dJ1_charAt_3b067_6 rfl ?_
  refine g_iload_1 C dJ1_charAt_3b067_7 rfl ?_
  refine g_sald C hi hk dJ1_charAt_3b067_8 ?_
  refine g_sipush C (v := 255) (by decide) dJ1_charAt_3b067_9 ?_
  refine g_iand C dJ1_charAt_3b067_12 ?_
  refine g_i2c C dJ1_charAt_3b067_13 ?_
  rw [scF_char i hi _ (vp_lt hk)]
  exact g_nreturn C hQ (scF_nar i hi _ (vp_lt hk)) dJ1_charAt_3b067_14 h)
def wpS_charAt {S : Type} (i : Nat) (k : Int32) (σ : S) (post : Int32 → S → Prop) : Prop := i < 8 ∧ vp_in k (slenL.getD i 0) ∧ post (scF i k) σ
theorem cS_charAt {l : Launch} {E : Ev} {S : Type} {w : S → va_W} {σ : S} {post : Int32 → S → Prop} {i : Nat} {k : Int32} (h : wpS_charAt i k σ post) : CI l E w yJ0_charAt_5068e cJ0_charAt_5068e 2 .char rmS_char [.ref (E.2.2 (20 + i)), .int k] σ post := met_i (lv := [some (.ref (E.2.2 (20 + i))), some (.int k)]) (by decide) rfl (Nat.le_of_ble_eq_true rfl) rfl (fun X C hQ => by
  obtain ⟨hi, hk, h⟩ := h
  refine g_aload_0 C dJ0_charAt_5068e_0 rfl ?_
  refine g_callT C 0 (As := []) (rest := []) hi (by decide +kernel) (by decide +kernel) (by decide +kernel) (by decide +kernel) (by decide +kernel) (by decide +kernel) (cS_isLatin1 (post := fun r u => r = 1 ∧ u = σ) hi ⟨rfl, rfl⟩) ⟨rfl, rfl⟩ ⟨Nat.le_of_ble_eq_true rfl, Nat.le_of_ble_eq_true rfl⟩ rfl rfl (Nat.le_of_ble_eq_true rfl) dJ0_charAt_5068e_1 (fun r u hr => ?_)
  obtain ⟨rfl, rfl⟩ := hr
  refine g_if_eq C 16 dJ0_charAt_5068e_4 (by decide) (fun q => absurd q (by decide)) (fun q => ?_)
  refine g_aload_0 C dJ0_charAt_5068e_7 rfl ?_
  refine g_svalue C hi uJ_9 dJ0_charAt_5068e_8 ?_
  refine g_iload_1 C dJ0_charAt_5068e_11 rfl ?_
  refine g_callSi C 2 (As := [.ref (E.2.2 (30 + i)), .int k]) (rest := []) (by decide +kernel) (by decide +kernel) (by decide +kernel) (by decide +kernel) (by decide +kernel) (cS_latin (post := fun r v => r = scF i k ∧ v = u) hi hk ⟨rfl, rfl⟩) ⟨rfl, rfl⟩ ⟨Nat.le_of_ble_eq_true rfl, Nat.le_of_ble_eq_true rfl⟩ rfl rfl (Nat.le_of_ble_eq_true rfl) dJ0_charAt_5068e_12 (fun r v hr => ?_)
  obtain ⟨rfl, rfl⟩ := hr
  exact g_nreturn C hQ (scF_nar i hi _ (vp_lt hk)) dJ0_charAt_5068e_15 h)
/-! a method that answers a constant of the enum, or null -/
def QW (X : Kx) {S : Type} (w : S → va_W) (post : Option Nat → S → Prop) : Prop := match X with
  | (_, _, _, _, s, _, args, below, _, _, Q, A, E, _, kc, ks) => Q = MQ below (va_Qe (fun j => E.2.2 (10 + j)) post (pW E w A) A) args s kc ks A
def CW (l : Launch) (E : Ev) {S : Type} (w : S → va_W) (y : MethodName) (cc : ByteArray) (nL : Nat) (rm : Room) (As : List Value) (σ : S) (post : Option Nat → S → Prop) : Prop := ∀ sz : Nat, Met l y (WS y cc nL (some (.object "IceRun$Word"))) rm (va_Pc As (preW E w σ sz)) (va_Qe (fun j => E.2.2 (10 + j)) post (pW E w (va_A (w σ) sz)) (va_A (w σ) sz)) 0 0 (va_A (w σ) sz)
theorem met_w {l : Launch} {E : Ev} {S : Type} {w : S → va_W} {y : MethodName} {cc : ByteArray} {nL : Nat} {rm : Room} {As : List Value} {σ : S} {post : Option Nat → S → Prop} {lv : List (Option Value)} (hy : plainName y.cls = true) (hc : As.all (fun v => v.category == 1) = true) (hn : As.length ≤ nL) (hlv : lv = As.map some ++ List.replicate (nL - As.length) none)
    (body : ∀ X : Kx, Cx X l E y.cls cc rm (some (.object "IceRun$Word")) → QW X w post → G X w σ 0 lv []) : CW l E w y cc nL rm As σ post := by
  intro sz
  refine Met.ofW (cc := cc) (maxL := nL) (ret := some (.object "IceRun$Word")) hy rfl ?_
  intro p e s m args below meth c s₁ B hml hv
  obtain ⟨rfl, hsz, hP, hD, hF⟩ := hv
  subst hsz
  have hts := atoms_spec (ws := WS y cc nL (some (.object "IceRun$Word"))) B.pre
  have hU : ∀ x ∈ UW, x.before As.toArray s = true := fun x hx => hts x (List.mem_cons_of_mem _ hx)
  have K := body (p, l, e, rm, s, m, As.toArray, below, meth, c, MQ below (va_Qe (fun j => E.2.2 (10 + j)) post (pW E w (va_A (w σ) s.heap.size)) (va_A (w σ) s.heap.size)) As.toArray s 0 0 (va_A (w σ) s.heap.size), va_A (w σ) s.heap.size, E, nL, 0, 0) ⟨⟨B.exec, B.bytes, hml, findClass_of_methodNamed B.named, hU⟩, hF, fun q h => Or.inr h, B.notSynchronized, rfl, B.returns, rfl, rfl, Nat.zero_le _, Nat.zero_le _⟩ rfl
  rw [lg_entry_eq]
  exact K s.heap [] _ hP (hD.self (sz := s.heap.size)) va_S.rf (lvH_entry hc hn hlv)
theorem g_wreturn {X : Kx} {S : Type} {w : S → va_W} {σ : S} {l : Launch} {E : Ev} {own : String} {cc : ByteArray} {rm : Room} {pc : Nat} {lv : List (Option Value)} {post : Option Nat → S → Prop} {j : Nat} (C : Cx X l E own cc rm (some (.object "IceRun$Word"))) (hQ : QW X w post) (d : decode cc pc = .ok (.areturn, 1)) (h : post (some j) σ) : G X w σ pc lv [.ref (E.2.2 (10 + j))] := by
  obtain ⟨p, l', e, R, s, m, args, below, meth, c, Q, A, E', nL, kc, ks⟩ := X
  intro H locs ls hP hD hS hl
  have hE : E' = E := C.2.2.2.2.2.2.2.1
  subst hE
  have hq : Q = _ := hQ
  subst hq
  exact W.aret C.1.1 C.1.2.1 C.2.2.2.2.2.1 (Or.inl ⟨_, rfl⟩) (Or.inr ⟨_, rfl⟩) (fun t ht _ => ⟨⟨some j, σ, rfl, h, by rw [ht]; exact hP, hD⟩, hS.F ht⟩) hS.2.2 d C.2.2.2.1
theorem g_nullreturn {X : Kx} {S : Type} {w : S → va_W} {σ : S} {l : Launch} {E : Ev} {own : String} {cc : ByteArray} {rm : Room} {pc : Nat} {lv : List (Option Value)} {post : Option Nat → S → Prop} (C : Cx X l E own cc rm (some (.object "IceRun$Word"))) (hQ : QW X w post) (d : decode cc pc = .ok (.areturn, 1)) (h : post none σ) : G X w σ pc lv [.null] := by
  obtain ⟨p, l', e, R, s, m, args, below, meth, c, Q, A, E', nL, kc, ks⟩ := X
  intro H locs ls hP hD hS hl
  have hq : Q = _ := hQ
  subst hq
  exact W.aret C.1.1 C.1.2.1 C.2.2.2.2.2.1 (Or.inl ⟨_, rfl⟩) (Or.inl rfl) (fun t ht _ => ⟨⟨none, σ, rfl, h, by rw [ht]; exact hP, hD⟩, hS.F ht⟩) hS.2.2 d C.2.2.2.1
theorem g_callVw {X : Kx} {S : Type} {w : S → va_W} {σ : S} {l : Launch} {E : Ev} {own : String} {cc : ByteArray} {rm : Room} {ret : Option FieldType} {pc : Nat} {lv : List (Option Value)} {st : List Value} (C : Cx X l E own cc rm ret) {y : MethodName} {bytes : ByteArray} {nL' idx : Nat} (n : Nat) {rm' : Room} {As rest : List Value} {post : Option Nat → S → Prop} {b q0 ci N : Nat} {fs : List Value} {T : u_T} {Cn : String} (h1 : Cond.methodLink own idx y ∈ UW) (h2 : Cond.instanceMethod y ∈ UW) (h3 : Cond.selects Cn y y ∈ UW) (h4 : Cond.initialized Cn ∈ UW) (h5 : Cond.code y bytes nL' (some (.object "IceRun$Word")) ∈ UW) (hd : y.cls = Cn ∧ y.cls ≠ "java/lang/invoke/MethodHandle" ∧ y.cls ≠ "java/lang/invoke/VarHandle" ∧ (parseMethodDescriptor y.desc).map (fun d => d.parameters.length) = some n) (he : (w σ)[q0]? = some (b, .inr (ci, fs))) (hc : vwCl[ci]? = some (Cn, T, N)) (hM : CW l E w y bytes nL' rm' (.ref b :: As) σ post) (hz : rm'.cells = 0 ∧ rm'.slots = 0) (hR : rm'.frames + 1 ≤ rm.frames ∧ 8 + (nL' + 11) + rm'.locals ≤ rm.locals) (hn : As.length = n) (hst : st = As.reverse ++ .ref b :: rest) (hW : (rest.map fun v => v.category).sum ≤ 8) (d : decode cc pc = .ok (.invokevirtual idx, 3)) (k0 : ∀ u : S, post none u → G X w u (pc + 3) lv (.null :: rest)) (k1 : ∀ (j : Nat) (u : S), post (some j) u → G X w u (pc + 3) lv (.ref (E.2.2 (10 + j)) :: rest)) : G X w σ pc lv st := by
  obtain ⟨p, l', e, R, s, m, args, below, meth, c, Q, A, E', nL, kc, ks⟩ := X
  intro H locs ls hP hD hS hl
  have hR' : R = rm := C.2.2.2.2.1
  have hl' : l' = l := C.2.2.2.2.2.2.1
  have hE : E' = E := C.2.2.2.2.2.2.2.1
  subst hR'
  subst hl'
  subst hE
  have hFr : ∀ q, va_A (w σ) H.size q → A q := fun q h => h.elim (fun ⟨k9, e9, h9⟩ => hD.2 k9 _ h9) (fun h9 => C.2.2.1 q (Nat.le_trans hS.1 h9))
  subst hst
  exact va_calle (va_runV (As := As) (rest := rest) C.1 (hM H.size) (cwV n C.1.2.2.2.2 (wsV_gi h1 h2 h3 h4 h5) rfl hz.1 hz.2 hd hR) ⟨preW.blind, va_recv C.2.1.1 hP hc he, fun U hU hW9 => ⟨rfl, by rw [hU], by rw [hU]; exact hP, hD.weaken (fun _ _ _ _ => trivial), Fx.call C.2.1 hS hFr hW9 hU⟩⟩ rfl hn hl.1 rfl (lv_room hW) d ⟨C.2.2.2.2.2.2.2.2.1, C.2.2.2.2.2.2.2.2.2⟩) hS (fun q _ h => hFr q h) hFr (fun r u t H1 locs1 ht hvm hp hB hz1 hk1 hS1 => by
    cases r with
    | none => exact k0 u hp H1 locs1 ls (ht ▸ hB.1) (hB.2.weaken (fun _ _ _ h => hFr _ h)) hS1 hl
    | some j => exact k1 j u hp H1 locs1 ls (ht ▸ hB.1) (hB.2.weaken (fun _ _ _ h => hFr _ h)) hS1 hl)
end
