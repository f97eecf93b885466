section
-- ===== PART A: goes FIRST, ahead of the names: the tables' words, and 'selects' of the private methods out of them =====
/-- a private method of a class that the tables say can be made, by its rows of tables_1 -/
def lw_okq (q : MethodName × Nat) : Prop := (q.1.cls ≠ "java/lang/invoke/MethodHandle" ∧ q.1.cls ≠ "java/lang/invoke/VarHandle") ∧ Cond.instantiable q.1.cls q.2 ∈ tables_1 ∧ Cond.privateMethod q.1 ∈ tables_1 ∧ Cond.instanceMethod q.1 ∈ tables_1
theorem lw_p0 : lw_okq (⟨"java/lang/Throwable", "fillInStackTrace", "(I)Ljava/lang/Throwable;"⟩, 6) := ⟨⟨by decide +kernel, by decide +kernel⟩, List.mem_of_getElem? (i := 327) (by decide +kernel), List.mem_of_getElem? (i := 325) (by decide +kernel), List.mem_of_getElem? (i := 326) (by decide +kernel)⟩
theorem lw_p1 : lw_okq (⟨"HymnEndings", "finishChange", "(Z)V"⟩, 11) := ⟨⟨by decide +kernel, by decide +kernel⟩, List.mem_of_getElem? (i := 29) (by decide +kernel), List.mem_of_getElem? (i := 411) (by decide +kernel), List.mem_of_getElem? (i := 412) (by decide +kernel)⟩
theorem lw_p2 : lw_okq (⟨"HymnEndings$EndingOrder", "rankToTake", "(LHymnEndings$Book;II)I"⟩, 4) := ⟨⟨by decide +kernel, by decide +kernel⟩, List.mem_of_getElem? (i := 124) (by decide +kernel), List.mem_of_getElem? (i := 441) (by decide +kernel), List.mem_of_getElem? (i := 442) (by decide +kernel)⟩
theorem lw_p3 : lw_okq (⟨"HymnEndings$EndingOrder", "insert", "(III)V"⟩, 4) := ⟨⟨by decide +kernel, by decide +kernel⟩, List.mem_of_getElem? (i := 124) (by decide +kernel), List.mem_of_getElem? (i := 457) (by decide +kernel), List.mem_of_getElem? (i := 458) (by decide +kernel)⟩
theorem lw_p4 : lw_okq (⟨"HymnEndings", "checkLine", "(I)V"⟩, 11) := ⟨⟨by decide +kernel, by decide +kernel⟩, List.mem_of_getElem? (i := 29) (by decide +kernel), List.mem_of_getElem? (i := 583) (by decide +kernel), List.mem_of_getElem? (i := 584) (by decide +kernel)⟩
theorem lw_p5 : lw_okq (⟨"HymnEndings", "checkPlace", "(II)V"⟩, 11) := ⟨⟨by decide +kernel, by decide +kernel⟩, List.mem_of_getElem? (i := 29) (by decide +kernel), List.mem_of_getElem? (i := 645) (by decide +kernel), List.mem_of_getElem? (i := 646) (by decide +kernel)⟩
theorem lw_p6 : lw_okq (⟨"HymnEndings", "checkRank", "(I)V"⟩, 11) := ⟨⟨by decide +kernel, by decide +kernel⟩, List.mem_of_getElem? (i := 29) (by decide +kernel), List.mem_of_getElem? (i := 660) (by decide +kernel), List.mem_of_getElem? (i := 661) (by decide +kernel)⟩
theorem lw_p7 : lw_okq (⟨"HymnEndings", "checkRepeat", "()V"⟩, 11) := ⟨⟨by decide +kernel, by decide +kernel⟩, List.mem_of_getElem? (i := 29) (by decide +kernel), List.mem_of_getElem? (i := 726) (by decide +kernel), List.mem_of_getElem? (i := 727) (by decide +kernel)⟩
theorem lw_p8 : lw_okq (⟨"HymnEndings", "checkWord", "()V"⟩, 11) := ⟨⟨by decide +kernel, by decide +kernel⟩, List.mem_of_getElem? (i := 29) (by decide +kernel), List.mem_of_getElem? (i := 743) (by decide +kernel), List.mem_of_getElem? (i := 744) (by decide +kernel)⟩
theorem lw_p9 : lw_okq (⟨"HymnEndings$EndingOrder", "firstRankAbove", "(LHymnEndings$Book;LHymnEndings$Text;I)I"⟩, 4) := ⟨⟨by decide +kernel, by decide +kernel⟩, List.mem_of_getElem? (i := 124) (by decide +kernel), List.mem_of_getElem? (i := 753) (by decide +kernel), List.mem_of_getElem? (i := 754) (by decide +kernel)⟩
theorem lw_p10 : lw_okq (⟨"HymnEndings", "checkAlone", "(I)V"⟩, 11) := ⟨⟨by decide +kernel, by decide +kernel⟩, List.mem_of_getElem? (i := 29) (by decide +kernel), List.mem_of_getElem? (i := 822) (by decide +kernel), List.mem_of_getElem? (i := 823) (by decide +kernel)⟩
theorem lw_p11 : lw_okq (⟨"HymnEndings$CommandReader", "startCommand", "(I)V"⟩, 4) := ⟨⟨by decide +kernel, by decide +kernel⟩, List.mem_of_getElem? (i := 68) (by decide +kernel), List.mem_of_getElem? (i := 856) (by decide +kernel), List.mem_of_getElem? (i := 857) (by decide +kernel)⟩
theorem lw_p12 : lw_okq (⟨"HymnEndings$CommandReader", "takes", "(CI)Z"⟩, 4) := ⟨⟨by decide +kernel, by decide +kernel⟩, List.mem_of_getElem? (i := 68) (by decide +kernel), List.mem_of_getElem? (i := 862) (by decide +kernel), List.mem_of_getElem? (i := 863) (by decide +kernel)⟩
theorem lw_p13 : lw_okq (⟨"HymnEndings$CommandReader", "isWhole", "()Z"⟩, 4) := ⟨⟨by decide +kernel, by decide +kernel⟩, List.mem_of_getElem? (i := 68) (by decide +kernel), List.mem_of_getElem? (i := 866) (by decide +kernel), List.mem_of_getElem? (i := 867) (by decide +kernel)⟩
theorem lw_p14 : lw_okq (⟨"HymnEndings$CommandReader", "carryOutOne", "(LHymnEndings$Text;ILHymnEndings$Book;LHymnEndings$Refusal;)Z"⟩, 4) := ⟨⟨by decide +kernel, by decide +kernel⟩, List.mem_of_getElem? (i := 68) (by decide +kernel), List.mem_of_getElem? (i := 937) (by decide +kernel), List.mem_of_getElem? (i := 938) (by decide +kernel)⟩
theorem lw_p15 : lw_okq (⟨"HymnEndings$CommandReader", "endOf", "(ILHymnEndings$Text;)I"⟩, 4) := ⟨⟨by decide +kernel, by decide +kernel⟩, List.mem_of_getElem? (i := 68) (by decide +kernel), List.mem_of_getElem? (i := 946) (by decide +kernel), List.mem_of_getElem? (i := 947) (by decide +kernel)⟩
def lw_privs_1 : List (MethodName × Nat) := [(⟨"java/lang/Throwable", "fillInStackTrace", "(I)Ljava/lang/Throwable;"⟩, 6), (⟨"HymnEndings", "finishChange", "(Z)V"⟩, 11), (⟨"HymnEndings$EndingOrder", "rankToTake", "(LHymnEndings$Book;II)I"⟩, 4), (⟨"HymnEndings$EndingOrder", "insert", "(III)V"⟩, 4), (⟨"HymnEndings", "checkLine", "(I)V"⟩, 11), (⟨"HymnEndings", "checkPlace", "(II)V"⟩, 11), (⟨"HymnEndings", "checkRank", "(I)V"⟩, 11), (⟨"HymnEndings", "checkRepeat", "()V"⟩, 11), (⟨"HymnEndings", "checkWord", "()V"⟩, 11), (⟨"HymnEndings$EndingOrder", "firstRankAbove", "(LHymnEndings$Book;LHymnEndings$Text;I)I"⟩, 4), (⟨"HymnEndings", "checkAlone", "(I)V"⟩, 11), (⟨"HymnEndings$CommandReader", "startCommand", "(I)V"⟩, 4), (⟨"HymnEndings$CommandReader", "takes", "(CI)Z"⟩, 4), (⟨"HymnEndings$CommandReader", "isWhole", "()Z"⟩, 4), (⟨"HymnEndings$CommandReader", "carryOutOne", "(LHymnEndings$Text;ILHymnEndings$Book;LHymnEndings$Refusal;)Z"⟩, 4), (⟨"HymnEndings$CommandReader", "endOf", "(ILHymnEndings$Text;)I"⟩, 4)]
theorem lw_r1 : ∀ q ∈ lw_privs_1, lw_okq q := List.forall_mem_cons.mpr ⟨lw_p0, List.forall_mem_cons.mpr ⟨lw_p1, List.forall_mem_cons.mpr ⟨lw_p2, List.forall_mem_cons.mpr ⟨lw_p3, List.forall_mem_cons.mpr ⟨lw_p4, List.forall_mem_cons.mpr ⟨lw_p5, List.forall_mem_cons.mpr ⟨lw_p6, List.forall_mem_cons.mpr ⟨lw_p7, List.forall_mem_cons.mpr ⟨lw_p8, List.forall_mem_cons.mpr ⟨lw_p9, List.forall_mem_cons.mpr ⟨lw_p10, List.forall_mem_cons.mpr ⟨lw_p11, List.forall_mem_cons.mpr ⟨lw_p12, List.forall_mem_cons.mpr ⟨lw_p13, List.forall_mem_cons.mpr ⟨lw_p14, List.forall_mem_cons.mpr ⟨lw_p15, fun _ h => absurd h List.not_mem_nil⟩⟩⟩⟩⟩⟩⟩⟩⟩⟩⟩⟩⟩⟩⟩⟩
theorem lw_p16 : lw_okq (⟨"HymnEndings", "checkNotEmpty", "()V"⟩, 11) := ⟨⟨by decide +kernel, by decide +kernel⟩, List.mem_of_getElem? (i := 29) (by decide +kernel), List.mem_of_getElem? (i := 1041) (by decide +kernel), List.mem_of_getElem? (i := 1042) (by decide +kernel)⟩
theorem lw_p17 : lw_okq (⟨"HymnEndingsModel", "holdsWord", "()Z"⟩, 19) := ⟨⟨by decide +kernel, by decide +kernel⟩, List.mem_of_getElem? (i := 1113) (by decide +kernel), List.mem_of_getElem? (i := 1196) (by decide +kernel), List.mem_of_getElem? (i := 1197) (by decide +kernel)⟩
theorem lw_p18 : lw_okq (⟨"HymnEndingsModel", "begins", "()V"⟩, 19) := ⟨⟨by decide +kernel, by decide +kernel⟩, List.mem_of_getElem? (i := 1113) (by decide +kernel), List.mem_of_getElem? (i := 1200) (by decide +kernel), List.mem_of_getElem? (i := 1201) (by decide +kernel)⟩
theorem lw_p19 : lw_okq (⟨"HymnEndingsModel", "copies", "(II)V"⟩, 19) := ⟨⟨by decide +kernel, by decide +kernel⟩, List.mem_of_getElem? (i := 1113) (by decide +kernel), List.mem_of_getElem? (i := 1204) (by decide +kernel), List.mem_of_getElem? (i := 1205) (by decide +kernel)⟩
theorem lw_p20 : lw_okq (⟨"HymnEndingsModel", "refuses", "(ZII)Z"⟩, 19) := ⟨⟨by decide +kernel, by decide +kernel⟩, List.mem_of_getElem? (i := 1113) (by decide +kernel), List.mem_of_getElem? (i := 1208) (by decide +kernel), List.mem_of_getElem? (i := 1209) (by decide +kernel)⟩
theorem lw_p21 : lw_okq (⟨"HymnEndingsModel", "adds", "()Z"⟩, 19) := ⟨⟨by decide +kernel, by decide +kernel⟩, List.mem_of_getElem? (i := 1113) (by decide +kernel), List.mem_of_getElem? (i := 1212) (by decide +kernel), List.mem_of_getElem? (i := 1213) (by decide +kernel)⟩
theorem lw_p22 : lw_okq (⟨"HymnEndingsModel", "many", "()I"⟩, 19) := ⟨⟨by decide +kernel, by decide +kernel⟩, List.mem_of_getElem? (i := 1113) (by decide +kernel), List.mem_of_getElem? (i := 1216) (by decide +kernel), List.mem_of_getElem? (i := 1217) (by decide +kernel)⟩
theorem lw_p23 : lw_okq (⟨"HymnEndingsModel", "set", "(III)V"⟩, 19) := ⟨⟨by decide +kernel, by decide +kernel⟩, List.mem_of_getElem? (i := 1113) (by decide +kernel), List.mem_of_getElem? (i := 1220) (by decide +kernel), List.mem_of_getElem? (i := 1221) (by decide +kernel)⟩
theorem lw_p24 : lw_okq (⟨"HymnEndingsModel", "ends", "(ZI)I"⟩, 19) := ⟨⟨by decide +kernel, by decide +kernel⟩, List.mem_of_getElem? (i := 1113) (by decide +kernel), List.mem_of_getElem? (i := 1224) (by decide +kernel), List.mem_of_getElem? (i := 1225) (by decide +kernel)⟩
theorem lw_p25 : lw_okq (⟨"HymnEndingsModel", "cuts", "(I)Z"⟩, 19) := ⟨⟨by decide +kernel, by decide +kernel⟩, List.mem_of_getElem? (i := 1113) (by decide +kernel), List.mem_of_getElem? (i := 1232) (by decide +kernel), List.mem_of_getElem? (i := 1233) (by decide +kernel)⟩
theorem lw_p26 : lw_okq (⟨"HymnEndingsModel", "isNoLine", "(I)Z"⟩, 19) := ⟨⟨by decide +kernel, by decide +kernel⟩, List.mem_of_getElem? (i := 1113) (by decide +kernel), List.mem_of_getElem? (i := 1236) (by decide +kernel), List.mem_of_getElem? (i := 1237) (by decide +kernel)⟩
theorem lw_p27 : lw_okq (⟨"HymnEndingsModel", "isLineNumber", "(I)Z"⟩, 19) := ⟨⟨by decide +kernel, by decide +kernel⟩, List.mem_of_getElem? (i := 1113) (by decide +kernel), List.mem_of_getElem? (i := 1240) (by decide +kernel), List.mem_of_getElem? (i := 1241) (by decide +kernel)⟩
theorem lw_p28 : lw_okq (⟨"HymnEndingsModel", "goes", "(I)V"⟩, 19) := ⟨⟨by decide +kernel, by decide +kernel⟩, List.mem_of_getElem? (i := 1113) (by decide +kernel), List.mem_of_getElem? (i := 1244) (by decide +kernel), List.mem_of_getElem? (i := 1245) (by decide +kernel)⟩
theorem lw_p29 : lw_okq (⟨"HymnEndingsModel", "sets", "(III)Z"⟩, 19) := ⟨⟨by decide +kernel, by decide +kernel⟩, List.mem_of_getElem? (i := 1113) (by decide +kernel), List.mem_of_getElem? (i := 1252) (by decide +kernel), List.mem_of_getElem? (i := 1253) (by decide +kernel)⟩
theorem lw_p30 : lw_okq (⟨"HymnEndingsModel", "isPlace", "(II)Z"⟩, 19) := ⟨⟨by decide +kernel, by decide +kernel⟩, List.mem_of_getElem? (i := 1113) (by decide +kernel), List.mem_of_getElem? (i := 1256) (by decide +kernel), List.mem_of_getElem? (i := 1257) (by decide +kernel)⟩
theorem lw_p31 : lw_okq (⟨"HymnEndingsModel", "size", "(I)I"⟩, 19) := ⟨⟨by decide +kernel, by decide +kernel⟩, List.mem_of_getElem? (i := 1113) (by decide +kernel), List.mem_of_getElem? (i := 1260) (by decide +kernel), List.mem_of_getElem? (i := 1261) (by decide +kernel)⟩
def lw_privs_2 : List (MethodName × Nat) := [(⟨"HymnEndings", "checkNotEmpty", "()V"⟩, 11), (⟨"HymnEndingsModel", "holdsWord", "()Z"⟩, 19), (⟨"HymnEndingsModel", "begins", "()V"⟩, 19), (⟨"HymnEndingsModel", "copies", "(II)V"⟩, 19), (⟨"HymnEndingsModel", "refuses", "(ZII)Z"⟩, 19), (⟨"HymnEndingsModel", "adds", "()Z"⟩, 19), (⟨"HymnEndingsModel", "many", "()I"⟩, 19), (⟨"HymnEndingsModel", "set", "(III)V"⟩, 19), (⟨"HymnEndingsModel", "ends", "(ZI)I"⟩, 19), (⟨"HymnEndingsModel", "cuts", "(I)Z"⟩, 19), (⟨"HymnEndingsModel", "isNoLine", "(I)Z"⟩, 19), (⟨"HymnEndingsModel", "isLineNumber", "(I)Z"⟩, 19), (⟨"HymnEndingsModel", "goes", "(I)V"⟩, 19), (⟨"HymnEndingsModel", "sets", "(III)Z"⟩, 19), (⟨"HymnEndingsModel", "isPlace", "(II)Z"⟩, 19), (⟨"HymnEndingsModel", "size", "(I)I"⟩, 19)]
theorem lw_r2 : ∀ q ∈ lw_privs_2, lw_okq q := List.forall_mem_cons.mpr ⟨lw_p16, List.forall_mem_cons.mpr ⟨lw_p17, List.forall_mem_cons.mpr ⟨lw_p18, List.forall_mem_cons.mpr ⟨lw_p19, List.forall_mem_cons.mpr ⟨lw_p20, List.forall_mem_cons.mpr ⟨lw_p21, List.forall_mem_cons.mpr ⟨lw_p22, List.forall_mem_cons.mpr ⟨lw_p23, List.forall_mem_cons.mpr ⟨lw_p24, List.forall_mem_cons.mpr ⟨lw_p25, List.forall_mem_cons.mpr ⟨lw_p26, List.forall_mem_cons.mpr ⟨lw_p27, List.forall_mem_cons.mpr ⟨lw_p28, List.forall_mem_cons.mpr ⟨lw_p29, List.forall_mem_cons.mpr ⟨lw_p30, List.forall_mem_cons.mpr ⟨lw_p31, fun _ h => absurd h List.not_mem_nil⟩⟩⟩⟩⟩⟩⟩⟩⟩⟩⟩⟩⟩⟩⟩⟩
theorem lw_p32 : lw_okq (⟨"HymnEndingsModel", "at", "(II)I"⟩, 19) := ⟨⟨by decide +kernel, by decide +kernel⟩, List.mem_of_getElem? (i := 1113) (by decide +kernel), List.mem_of_getElem? (i := 1264) (by decide +kernel), List.mem_of_getElem? (i := 1265) (by decide +kernel)⟩
theorem lw_p33 : lw_okq (⟨"HymnEndingsModel", "rankOf", "(II)I"⟩, 19) := ⟨⟨by decide +kernel, by decide +kernel⟩, List.mem_of_getElem? (i := 1113) (by decide +kernel), List.mem_of_getElem? (i := 1268) (by decide +kernel), List.mem_of_getElem? (i := 1269) (by decide +kernel)⟩
theorem lw_p34 : lw_okq (⟨"HymnEndingsModel", "orders", "()V"⟩, 19) := ⟨⟨by decide +kernel, by decide +kernel⟩, List.mem_of_getElem? (i := 1113) (by decide +kernel), List.mem_of_getElem? (i := 1272) (by decide +kernel), List.mem_of_getElem? (i := 1273) (by decide +kernel)⟩
theorem lw_p35 : lw_okq (⟨"HymnEndingsModel", "isAhead", "(II)Z"⟩, 19) := ⟨⟨by decide +kernel, by decide +kernel⟩, List.mem_of_getElem? (i := 1113) (by decide +kernel), List.mem_of_getElem? (i := 1276) (by decide +kernel), List.mem_of_getElem? (i := 1277) (by decide +kernel)⟩
theorem lw_p36 : lw_okq (⟨"HymnEndingsModel", "front", "(II)I"⟩, 19) := ⟨⟨by decide +kernel, by decide +kernel⟩, List.mem_of_getElem? (i := 1113) (by decide +kernel), List.mem_of_getElem? (i := 1280) (by decide +kernel), List.mem_of_getElem? (i := 1281) (by decide +kernel)⟩
theorem lw_p37 : lw_okq (⟨"HymnEndingsModel", "left", "(I)I"⟩, 19) := ⟨⟨by decide +kernel, by decide +kernel⟩, List.mem_of_getElem? (i := 1113) (by decide +kernel), List.mem_of_getElem? (i := 1284) (by decide +kernel), List.mem_of_getElem? (i := 1285) (by decide +kernel)⟩
theorem lw_p38 : lw_okq (⟨"HymnEndingsModel", "letterOf", "(II)I"⟩, 19) := ⟨⟨by decide +kernel, by decide +kernel⟩, List.mem_of_getElem? (i := 1113) (by decide +kernel), List.mem_of_getElem? (i := 1288) (by decide +kernel), List.mem_of_getElem? (i := 1289) (by decide +kernel)⟩
theorem lw_p39 : lw_okq (⟨"HymnEndingsModel", "swaps", "(II)Z"⟩, 19) := ⟨⟨by decide +kernel, by decide +kernel⟩, List.mem_of_getElem? (i := 1113) (by decide +kernel), List.mem_of_getElem? (i := 1296) (by decide +kernel), List.mem_of_getElem? (i := 1297) (by decide +kernel)⟩
theorem lw_p40 : lw_okq (⟨"HymnEndingsModel", "areOne", "(II)Z"⟩, 19) := ⟨⟨by decide +kernel, by decide +kernel⟩, List.mem_of_getElem? (i := 1113) (by decide +kernel), List.mem_of_getElem? (i := 1300) (by decide +kernel), List.mem_of_getElem? (i := 1301) (by decide +kernel)⟩
theorem lw_p41 : lw_okq (⟨"HymnEndingsModel", "joins", "(II)Z"⟩, 19) := ⟨⟨by decide +kernel, by decide +kernel⟩, List.mem_of_getElem? (i := 1113) (by decide +kernel), List.mem_of_getElem? (i := 1308) (by decide +kernel), List.mem_of_getElem? (i := 1309) (by decide +kernel)⟩
theorem lw_p42 : lw_okq (⟨"HymnEndingsModel", "turns", "(I)Z"⟩, 19) := ⟨⟨by decide +kernel, by decide +kernel⟩, List.mem_of_getElem? (i := 1113) (by decide +kernel), List.mem_of_getElem? (i := 1316) (by decide +kernel), List.mem_of_getElem? (i := 1317) (by decide +kernel)⟩
theorem lw_p43 : lw_okq (⟨"HymnEndingsModel", "isBack", "(II)Z"⟩, 19) := ⟨⟨by decide +kernel, by decide +kernel⟩, List.mem_of_getElem? (i := 1113) (by decide +kernel), List.mem_of_getElem? (i := 1320) (by decide +kernel), List.mem_of_getElem? (i := 1321) (by decide +kernel)⟩
theorem lw_p44 : lw_okq (⟨"HymnEndingsModel", "different", "(II)I"⟩, 19) := ⟨⟨by decide +kernel, by decide +kernel⟩, List.mem_of_getElem? (i := 1113) (by decide +kernel), List.mem_of_getElem? (i := 1328) (by decide +kernel), List.mem_of_getElem? (i := 1329) (by decide +kernel)⟩
theorem lw_p45 : lw_okq (⟨"HymnEndingsModel", "likes", "(I)I"⟩, 19) := ⟨⟨by decide +kernel, by decide +kernel⟩, List.mem_of_getElem? (i := 1113) (by decide +kernel), List.mem_of_getElem? (i := 1332) (by decide +kernel), List.mem_of_getElem? (i := 1333) (by decide +kernel)⟩
theorem lw_p46 : lw_okq (⟨"HymnEndingsModel", "areAlike", "(II)Z"⟩, 19) := ⟨⟨by decide +kernel, by decide +kernel⟩, List.mem_of_getElem? (i := 1113) (by decide +kernel), List.mem_of_getElem? (i := 1336) (by decide +kernel), List.mem_of_getElem? (i := 1337) (by decide +kernel)⟩
theorem lw_p47 : lw_okq (⟨"HymnEndingsModel", "period", "(I)I"⟩, 19) := ⟨⟨by decide +kernel, by decide +kernel⟩, List.mem_of_getElem? (i := 1113) (by decide +kernel), List.mem_of_getElem? (i := 1340) (by decide +kernel), List.mem_of_getElem? (i := 1341) (by decide +kernel)⟩
def lw_privs_3 : List (MethodName × Nat) := [(⟨"HymnEndingsModel", "at", "(II)I"⟩, 19), (⟨"HymnEndingsModel", "rankOf", "(II)I"⟩, 19), (⟨"HymnEndingsModel", "orders", "()V"⟩, 19), (⟨"HymnEndingsModel", "isAhead", "(II)Z"⟩, 19), (⟨"HymnEndingsModel", "front", "(II)I"⟩, 19), (⟨"HymnEndingsModel", "left", "(I)I"⟩, 19), (⟨"HymnEndingsModel", "letterOf", "(II)I"⟩, 19), (⟨"HymnEndingsModel", "swaps", "(II)Z"⟩, 19), (⟨"HymnEndingsModel", "areOne", "(II)Z"⟩, 19), (⟨"HymnEndingsModel", "joins", "(II)Z"⟩, 19), (⟨"HymnEndingsModel", "turns", "(I)Z"⟩, 19), (⟨"HymnEndingsModel", "isBack", "(II)Z"⟩, 19), (⟨"HymnEndingsModel", "different", "(II)I"⟩, 19), (⟨"HymnEndingsModel", "likes", "(I)I"⟩, 19), (⟨"HymnEndingsModel", "areAlike", "(II)Z"⟩, 19), (⟨"HymnEndingsModel", "period", "(I)I"⟩, 19)]
theorem lw_r3 : ∀ q ∈ lw_privs_3, lw_okq q := List.forall_mem_cons.mpr ⟨lw_p32, List.forall_mem_cons.mpr ⟨lw_p33, List.forall_mem_cons.mpr ⟨lw_p34, List.forall_mem_cons.mpr ⟨lw_p35, List.forall_mem_cons.mpr ⟨lw_p36, List.forall_mem_cons.mpr ⟨lw_p37, List.forall_mem_cons.mpr ⟨lw_p38, List.forall_mem_cons.mpr ⟨lw_p39, List.forall_mem_cons.mpr ⟨lw_p40, List.forall_mem_cons.mpr ⟨lw_p41, List.forall_mem_cons.mpr ⟨lw_p42, List.forall_mem_cons.mpr ⟨lw_p43, List.forall_mem_cons.mpr ⟨lw_p44, List.forall_mem_cons.mpr ⟨lw_p45, List.forall_mem_cons.mpr ⟨lw_p46, List.forall_mem_cons.mpr ⟨lw_p47, fun _ h => absurd h List.not_mem_nil⟩⟩⟩⟩⟩⟩⟩⟩⟩⟩⟩⟩⟩⟩⟩⟩
theorem lw_p48 : lw_okq (⟨"HymnEndingsModel", "longestOf", "(II)I"⟩, 19) := ⟨⟨by decide +kernel, by decide +kernel⟩, List.mem_of_getElem? (i := 1113) (by decide +kernel), List.mem_of_getElem? (i := 1344) (by decide +kernel), List.mem_of_getElem? (i := 1345) (by decide +kernel)⟩
theorem lw_p49 : lw_okq (⟨"HymnEndingsModel", "common1", "(I)I"⟩, 19) := ⟨⟨by decide +kernel, by decide +kernel⟩, List.mem_of_getElem? (i := 1113) (by decide +kernel), List.mem_of_getElem? (i := 1369) (by decide +kernel), List.mem_of_getElem? (i := 1370) (by decide +kernel)⟩
theorem lw_p50 : lw_okq (⟨"HymnEndingsModel", "commons", "(I)I"⟩, 19) := ⟨⟨by decide +kernel, by decide +kernel⟩, List.mem_of_getElem? (i := 1113) (by decide +kernel), List.mem_of_getElem? (i := 1381) (by decide +kernel), List.mem_of_getElem? (i := 1382) (by decide +kernel)⟩
theorem lw_p51 : lw_okq (⟨"HymnEndingsModel", "finds1", "()I"⟩, 19) := ⟨⟨by decide +kernel, by decide +kernel⟩, List.mem_of_getElem? (i := 1113) (by decide +kernel), List.mem_of_getElem? (i := 1406) (by decide +kernel), List.mem_of_getElem? (i := 1407) (by decide +kernel)⟩
theorem lw_p52 : lw_okq (⟨"HymnEndingsModel", "beginsWith", "(I)Z"⟩, 19) := ⟨⟨by decide +kernel, by decide +kernel⟩, List.mem_of_getElem? (i := 1113) (by decide +kernel), List.mem_of_getElem? (i := 1410) (by decide +kernel), List.mem_of_getElem? (i := 1411) (by decide +kernel)⟩
theorem lw_p53 : lw_okq (⟨"HymnEndingsModel", "aloneAsked", "(IZ)I"⟩, 19) := ⟨⟨by decide +kernel, by decide +kernel⟩, List.mem_of_getElem? (i := 1113) (by decide +kernel), List.mem_of_getElem? (i := 1435) (by decide +kernel), List.mem_of_getElem? (i := 1436) (by decide +kernel)⟩
theorem lw_p54 : lw_okq (⟨"HymnEndingsModel", "aloneOf", "(IZ)I"⟩, 19) := ⟨⟨by decide +kernel, by decide +kernel⟩, List.mem_of_getElem? (i := 1113) (by decide +kernel), List.mem_of_getElem? (i := 1439) (by decide +kernel), List.mem_of_getElem? (i := 1440) (by decide +kernel)⟩
theorem lw_p55 : lw_okq (⟨"HymnEndingsModel", "aloneFrom", "(II)I"⟩, 19) := ⟨⟨by decide +kernel, by decide +kernel⟩, List.mem_of_getElem? (i := 1113) (by decide +kernel), List.mem_of_getElem? (i := 1443) (by decide +kernel), List.mem_of_getElem? (i := 1444) (by decide +kernel)⟩
theorem lw_p56 : lw_okq (⟨"HymnEndingsModel", "parse", "()V"⟩, 19) := ⟨⟨by decide +kernel, by decide +kernel⟩, List.mem_of_getElem? (i := 1113) (by decide +kernel), List.mem_of_getElem? (i := 1459) (by decide +kernel), List.mem_of_getElem? (i := 1460) (by decide +kernel)⟩
theorem lw_p57 : lw_okq (⟨"HymnEndingsModel", "command", "()V"⟩, 19) := ⟨⟨by decide +kernel, by decide +kernel⟩, List.mem_of_getElem? (i := 1113) (by decide +kernel), List.mem_of_getElem? (i := 1463) (by decide +kernel), List.mem_of_getElem? (i := 1464) (by decide +kernel)⟩
theorem lw_p58 : lw_okq (⟨"HymnEndingsModel", "sign", "()I"⟩, 19) := ⟨⟨by decide +kernel, by decide +kernel⟩, List.mem_of_getElem? (i := 1113) (by decide +kernel), List.mem_of_getElem? (i := 1467) (by decide +kernel), List.mem_of_getElem? (i := 1468) (by decide +kernel)⟩
theorem lw_p59 : lw_okq (⟨"HymnEndingsModel", "letters", "(I)I"⟩, 19) := ⟨⟨by decide +kernel, by decide +kernel⟩, List.mem_of_getElem? (i := 1113) (by decide +kernel), List.mem_of_getElem? (i := 1471) (by decide +kernel), List.mem_of_getElem? (i := 1472) (by decide +kernel)⟩
theorem lw_p60 : lw_okq (⟨"HymnEndingsModel", "digit", "()I"⟩, 19) := ⟨⟨by decide +kernel, by decide +kernel⟩, List.mem_of_getElem? (i := 1113) (by decide +kernel), List.mem_of_getElem? (i := 1475) (by decide +kernel), List.mem_of_getElem? (i := 1476) (by decide +kernel)⟩
theorem lw_p61 : lw_okq (⟨"HymnEndingsModel", "does", "(I)Z"⟩, 19) := ⟨⟨by decide +kernel, by decide +kernel⟩, List.mem_of_getElem? (i := 1113) (by decide +kernel), List.mem_of_getElem? (i := 1479) (by decide +kernel), List.mem_of_getElem? (i := 1480) (by decide +kernel)⟩
theorem lw_p62 : lw_okq (⟨"HymnEndingsModel", "addsFrom", "(II)Z"⟩, 19) := ⟨⟨by decide +kernel, by decide +kernel⟩, List.mem_of_getElem? (i := 1113) (by decide +kernel), List.mem_of_getElem? (i := 1483) (by decide +kernel), List.mem_of_getElem? (i := 1484) (by decide +kernel)⟩
theorem lw_p63 : lw_okq (⟨"HymnEndingsModel", "writes", "(I)V"⟩, 19) := ⟨⟨by decide +kernel, by decide +kernel⟩, List.mem_of_getElem? (i := 1113) (by decide +kernel), List.mem_of_getElem? (i := 1495) (by decide +kernel), List.mem_of_getElem? (i := 1496) (by decide +kernel)⟩
def lw_privs_4 : List (MethodName × Nat) := [(⟨"HymnEndingsModel", "longestOf", "(II)I"⟩, 19), (⟨"HymnEndingsModel", "common1", "(I)I"⟩, 19), (⟨"HymnEndingsModel", "commons", "(I)I"⟩, 19), (⟨"HymnEndingsModel", "finds1", "()I"⟩, 19), (⟨"HymnEndingsModel", "beginsWith", "(I)Z"⟩, 19), (⟨"HymnEndingsModel", "aloneAsked", "(IZ)I"⟩, 19), (⟨"HymnEndingsModel", "aloneOf", "(IZ)I"⟩, 19), (⟨"HymnEndingsModel", "aloneFrom", "(II)I"⟩, 19), (⟨"HymnEndingsModel", "parse", "()V"⟩, 19), (⟨"HymnEndingsModel", "command", "()V"⟩, 19), (⟨"HymnEndingsModel", "sign", "()I"⟩, 19), (⟨"HymnEndingsModel", "letters", "(I)I"⟩, 19), (⟨"HymnEndingsModel", "digit", "()I"⟩, 19), (⟨"HymnEndingsModel", "does", "(I)Z"⟩, 19), (⟨"HymnEndingsModel", "addsFrom", "(II)Z"⟩, 19), (⟨"HymnEndingsModel", "writes", "(I)V"⟩, 19)]
theorem lw_r4 : ∀ q ∈ lw_privs_4, lw_okq q := List.forall_mem_cons.mpr ⟨lw_p48, List.forall_mem_cons.mpr ⟨lw_p49, List.forall_mem_cons.mpr ⟨lw_p50, List.forall_mem_cons.mpr ⟨lw_p51, List.forall_mem_cons.mpr ⟨lw_p52, List.forall_mem_cons.mpr ⟨lw_p53, List.forall_mem_cons.mpr ⟨lw_p54, List.forall_mem_cons.mpr ⟨lw_p55, List.forall_mem_cons.mpr ⟨lw_p56, List.forall_mem_cons.mpr ⟨lw_p57, List.forall_mem_cons.mpr ⟨lw_p58, List.forall_mem_cons.mpr ⟨lw_p59, List.forall_mem_cons.mpr ⟨lw_p60, List.forall_mem_cons.mpr ⟨lw_p61, List.forall_mem_cons.mpr ⟨lw_p62, List.forall_mem_cons.mpr ⟨lw_p63, fun _ h => absurd h List.not_mem_nil⟩⟩⟩⟩⟩⟩⟩⟩⟩⟩⟩⟩⟩⟩⟩⟩
theorem lw_p64 : lw_okq (⟨"HymnEndingsModel", "letterMany", "()I"⟩, 19) := ⟨⟨by decide +kernel, by decide +kernel⟩, List.mem_of_getElem? (i := 1113) (by decide +kernel), List.mem_of_getElem? (i := 1511) (by decide +kernel), List.mem_of_getElem? (i := 1512) (by decide +kernel)⟩
theorem lw_p65 : lw_okq (⟨"HymnEndingsModel", "palindromes", "()I"⟩, 19) := ⟨⟨by decide +kernel, by decide +kernel⟩, List.mem_of_getElem? (i := 1113) (by decide +kernel), List.mem_of_getElem? (i := 1523) (by decide +kernel), List.mem_of_getElem? (i := 1524) (by decide +kernel)⟩
def lw_privs_5 : List (MethodName × Nat) := [(⟨"HymnEndingsModel", "letterMany", "()I"⟩, 19), (⟨"HymnEndingsModel", "palindromes", "()I"⟩, 19)]
theorem lw_r5 : ∀ q ∈ lw_privs_5, lw_okq q := List.forall_mem_cons.mpr ⟨lw_p64, List.forall_mem_cons.mpr ⟨lw_p65, fun _ h => absurd h List.not_mem_nil⟩⟩
def lw_privs : List (MethodName × Nat) := lw_privs_1 ++ (lw_privs_2 ++ (lw_privs_3 ++ (lw_privs_4 ++ (lw_privs_5))))
def lw_tbl : List Cond := k2_sels lw_privs ++ tables_1
theorem lw_privs_ok : ∀ q ∈ lw_privs, lw_okq q := by
  show ∀ q ∈ lw_privs_1 ++ (lw_privs_2 ++ (lw_privs_3 ++ (lw_privs_4 ++ (lw_privs_5)))), lw_okq q
  exact List.forall_mem_append.mpr ⟨lw_r1, List.forall_mem_append.mpr ⟨lw_r2, List.forall_mem_append.mpr ⟨lw_r3, List.forall_mem_append.mpr ⟨lw_r4, lw_r5⟩⟩⟩⟩
/-- the streams that the claim lets the run draw from -/
abbrev lw_cs : List Choice := [Jvm.Choice.named "NaN.bits"]
theorem lw_bits : nanBits ∈ lw_cs := by first | decide | exact List.mem_cons_self | simp [lw_cs, nanBits]
-- ===== end of PART A; then your names; then what follows =====
end
section
/-! ===== BEGIN words of one list among another's, by their places ===== -/
theorem goodIn_r {big : List Cond} (ws : List Cond) (ps : List Nat) (hp : ws = ps.filterMap (fun i => big[i]?)) (h : ws.all goodWord = true) : GoodIn big ws := by
  intro w hw
  have h1 := List.all_eq_true.mp h w hw
  rw [hp] at hw
  obtain ⟨i, -, hi⟩ := List.mem_filterMap.mp hw
  have hm : w ∈ big := by first | exact List.mem_of_getElem? hi | exact List.getElem?_mem hi
  exact ⟨hm, good_of_word h1⟩
theorem goodIn_app {big a b : List Cond} (ha : GoodIn big a) (hb : GoodIn big b) : GoodIn big (a ++ b) := fun w h => (List.mem_append.mp h).elim (ha w) (hb w)
theorem goodIn_ca {big a b : List Cond} {c : Cond} (ha : GoodIn big (c :: a)) (hb : GoodIn big b) : GoodIn big (c :: (a ++ b)) := fun w h => (List.mem_cons.mp h).elim (fun e => ha w (List.mem_cons.mpr (Or.inl e))) (fun h => (List.mem_append.mp h).elim (fun h => ha w (List.mem_cons.mpr (Or.inr h))) (hb w))
theorem goodIn_sub {big ws : List Cond} (hm : ∀ w ∈ ws, w ∈ big) (h : ws.all goodWord = true) : GoodIn big ws := fun w hw => ⟨hm w hw, good_of_word (List.all_eq_true.mp h w hw)⟩
/-! ===== END ===== -/

/-! ===== BEGIN exceptions that leave a method, and their catching by the caller (launches without stack traces) ===== -/
section VXA
/-! The laws vx_back, vx_callV, vx_callS, vx_callSW, vx_throw0, vx_throwS follow proofs of the library, with one case more: JvmDerived/Free/Laws.lean (Back.of_free), Shelf42/LK1.lean (callV, callS), Shelf/KitTraced.lean (throwNew0V, throwNewS). -/
/-- where a method has thrown q: the class by its name, the cell, what was written, the world -/
def vx_T (XC : String → State → State → Prop) (st : State) (q : Addr) (t : State) (mc ms : Nat) (free : Addr → Prop) : Prop :=
  ∃ (E : String) (ce : Cell) (L : List Loc), XC E st t ∧ t.heap[q]? = some ce ∧ ce.vm = .none ∧ st.vm.findClass E = some ce.cls ∧ st.WarmedH t.vm ∧ st.sameButNew ({ t with vm := st.vm } : State) L mc ms ∧ ∀ z ∈ L, free z.base
def vx_Q (Qc : Array Value → State → Outcome → State → Prop) (XC : String → State → State → Prop) (mc ms : Nat) (free : Addr → Prop) : Array Value → State → Outcome → State → Prop := fun a st o t =>
  (Qc a st o t ∧ ∃ L, FrameEnd st o t L mc ms ∧ ∀ q ∈ L, free q.base) ∨ ∃ q, o = .threw q ∧ vx_T XC st q t mc ms free
/-- a callee that returns or throws -/
def vx_Met (l : Launch) (y : MethodName) (ws : List Cond) (rm : Room) (Pc : Array Value → State → Prop) (Qc : Array Value → State → Outcome → State → Prop) (XC : String → State → State → Prop) (mc ms : Nat) (free : Addr → Prop) : Prop :=
  MetFree l y (headSpec ws rm) Pc (fun _ _ _ _ _ => True) (vx_Q Qc XC mc ms free)
def vx_Post (XC : String → State → State → Prop) (mc ms : Nat) (free : Addr → Prop) : Pt → Array Value → Addr → Pt → Prop := fun A a q B =>
  ∃ (g : JFrame) (mk : MethodId) (t : State) (L : List Loc) (E : String) (ce : Cell), B.U.heap = t.heap ∧ B.U.vm = t.vm ∧ XC E (A.U.calling g mk a) t ∧ t.heap[q]? = some ce ∧ ce.vm = .none ∧ A.U.vm.findClass E = some ce.cls ∧ B.locs = A.locs ++ L ∧ (∀ z ∈ L, free z.base) ∧ B.cells = A.cells + mc ∧ B.slots = A.slots + ms
def vx_Back (l : Launch) (R : Room) (p : Program) (e : Env) (below : List Frame) (s : State) (sargs : Array Value) (y : MethodName) (len W9 : Nat)
    (Pre : Pt → Array Value → Prop) (Post : Pt → Array Value → Option Value → Pt → Prop) (PostX : Pt → Array Value → Addr → Pt → Prop) : Prop :=
  ∀ (m : MethodId) (meth : Method) (c : Code) (A : Pt) (g : JFrame) (ig : Instr) (mk : MethodId) (a : Array Value),
    Stand p l e R s m sargs below meth c A.U A.locs A.cells A.slots → g.method = m → g.locals.size = c.maxLocals → decode c.code g.pc = .ok (ig, len) →
    2 * g.monitorRoom + (g.stack.map fun v => v.category).sum ≤ W9 → A.U.methodNamed? y = some mk → Pre A a →
    (∃ (v : Option Value) (B : Pt), Stand p l e R s m sargs below meth c B.U B.locs B.cells B.slots ∧ Post A a v B ∧
      Steps p.tables e below (doInvoke e (A.U.setTop g) [] mk a).1 (B.U.setTop { g with pc := g.pc + len, stack := v.toList ++ g.stack })) ∨
    (∃ (q : Addr) (B : Pt), Stand p l e R s m sargs below meth c B.U B.locs B.cells B.slots ∧ PostX A a q B ∧
      Steps p.tables e below (doInvoke e (A.U.setTop g) [] mk a).1 ((B.U.setTop g).pushFrame (.throwing q)))
section Payer
variable {l : Launch} {R : Room} {p : Program} {e : Env} {below : List Frame} {s : State} {sargs : Array Value} {y : MethodName} {len W9 : Nat}
theorem vx_back {ws : List Cond} {rm : Room} {Pc : Array Value → State → Prop} {Qc : Array Value → State → Outcome → State → Prop} {XC : String → State → State → Prop} {mc ms : Nat} {free : Addr → Prop} {bytes : ByteArray} {maxL : Nat} {ret : Option FieldType}
    (hM : vx_Met l y ws rm Pc Qc XC mc ms free) (hblind : FrameBlind Pc) (hrc : rm.cells = mc) (hrs : rm.slots = ms)
    (hframes : rm.frames + 1 ≤ R.frames) (hlocals : W9 + (maxL + 11) + rm.locals ≤ R.locals)
    (hws : ∀ w ∈ ws, ∀ a' U, s.WarmedH U.vm → w.before a' U = true) (hcode : Cond.code y bytes maxL ret ∈ ws) (hinit : ∀ a' U, s.WarmedH U.vm → (Cond.initialized y.cls).before a' U = true) :
    vx_Back l R p e below s sargs y len W9 (PreOf R mc ms Pc) (PostOf Qc mc ms free) (vx_Post XC mc ms free) := by
  intro m meth c A g ig mk a X hg hsize hdg hW hn hp
  have h1 : (headSpec ws rm).pre.before a A.U = true := atoms_intro fun w hw => hws w hw _ _ X.warmed
  have h2 : (Cond.code y bytes maxL ret).before a A.U = true := hws _ hcode _ _ X.warmed
  have h3 : (Cond.initialized y.cls).before a A.U = true := hinit _ _ X.warmed
  have h4 : A.cells + (headSpec ws rm).room.cells ≤ R.cells := by rw [show (headSpec ws rm).room.cells = mc from hrc]; exact hp.1
  have h5 : A.slots + (headSpec ws rm).room.slots ≤ R.slots := by rw [show (headSpec ws rm).room.slots = ms from hrs]; exact hp.2.1
  have hPc : Pc a (A.U.calling g mk a) := hblind _ _ _ _ hp.2.2
  obtain ⟨U, Ls, c0, s0⟩ := A
  dsimp only [Pt.U, Pt.locs, Pt.cells, Pt.slots] at h1 h2 h3 h4 h5 X hn hPc ⊢
  obtain ⟨methY, cY, hmY, hcY, -, hlY, -, -, -, -⟩ := Cond.code_spec hn h2
  obtain ⟨kY, hkY, -⟩ := className_of_methodNamed hn
  have hinitY : kY.init = .initialized := Cond.initialized_spec (findClass_of_methodNamed hn) hkY h3
  have h : At U g.method c below := by rw [hg]; exact X.here
  have hlocals9 : W9 + (maxL + 11) + (headSpec ws rm).room.locals ≤ R.locals := hlocals
  have happ : (headSpec ws rm).appliesLoose y e.platform (U.calling g mk a) = true :=
    Spec.appliesLoose_calling (g := g) h hdg hn hkY hinitY
      (X.room_calling (g := g) (R' := (headSpec ws rm).room) hsize hmY hcY hframes (by rw [hlY]; omega) h4 h5) h1
  obtain ⟨mid, hmid⟩ := h.above
  have hfr : (U.setTop g).frames = (.java g :: mid) ++ below := by rw [State.frames_setTop' g h.top, hmid]; rfl
  obtain ⟨o, s₂, hsteps, -, hend, hq⟩ := Steps.callFree hM p X.admits X.cas X.clock (acts := []) hfr happ hPc trivial
  have hq' : vx_Q Qc XC mc ms free a (U.calling g mk a) o s₂ := hq
  rw [State.frames_setTop' g h.top] at hend
  obtain ⟨g₀, hg0⟩ := Option.isSome_iff_exists.mp h.top
  obtain ⟨r, hr⟩ := State.topJava?_eq_some.mp hg0
  have hr' : (({ U with heap := s₂.heap, slotsUsed := s₂.slotsUsed } : State).setVm s₂.vm).frames = .java g₀ :: r := hr
  rcases hq' with ⟨hqc, L, hfe, hL⟩ | ⟨q, rfl, E, ce, L, hx, hce, hcv, hcl, hW₂, hsm, hL⟩
  · obtain ⟨⟨v, rfl⟩, hW₂, e2, q2, q3, q4, q5, q6⟩ := id hfe
    have e3 : s₂ = ({ (U.calling g mk a).setFrames s₂.frames with heap := s₂.heap, slotsUsed := s₂.slotsUsed } : State).setVm s₂.vm := by
      have : s₂ = ({ s₂ with vm := (U.calling g mk a).vm } : State).setVm s₂.vm := rfl
      rw [e2] at this
      exact this
    obtain ⟨c₂, i₂, len₂, hc₂, hd₂, hf₂⟩ := hend
    have hW' : U.WarmedH s₂.vm := hW₂
    have hcc : c₂ = c := by
      have h1 : s₂.code? g.method = U.code? g.method := by
        rw [State.code?_eq, State.code?_eq, hW'.alike.method?]
      exact Option.some.inj (hc₂.symm.trans (h1.trans h.code))
    subst hcc
    have hlen : len₂ = len := by rw [hdg] at hd₂; cases hd₂; rfl
    subst hlen
    have hs₂ : s₂ = (({ U with heap := s₂.heap, slotsUsed := s₂.slotsUsed } : State).setVm s₂.vm).setTop { g with pc := g.pc + len₂, stack := v.toList ++ g.stack } := by
      refine e3.trans ?_
      rw [hf₂, State.calling_eq h.top, State.setFrames_setFrames, State.setTop_of_frames _ hr', hr]
      rfl
    have hsame : U.sameButNew ({ U with heap := s₂.heap, slotsUsed := s₂.slotsUsed } : State) L mc ms := by
      refine ⟨?_, q2, q3, q4, q5, q6⟩
      obtain ⟨t, ht, -⟩ := State.frames_cons hr
      show ({ U with heap := s₂.heap, slotsUsed := s₂.slotsUsed } : State) = { U.setFrames U.frames with heap := s₂.heap, slotsUsed := s₂.slotsUsed }
      rw [State.setFrames_self ht]
    subst hg
    refine Or.inl ⟨v, ⟨(({ U with heap := s₂.heap, slotsUsed := s₂.slotsUsed } : State).setVm s₂.vm), Ls ++ L, c0 + mc, s0 + ms⟩,
      ⟨X.admits, X.cas, X.clock, X.frames, X.room, X.hears, X.method, X.code, (X.here.setHeapUsed s₂.heap s₂.slotsUsed).setVm hW'.alike, X.tail, State.WarmedH.trans X.warmed hW', X.limits, X.bytes, X.same.trans (hsame.setVm s.vm)⟩,
      ⟨g, mk, s₂, L, rfl, rfl, hqc, rfl, hL, rfl, rfl⟩, ?_⟩
    show Steps p.tables e below _ ((({ U with heap := s₂.heap, slotsUsed := s₂.slotsUsed } : State).setVm s₂.vm).setTop { g with pc := g.pc + len₂, stack := v.toList ++ g.stack })
    rw [← hs₂]
    exact hsteps
  · obtain ⟨e2, q2, q3, q4, q5, q6⟩ := id hsm
    have e3 : s₂ = ({ (U.calling g mk a).setFrames s₂.frames with heap := s₂.heap, slotsUsed := s₂.slotsUsed } : State).setVm s₂.vm := by
      have : s₂ = ({ s₂ with vm := (U.calling g mk a).vm } : State).setVm s₂.vm := rfl
      rw [e2] at this
      exact this
    have hf₂ : s₂.frames = .throwing q :: .java g :: U.frames.tail := hend
    have hW' : U.WarmedH s₂.vm := hW₂
    have hs₂ : s₂ = ((({ U with heap := s₂.heap, slotsUsed := s₂.slotsUsed } : State).setVm s₂.vm).setTop g).pushFrame (.throwing q) := by
      refine e3.trans ?_
      rw [hf₂, State.calling_eq h.top, State.setFrames_setFrames, State.pushFrame, State.frames_setTop _ hr', State.setTop_of_frames _ hr', State.setFrames_setFrames, hr]
      rfl
    have hsame : U.sameButNew ({ U with heap := s₂.heap, slotsUsed := s₂.slotsUsed } : State) L mc ms := by
      refine ⟨?_, q2, q3, q4, q5, q6⟩
      obtain ⟨t, ht, -⟩ := State.frames_cons hr
      show ({ U with heap := s₂.heap, slotsUsed := s₂.slotsUsed } : State) = { U.setFrames U.frames with heap := s₂.heap, slotsUsed := s₂.slotsUsed }
      rw [State.setFrames_self ht]
    subst hg
    refine Or.inr ⟨q, ⟨(({ U with heap := s₂.heap, slotsUsed := s₂.slotsUsed } : State).setVm s₂.vm), Ls ++ L, c0 + mc, s0 + ms⟩,
      ⟨X.admits, X.cas, X.clock, X.frames, X.room, X.hears, X.method, X.code, (X.here.setHeapUsed s₂.heap s₂.slotsUsed).setVm hW'.alike, X.tail, State.WarmedH.trans X.warmed hW', X.limits, X.bytes, X.same.trans (hsame.setVm s.vm)⟩,
      ⟨g, mk, s₂, L, E, ce, rfl, rfl, hx, hce, hcv, hcl, rfl, hL, rfl, rfl⟩, ?_⟩
    show Steps p.tables e below _ (((({ U with heap := s₂.heap, slotsUsed := s₂.slotsUsed } : State).setVm s₂.vm).setTop g).pushFrame (.throwing q))
    rw [← hs₂]
    exact hsteps
end Payer
section Calls
variable {p : Program} {l : Launch} {e : Env} {R : Room} {s : State} {m : MethodId} {args : Array Value} {below : List Frame} {meth : Method} {c : Code} {T : State} {locs : List Loc} {cells slots : Nat}
theorem vx_callV (X : Stand p l e R s m args below meth c T locs cells slots) (hexec : p.tables.exec = Jvm.exec) {own C : String} {index : Nat} {y : MethodName} {bytes : ByteArray} {maxL : Nat} {ret : Option FieldType}
    (hown : s.vm.findClass own = some m.cls) (hlink : (Cond.methodLink own index y).before args s = true) (hinst : (Cond.instanceMethod y).before args s = true) (hsel : (Cond.selects C y y).before args s = true)
    (hcode : (Cond.code y bytes maxL ret).before args s = true) (hy : y.cls ≠ "java/lang/invoke/MethodHandle" ∧ y.cls ≠ "java/lang/invoke/VarHandle")
    {W9 : Nat} {Pre : Pt → Array Value → Prop} {Post : Pt → Array Value → Option Value → Pt → Prop} {PostX : Pt → Array Value → Addr → Pt → Prop} (hK : vx_Back l R p e below s args y 3 W9 Pre Post PostX)
    {b : Addr} {cellB : Cell} (hcell : T.heap[b]? = some cellB) (hobj : cellB.vm.isStatics = false) (hcls : s.vm.findClass C = some cellB.cls)
    {g : JFrame} (hg : g.method = m) (hsize : g.locals.size = c.maxLocals) {argsL rest : List Value} (hlen : ∀ sig, parseMethodDescriptor y.desc = some sig → argsL.length = sig.parameters.length)
    (hstack : g.stack = argsL.reverse ++ .ref b :: rest) (hW : 2 * g.monitorRoom + (rest.map fun v => v.category).sum ≤ W9) (hdg : decode c.code g.pc = .ok (.invokevirtual index, 3))
    (hpre : ∀ vm₁, s.WarmedH vm₁ → Pre ⟨T.setVm vm₁, locs, cells, slots⟩ (Value.ref b :: argsL).toArray) :
    (∃ (v : Option Value) (vm₁ : Vm) (B : Pt), s.WarmedH vm₁ ∧ Stand p l e R s m args below meth c B.U B.locs B.cells B.slots ∧ Post ⟨T.setVm vm₁, locs, cells, slots⟩ (Value.ref b :: argsL).toArray v B ∧
      ∀ target, Steps p.tables e below (B.U.setTop { g with pc := g.pc + 3, stack := v.toList ++ rest }) target → Steps p.tables e below (T.setTop g) target) ∨
    (∃ (q : Addr) (vm₁ : Vm) (B : Pt), s.WarmedH vm₁ ∧ Stand p l e R s m args below meth c B.U B.locs B.cells B.slots ∧ PostX ⟨T.setVm vm₁, locs, cells, slots⟩ (Value.ref b :: argsL).toArray q B ∧
      Steps p.tables e below (T.setTop g) ((B.U.setTop { g with stack := rest }).pushFrame (.throwing q))) := by
  obtain ⟨mk, methM, hnamed, hmethM, hstM, habM⟩ := Cond.instanceMethod_spec hinst
  obtain ⟨methM', cM, hmethM', -, -, -, -, -, -, hsigM⟩ := Cond.code_spec hnamed hcode
  cases hmethM.symm.trans hmethM'
  obtain ⟨c2, r2, m2, q1, q2, q3, q4, kP, hkP, hkPi⟩ := Cond.selects_spec hsel
  cases hcls.symm.trans q1
  cases (State.methodFound?_of_named hnamed hy).symm.trans q2
  cases hnamed.symm.trans q3
  have hselP : selectMethod e.platform s.vm cellB.cls mk = .method mk := by rw [Launch.admits_selectMethod X.admits]; exact q4
  obtain ⟨vm₁, X₁, hstep₁⟩ := X.invokevirtual hexec hown hlink hnamed hmethM hstM hkP hkPi hy (a := b) (cell := cellB) hcell
    (fun z h => by rw [h] at hobj; cases hobj) hselP hmethM habM hkP hkPi (g := g) hg (argsL := argsL) (rest := rest) (hlen _ hsigM) hstack hdg
  rcases hK m meth c ⟨T.setVm vm₁, locs, cells, slots⟩ { g with stack := rest } (.invokevirtual index) mk (Value.ref b :: argsL).toArray X₁ hg hsize hdg hW (X₁.named hnamed) (hpre vm₁ X₁.warmed) with ⟨v, B, X', hpost, hsteps⟩ | ⟨q, B, X', hpost, hsteps⟩
  · exact Or.inl ⟨v, vm₁, B, X₁.warmed, X', hpost, fun target h => hstep₁ _ fun acts => by rw [doInvoke_state]; exact hsteps.trans h⟩
  · exact Or.inr ⟨q, vm₁, B, X₁.warmed, X', hpost, hstep₁ _ fun acts => by rw [doInvoke_state]; exact hsteps⟩
theorem vx_callS (X : Stand p l e R s m args below meth c T locs cells slots) (hexec : p.tables.exec = Jvm.exec) {own : String} {index : Nat} {y : MethodName} {bytes : ByteArray} {maxL : Nat} {ret : Option FieldType}
    (hown : s.vm.findClass own = some m.cls) (hlink : (Cond.methodLink own index y).before args s = true) (hstat : (Cond.static y).before args s = true) (hinit : (Cond.initialized y.cls).before args s = true)
    (hcode : (Cond.code y bytes maxL ret).before args s = true) (hy : y.cls ≠ "java/lang/invoke/MethodHandle" ∧ y.cls ≠ "java/lang/invoke/VarHandle")
    {W9 : Nat} {Pre : Pt → Array Value → Prop} {Post : Pt → Array Value → Option Value → Pt → Prop} {PostX : Pt → Array Value → Addr → Pt → Prop} (hK : vx_Back l R p e below s args y 3 W9 Pre Post PostX)
    {g : JFrame} (hg : g.method = m) (hsize : g.locals.size = c.maxLocals) {argsL rest : List Value} (hlen : ∀ sig, parseMethodDescriptor y.desc = some sig → argsL.length = sig.parameters.length)
    (hstack : g.stack = argsL.reverse ++ rest) (hW : 2 * g.monitorRoom + (rest.map fun v => v.category).sum ≤ W9) (hdg : decode c.code g.pc = .ok (.invokestatic index, 3))
    (hpre : ∀ vm₁, s.WarmedH vm₁ → Pre ⟨T.setVm vm₁, locs, cells, slots⟩ argsL.toArray) :
    (∃ (v : Option Value) (vm₁ : Vm) (B : Pt), s.WarmedH vm₁ ∧ Stand p l e R s m args below meth c B.U B.locs B.cells B.slots ∧ Post ⟨T.setVm vm₁, locs, cells, slots⟩ argsL.toArray v B ∧
      ∀ target, Steps p.tables e below (B.U.setTop { g with pc := g.pc + 3, stack := v.toList ++ rest }) target → Steps p.tables e below (T.setTop g) target) ∨
    (∃ (q : Addr) (vm₁ : Vm) (B : Pt), s.WarmedH vm₁ ∧ Stand p l e R s m args below meth c B.U B.locs B.cells B.slots ∧ PostX ⟨T.setVm vm₁, locs, cells, slots⟩ argsL.toArray q B ∧
      Steps p.tables e below (T.setTop g) ((B.U.setTop { g with stack := rest }).pushFrame (.throwing q))) := by
  obtain ⟨mk, hnamed⟩ := Cond.code_named hcode
  obtain ⟨methM, cM, hmethM, -, -, -, -, -, -, hsigM⟩ := Cond.code_spec hnamed hcode
  have hstatic : methM.isStatic = true := Cond.static_spec hnamed hmethM hstat
  obtain ⟨kP, hkP, -⟩ := className_of_methodNamed hnamed
  have hinitP : kP.init = .initialized := Cond.initialized_spec (findClass_of_methodNamed hnamed) hkP hinit
  obtain ⟨vm₁, X₁, hstep₁⟩ := X.invokestatic hexec hown hlink hnamed hmethM hstatic hkP hinitP hy (g := g) hg (argsL := argsL) (rest := rest) (hlen _ hsigM) hstack hdg
  rcases hK m meth c ⟨T.setVm vm₁, locs, cells, slots⟩ { g with stack := rest } (.invokestatic index) mk argsL.toArray X₁ hg hsize hdg hW (X₁.named hnamed) (hpre vm₁ X₁.warmed) with ⟨v, B, X', hpost, hsteps⟩ | ⟨q, B, X', hpost, hsteps⟩
  · exact Or.inl ⟨v, vm₁, B, X₁.warmed, X', hpost, fun target h => hstep₁ _ fun acts => by rw [doInvoke_state]; exact hsteps.trans h⟩
  · exact Or.inr ⟨q, vm₁, B, X₁.warmed, X', hpost, hstep₁ _ fun acts => by rw [doInvoke_state]; exact hsteps⟩
end Calls
theorem vx_cls {s : State} {T : State} {vm₁ : Vm} {E : String} {k : ClassId} (hW : s.WarmedH vm₁) (h : (T.setVm vm₁).vm.findClass E = some k) : s.vm.findClass E = some k := by
  have h1 : vm₁.findClass E = some k := h
  rw [hW.alike.findClass] at h1
  exact h1
/-- the method's frame g, with q thrown over it -/
def vx_W (p : Program) (l : Launch) (e : Env) (R : Room) (s : State) (m : MethodId) (args : Array Value) (below : List Frame) (meth : Method) (c : Code) (H : Heap) (locs : List Loc) (cells slots : Nat) (Q : State → Prop) (g : JFrame) (q : Addr) : Prop :=
  ∀ T : State, T.heap = H → Stand p l e R s m args below meth c T locs cells slots → ∃ t, Steps p.tables e below ((T.setTop g).pushFrame (.throwing q)) t ∧ Q t
def vx_Run (p : Program) (l : Launch) (e : Env) (R : Room) (s : State) (m : MethodId) (args : Array Value) (below : List Frame) (meth : Method) (c : Code) (H : Heap) (locs : List Loc) (cells slots mc ms : Nat) (g : JFrame) (rest : List Value) (Qa : State → Outcome → State → Prop) (XC : String → State → State → Prop) (free : Addr → Prop) : Prop :=
  ∀ T : State, T.heap = H → Stand p l e R s m args below meth c T locs cells slots →
    (∃ (v : Option Value) (st₀ t T' : State) (L : List Loc), st₀.heap = H ∧ Stand p l e R s m args below meth c T' (locs ++ L) (cells + mc) (slots + ms) ∧ (∀ q ∈ L, free q.base) ∧ T'.heap = t.heap ∧ T'.vm = t.vm ∧ Qa st₀ (.returned v) t ∧
      Goes p e below T g T' { g with pc := g.pc + 3, stack := v.toList ++ rest }) ∨
    (∃ (q : Addr) (st₀ t T' : State) (L : List Loc) (E : String) (ce : Cell), st₀.heap = H ∧ Stand p l e R s m args below meth c T' (locs ++ L) (cells + mc) (slots + ms) ∧ (∀ z ∈ L, free z.base) ∧ T'.heap = t.heap ∧ T'.vm = t.vm ∧ XC E st₀ t ∧ t.heap[q]? = some ce ∧ ce.vm = .none ∧ s.vm.findClass E = some ce.cls ∧
      Steps p.tables e below (T.setTop g) ((T'.setTop { g with stack := rest }).pushFrame (.throwing q)))
def vx_X {S : Type} (px : S → Prop) (B : String → S → State → Prop) (A : Nat → Prop) : String → State → State → Prop := fun E st t => ∃ u : S, px u ∧ B E u t ∧ va_F A st t
section Runs
variable {p : Program} {l : Launch} {e : Env} {R : Room} {s : State} {m : MethodId} {args : Array Value} {below : List Frame} {meth : Method} {c : Code} {H : Heap} {locs : List Loc} {cells slots : Nat}
variable {y : MethodName} {bytes cc : ByteArray} {maxL nL mc ms n index : Nat} {ret : Option FieldType} {ws : List Cond} {rm : Room} {Pc : Array Value → State → Prop} {Qc : Array Value → State → Outcome → State → Prop} {XC : String → State → State → Prop} {free : Addr → Prop} {Ts : List Cond} {own C : String} {b : Addr} {As rest : List Value} {g : JFrame}
theorem vx_callBack (cb : CallB R s args own index y bytes maxL ret ws rm mc ms n) (hM : vx_Met l y ws rm Pc Qc XC mc ms free) (hbl : FrameBlind Pc) : vx_Back l R p e below s args y 3 8 (PreOf R mc ms Pc) (PostOf Qc mc ms free) (vx_Post XC mc ms free) := by
  obtain ⟨hrc, hrs, hfr, hlo, hws, hcw, -, hini, -⟩ := cb
  exact vx_back (bytes := bytes) (maxL := maxL) (ret := ret) hM hbl hrc hrs hfr hlo hws hcw (fun a' U hW => word_at hW (Or.inl (by first | rfl | simp [Cond.onTables, Cond.keeps, Cond.steady])) hini)
theorem vx_runV (S : CallFix p m c cc nL s args Ts own) (hM : vx_Met l y ws rm Pc Qc XC mc ms free) (cw : CallW R s args own C index y bytes maxL ret ws rm mc ms n) (hp : PreV s H C b Pc As)
    (hg : g.method = m) (hn : As.length = n) (hsize : g.locals.size = nL) (hstack : g.stack = As.reverse ++ .ref b :: rest) (hW : 2 * g.monitorRoom + (rest.map fun v => v.category).sum ≤ 8) (hdg : decode cc g.pc = .ok (.invokevirtual index, 3)) (hf : cells + mc ≤ R.cells ∧ slots + ms ≤ R.slots) :
    vx_Run p l e R s m args below meth c H locs cells slots mc ms g rest (Qc (Value.ref b :: As).toArray) XC free := by
  have hK : vx_Back l R p e below s args y 3 8 (PreOf R mc ms Pc) (PostOf Qc mc ms free) (vx_Post XC mc ms free) := vx_callBack cw.1 hM hp.1
  obtain ⟨⟨-, -, -, -, -, -, hcode, -, hy, hlen, hl⟩, hin, hse⟩ := cw
  obtain ⟨hx, hb, hml, ho, -⟩ := S
  obtain ⟨-, ⟨cellB, hcB, hoB, hclB⟩, hPc⟩ := hp
  intro T hT X
  rcases vx_callV X hx (C := C) (bytes := bytes) (maxL := maxL) (ret := ret) ho hl hin hse hcode hy hK (by rw [hT]; exact hcB) hoB hclB hg (hsize.trans hml.symm) (argsL := As) (rest := rest) (fun sig h => hn.trans (hlen sig h)) hstack hW (by rw [hb]; exact hdg)
    (fun vm₁ hW₁ => ⟨hf.1, hf.2, hPc (T.setVm vm₁) hT hW₁⟩) with ⟨v, vm₁, ⟨U', l2, c2, s2⟩, hW₁, X', ⟨g', mk, t, L, e1, e2, hq, h1, hL, h2, h3⟩, st⟩ | ⟨q, vm₁, ⟨U', l2, c2, s2⟩, hW₁, X', ⟨g', mk, t, L, E, ce, e1, e2, hq, hce, hcv, hcl, h1, hL, h2, h3⟩, st⟩
  · dsimp only [Pt.U, Pt.locs, Pt.cells, Pt.slots] at X' e1 e2 h1 h2 h3 st
    subst h1; subst h2; subst h3
    exact Or.inl ⟨v, (T.setVm vm₁).calling g' mk (Value.ref b :: As).toArray, t, U', L, hT, X', hL, e1, e2, hq, st⟩
  · dsimp only [Pt.U, Pt.locs, Pt.cells, Pt.slots] at X' e1 e2 h1 h2 h3 st hcl
    subst h1; subst h2; subst h3
    exact Or.inr ⟨q, (T.setVm vm₁).calling g' mk (Value.ref b :: As).toArray, t, U', L, E, ce, hT, X', hL, e1, e2, hq, hce, hcv, vx_cls hW₁ hcl, st⟩
theorem vx_runS (S : CallFix p m c cc nL s args Ts own) (hM : vx_Met l y ws rm Pc Qc XC mc ms free) (cw : CallB R s args own index y bytes maxL ret ws rm mc ms n ∧ (Cond.static y).before args s = true) (hp : PreS s H Pc As)
    (hg : g.method = m) (hn : As.length = n) (hsize : g.locals.size = nL) (hstack : g.stack = As.reverse ++ rest) (hW : 2 * g.monitorRoom + (rest.map fun v => v.category).sum ≤ 8) (hdg : decode cc g.pc = .ok (.invokestatic index, 3)) (hf : cells + mc ≤ R.cells ∧ slots + ms ≤ R.slots) :
    vx_Run p l e R s m args below meth c H locs cells slots mc ms g rest (Qc As.toArray) XC free := by
  have hK : vx_Back l R p e below s args y 3 8 (PreOf R mc ms Pc) (PostOf Qc mc ms free) (vx_Post XC mc ms free) := vx_callBack cw.1 hM hp.1
  obtain ⟨⟨-, -, -, -, -, -, hcode, hini, hy, hlen, hl⟩, hstt⟩ := cw
  obtain ⟨hx, hb, hml, ho, -⟩ := S
  intro T hT X
  rcases vx_callS X hx (bytes := bytes) (maxL := maxL) (ret := ret) ho hl hstt hini hcode hy hK hg (hsize.trans hml.symm) (argsL := As) (rest := rest) (fun sig h => hn.trans (hlen sig h)) hstack hW (by rw [hb]; exact hdg)
    (fun vm₁ hW₁ => ⟨hf.1, hf.2, hp.2 (T.setVm vm₁) hT hW₁⟩) with ⟨v, vm₁, ⟨U', l2, c2, s2⟩, hW₁, X', ⟨g', mk, t, L, e1, e2, hq, h1, hL, h2, h3⟩, st⟩ | ⟨q, vm₁, ⟨U', l2, c2, s2⟩, hW₁, X', ⟨g', mk, t, L, E, ce, e1, e2, hq, hce, hcv, hcl, h1, hL, h2, h3⟩, st⟩
  · dsimp only [Pt.U, Pt.locs, Pt.cells, Pt.slots] at X' e1 e2 h1 h2 h3 st
    subst h1; subst h2; subst h3
    exact Or.inl ⟨v, (T.setVm vm₁).calling g' mk As.toArray, t, U', L, hT, X', hL, e1, e2, hq, st⟩
  · dsimp only [Pt.U, Pt.locs, Pt.cells, Pt.slots] at X' e1 e2 h1 h2 h3 st hcl
    subst h1; subst h2; subst h3
    exact Or.inr ⟨q, (T.setVm vm₁).calling g' mk As.toArray, t, U', L, E, ce, hT, X', hL, e1, e2, hq, hce, hcv, vx_cls hW₁ hcl, st⟩
end Runs
section Rows
variable {p : Program} {l : Launch} {e : Env} {R : Room} {s : State} {m : MethodId} {args : Array Value} {below : List Frame} {meth : Method} {c : Code} {H : Heap} {locs : List Loc} {cells slots : Nat} {Q : State → Prop}
variable {mc ms : Nat} {free : Addr → Prop} {A0 A1 : Nat → Prop} {H0 : Heap} {a : Array Value} {pc : Nat} {ls : Array Slot} {st0 rest : List Value}
theorem vx_keep {st₀ t T' : State} {L : List Loc} (h0 : st₀.heap = H) (e1 : T'.heap = t.heap) (hS : va_S A0 H0 H locs) (hA : ∀ q, q < H.size → A1 q → A0 q) (hf : ∀ q, free q → A0 q) (hL : ∀ q ∈ L, free q.base) (hF : va_F A1 st₀ t) :
    H.size ≤ T'.heap.size ∧ (∀ q : Nat, q < H.size → ¬ A1 q → T'.heap[q]? = H[q]?) ∧ va_S A0 H0 T'.heap (locs ++ L) := by
  obtain ⟨hz, hk⟩ := hF
  rw [h0] at hz hk
  exact ⟨by rw [e1]; exact hz, fun q h1 h2 => by rw [e1]; exact hk q h1 h2,
    ⟨Nat.le_trans hS.1 (by rw [e1]; exact hz), fun q h1 h2 => by rw [e1, hk q (Nat.lt_of_lt_of_le h1 hS.1) (fun z => h2 (hA q (Nat.lt_of_lt_of_le h1 hS.1) z))]; exact hS.2.1 q h1 h2, fun q hq => by
      rcases List.mem_append.mp hq with h | h
      · exact hS.2.2 q h
      · exact hf _ (hL q h)⟩⟩
theorem vx_calli {S SX : Type} {post : Int32 → S → Prop} {px : SX → Prop} {B : S → State → Prop} {BX : String → SX → State → Prop} {AX : Nat → Prop} (hr : vx_Run p l e R s m args below meth c H locs cells slots mc ms (F0 m pc ls st0) rest (va_Qi post B A1 a) (vx_X px BX AX) free) (hS : va_S A0 H0 H locs) (hA : ∀ q, q < H.size → A1 q → A0 q) (hf : ∀ q, free q → A0 q) (hAX : ∀ q, q < H.size → AX q → A0 q)
    (kx : ∀ (E : String) (ce : Cell) (q9 : Addr) (u : SX) (t : State) (H1 : Heap) (locs1 : List Loc), t.heap = H1 → s.vm.Alike t.vm → px u → BX E u t → H.size ≤ H1.size → (∀ q : Nat, q < H.size → ¬ AX q → H1[q]? = H[q]?) → va_S A0 H0 H1 locs1 → H1[q9]? = some ce → ce.vm = .none → s.vm.findClass E = some ce.cls → vx_W p l e R s m args below meth c H1 locs1 (cells + mc) (slots + ms) Q (F0 m pc ls rest) q9)
    (kk : ∀ (r : Int32) (u : S) (t : State) (H1 : Heap) (locs1 : List Loc), t.heap = H1 → s.vm.Alike t.vm → post r u → B u t → H.size ≤ H1.size → (∀ q : Nat, q < H.size → ¬ A1 q → H1[q]? = H[q]?) → va_S A0 H0 H1 locs1 → W p l e R s m args below meth c H1 locs1 (cells + mc) (slots + ms) Q (F0 m (pc + 3) ls (.int r :: rest))) : W p l e R s m args below meth c H locs cells slots Q (F0 m pc ls st0) := by
  intro T hT X
  rcases hr T hT X with ⟨v, st₀, t, T', L, h0, X', hL, e1, e2, ⟨⟨r, u, hv, hp, hb⟩, hF⟩, st⟩ | ⟨q, st₀, t, T', L, E, ce, h0, X', hL, e1, e2, ⟨u, hp, hb, hF⟩, hce, hcv, hcl, st⟩
  · cases hv
    obtain ⟨k1, k2, k3⟩ := vx_keep h0 e1 hS hA hf hL hF
    obtain ⟨t2, a1, b1⟩ := kk r u t T'.heap (locs ++ L) e1.symm (by rw [← e2]; exact X'.warmed.alike) hp hb k1 k2 k3 T' rfl X'
    exact ⟨t2, st t2 a1, b1⟩
  · obtain ⟨k1, k2, k3⟩ := vx_keep h0 e1 hS hAX hf hL hF
    obtain ⟨t2, a1, b1⟩ := kx E ce q u t T'.heap (locs ++ L) e1.symm (by rw [← e2]; exact X'.warmed.alike) hp hb k1 k2 k3 (by rw [e1]; exact hce) hcv hcl T' rfl X'
    exact ⟨t2, st.trans a1, b1⟩
theorem vx_calll {S SX : Type} {post : Int64 → S → Prop} {px : SX → Prop} {B : S → State → Prop} {BX : String → SX → State → Prop} {AX : Nat → Prop} (hr : vx_Run p l e R s m args below meth c H locs cells slots mc ms (F0 m pc ls st0) rest (va_Ql post B A1 a) (vx_X px BX AX) free) (hS : va_S A0 H0 H locs) (hA : ∀ q, q < H.size → A1 q → A0 q) (hf : ∀ q, free q → A0 q) (hAX : ∀ q, q < H.size → AX q → A0 q)
    (kx : ∀ (E : String) (ce : Cell) (q9 : Addr) (u : SX) (t : State) (H1 : Heap) (locs1 : List Loc), t.heap = H1 → s.vm.Alike t.vm → px u → BX E u t → H.size ≤ H1.size → (∀ q : Nat, q < H.size → ¬ AX q → H1[q]? = H[q]?) → va_S A0 H0 H1 locs1 → H1[q9]? = some ce → ce.vm = .none → s.vm.findClass E = some ce.cls → vx_W p l e R s m args below meth c H1 locs1 (cells + mc) (slots + ms) Q (F0 m pc ls rest) q9)
    (kk : ∀ (r : Int64) (u : S) (t : State) (H1 : Heap) (locs1 : List Loc), t.heap = H1 → s.vm.Alike t.vm → post r u → B u t → H.size ≤ H1.size → (∀ q : Nat, q < H.size → ¬ A1 q → H1[q]? = H[q]?) → va_S A0 H0 H1 locs1 → W p l e R s m args below meth c H1 locs1 (cells + mc) (slots + ms) Q (F0 m (pc + 3) ls (.long r :: rest))) : W p l e R s m args below meth c H locs cells slots Q (F0 m pc ls st0) := by
  intro T hT X
  rcases hr T hT X with ⟨v, st₀, t, T', L, h0, X', hL, e1, e2, ⟨⟨r, u, hv, hp, hb⟩, hF⟩, st⟩ | ⟨q, st₀, t, T', L, E, ce, h0, X', hL, e1, e2, ⟨u, hp, hb, hF⟩, hce, hcv, hcl, st⟩
  · cases hv
    obtain ⟨k1, k2, k3⟩ := vx_keep h0 e1 hS hA hf hL hF
    obtain ⟨t2, a1, b1⟩ := kk r u t T'.heap (locs ++ L) e1.symm (by rw [← e2]; exact X'.warmed.alike) hp hb k1 k2 k3 T' rfl X'
    exact ⟨t2, st t2 a1, b1⟩
  · obtain ⟨k1, k2, k3⟩ := vx_keep h0 e1 hS hAX hf hL hF
    obtain ⟨t2, a1, b1⟩ := kx E ce q u t T'.heap (locs ++ L) e1.symm (by rw [← e2]; exact X'.warmed.alike) hp hb k1 k2 k3 (by rw [e1]; exact hce) hcv hcl T' rfl X'
    exact ⟨t2, st.trans a1, b1⟩
theorem vx_callf {S SX : Type} {post : UInt32 → S → Prop} {px : SX → Prop} {B : S → State → Prop} {BX : String → SX → State → Prop} {AX : Nat → Prop} (hr : vx_Run p l e R s m args below meth c H locs cells slots mc ms (F0 m pc ls st0) rest (va_Qf post B A1 a) (vx_X px BX AX) free) (hS : va_S A0 H0 H locs) (hA : ∀ q, q < H.size → A1 q → A0 q) (hf : ∀ q, free q → A0 q) (hAX : ∀ q, q < H.size → AX q → A0 q)
    (kx : ∀ (E : String) (ce : Cell) (q9 : Addr) (u : SX) (t : State) (H1 : Heap) (locs1 : List Loc), t.heap = H1 → s.vm.Alike t.vm → px u → BX E u t → H.size ≤ H1.size → (∀ q : Nat, q < H.size → ¬ AX q → H1[q]? = H[q]?) → va_S A0 H0 H1 locs1 → H1[q9]? = some ce → ce.vm = .none → s.vm.findClass E = some ce.cls → vx_W p l e R s m args below meth c H1 locs1 (cells + mc) (slots + ms) Q (F0 m pc ls rest) q9)
    (kk : ∀ (r : UInt32) (u : S) (t : State) (H1 : Heap) (locs1 : List Loc), t.heap = H1 → s.vm.Alike t.vm → post r u → B u t → H.size ≤ H1.size → (∀ q : Nat, q < H.size → ¬ A1 q → H1[q]? = H[q]?) → va_S A0 H0 H1 locs1 → W p l e R s m args below meth c H1 locs1 (cells + mc) (slots + ms) Q (F0 m (pc + 3) ls (.float r :: rest))) : W p l e R s m args below meth c H locs cells slots Q (F0 m pc ls st0) := by
  intro T hT X
  rcases hr T hT X with ⟨v, st₀, t, T', L, h0, X', hL, e1, e2, ⟨⟨r, u, hv, hp, hb⟩, hF⟩, st⟩ | ⟨q, st₀, t, T', L, E, ce, h0, X', hL, e1, e2, ⟨u, hp, hb, hF⟩, hce, hcv, hcl, st⟩
  · cases hv
    obtain ⟨k1, k2, k3⟩ := vx_keep h0 e1 hS hA hf hL hF
    obtain ⟨t2, a1, b1⟩ := kk r u t T'.heap (locs ++ L) e1.symm (by rw [← e2]; exact X'.warmed.alike) hp hb k1 k2 k3 T' rfl X'
    exact ⟨t2, st t2 a1, b1⟩
  · obtain ⟨k1, k2, k3⟩ := vx_keep h0 e1 hS hAX hf hL hF
    obtain ⟨t2, a1, b1⟩ := kx E ce q u t T'.heap (locs ++ L) e1.symm (by rw [← e2]; exact X'.warmed.alike) hp hb k1 k2 k3 (by rw [e1]; exact hce) hcv hcl T' rfl X'
    exact ⟨t2, st.trans a1, b1⟩
theorem vx_calld {S SX : Type} {post : UInt64 → S → Prop} {px : SX → Prop} {B : S → State → Prop} {BX : String → SX → State → Prop} {AX : Nat → Prop} (hr : vx_Run p l e R s m args below meth c H locs cells slots mc ms (F0 m pc ls st0) rest (va_Qd post B A1 a) (vx_X px BX AX) free) (hS : va_S A0 H0 H locs) (hA : ∀ q, q < H.size → A1 q → A0 q) (hf : ∀ q, free q → A0 q) (hAX : ∀ q, q < H.size → AX q → A0 q)
    (kx : ∀ (E : String) (ce : Cell) (q9 : Addr) (u : SX) (t : State) (H1 : Heap) (locs1 : List Loc), t.heap = H1 → s.vm.Alike t.vm → px u → BX E u t → H.size ≤ H1.size → (∀ q : Nat, q < H.size → ¬ AX q → H1[q]? = H[q]?) → va_S A0 H0 H1 locs1 → H1[q9]? = some ce → ce.vm = .none → s.vm.findClass E = some ce.cls → vx_W p l e R s m args below meth c H1 locs1 (cells + mc) (slots + ms) Q (F0 m pc ls rest) q9)
    (kk : ∀ (r : UInt64) (u : S) (t : State) (H1 : Heap) (locs1 : List Loc), t.heap = H1 → s.vm.Alike t.vm → post r u → B u t → H.size ≤ H1.size → (∀ q : Nat, q < H.size → ¬ A1 q → H1[q]? = H[q]?) → va_S A0 H0 H1 locs1 → W p l e R s m args below meth c H1 locs1 (cells + mc) (slots + ms) Q (F0 m (pc + 3) ls (.double r :: rest))) : W p l e R s m args below meth c H locs cells slots Q (F0 m pc ls st0) := by
  intro T hT X
  rcases hr T hT X with ⟨v, st₀, t, T', L, h0, X', hL, e1, e2, ⟨⟨r, u, hv, hp, hb⟩, hF⟩, st⟩ | ⟨q, st₀, t, T', L, E, ce, h0, X', hL, e1, e2, ⟨u, hp, hb, hF⟩, hce, hcv, hcl, st⟩
  · cases hv
    obtain ⟨k1, k2, k3⟩ := vx_keep h0 e1 hS hA hf hL hF
    obtain ⟨t2, a1, b1⟩ := kk r u t T'.heap (locs ++ L) e1.symm (by rw [← e2]; exact X'.warmed.alike) hp hb k1 k2 k3 T' rfl X'
    exact ⟨t2, st t2 a1, b1⟩
  · obtain ⟨k1, k2, k3⟩ := vx_keep h0 e1 hS hAX hf hL hF
    obtain ⟨t2, a1, b1⟩ := kx E ce q u t T'.heap (locs ++ L) e1.symm (by rw [← e2]; exact X'.warmed.alike) hp hb k1 k2 k3 (by rw [e1]; exact hce) hcv hcl T' rfl X'
    exact ⟨t2, st.trans a1, b1⟩
theorem vx_callv {S SX : Type} {post : S → Prop} {px : SX → Prop} {B : S → State → Prop} {BX : String → SX → State → Prop} {AX : Nat → Prop} (hr : vx_Run p l e R s m args below meth c H locs cells slots mc ms (F0 m pc ls st0) rest (va_Qv post B A1 a) (vx_X px BX AX) free) (hS : va_S A0 H0 H locs) (hA : ∀ q, q < H.size → A1 q → A0 q) (hf : ∀ q, free q → A0 q) (hAX : ∀ q, q < H.size → AX q → A0 q)
    (kx : ∀ (E : String) (ce : Cell) (q9 : Addr) (u : SX) (t : State) (H1 : Heap) (locs1 : List Loc), t.heap = H1 → s.vm.Alike t.vm → px u → BX E u t → H.size ≤ H1.size → (∀ q : Nat, q < H.size → ¬ AX q → H1[q]? = H[q]?) → va_S A0 H0 H1 locs1 → H1[q9]? = some ce → ce.vm = .none → s.vm.findClass E = some ce.cls → vx_W p l e R s m args below meth c H1 locs1 (cells + mc) (slots + ms) Q (F0 m pc ls rest) q9)
    (kk : ∀ (u : S) (t : State) (H1 : Heap) (locs1 : List Loc), t.heap = H1 → s.vm.Alike t.vm → post u → B u t → H.size ≤ H1.size → (∀ q : Nat, q < H.size → ¬ A1 q → H1[q]? = H[q]?) → va_S A0 H0 H1 locs1 → W p l e R s m args below meth c H1 locs1 (cells + mc) (slots + ms) Q (F0 m (pc + 3) ls (rest))) : W p l e R s m args below meth c H locs cells slots Q (F0 m pc ls st0) := by
  intro T hT X
  rcases hr T hT X with ⟨v, st₀, t, T', L, h0, X', hL, e1, e2, ⟨⟨u, hv, hp, hb⟩, hF⟩, st⟩ | ⟨q, st₀, t, T', L, E, ce, h0, X', hL, e1, e2, ⟨u, hp, hb, hF⟩, hce, hcv, hcl, st⟩
  · cases hv
    obtain ⟨k1, k2, k3⟩ := vx_keep h0 e1 hS hA hf hL hF
    obtain ⟨t2, a1, b1⟩ := kk u t T'.heap (locs ++ L) e1.symm (by rw [← e2]; exact X'.warmed.alike) hp hb k1 k2 k3 T' rfl X'
    exact ⟨t2, st t2 a1, b1⟩
  · obtain ⟨k1, k2, k3⟩ := vx_keep h0 e1 hS hAX hf hL hF
    obtain ⟨t2, a1, b1⟩ := kx E ce q u t T'.heap (locs ++ L) e1.symm (by rw [← e2]; exact X'.warmed.alike) hp hb k1 k2 k3 (by rw [e1]; exact hce) hcv hcl T' rfl X'
    exact ⟨t2, st.trans a1, b1⟩
/-- caught by the row x of this method's table; the rows ahead don't take it -/
theorem vx_catch {own name : String} {E : String} {ce : Cell} {q : Addr} (hown : s.vm.findClass own = some m.cls) (pre : List ExceptionTableEntry) (x : ExceptionTableEntry) (suf : List ExceptionTableEntry) (hsplit : c.exceptionTable.toList = pre ++ x :: suf)
    (hpass : ∀ z ∈ pre, covers z pc = false ∨ (z.catchType ≠ 0 ∧ ∃ nm : String, (Cond.classLink own z.catchType nm).before args s = true ∧ va_Nc E nm s)) (hx : covers x pc = true) (h0 : x.catchType ≠ 0)
    (hlink : (Cond.classLink own x.catchType name).before args s = true) (hcast : (Cond.castable E name).before args s = true) (hcell : H[q]? = some ce) (hv : ce.vm = .none) (hcl : s.vm.findClass E = some ce.cls)
    (kk : W p l e R s m args below meth c H locs cells slots Q (F0 m x.handlerPc ls [.ref q])) : vx_W p l e R s m args below meth c H locs cells slots Q (F0 m pc ls rest) q := by
  intro T hT X
  have hpl : e.platform.magicAccessors = ({} : Platform).magicAccessors := by rw [X.admits.platform]
  obtain ⟨c3, c4, hc3, hc4, hasg⟩ := Cond.castable_spec hcast
  cases Option.some.inj (hc3.symm.trans hcl)
  obtain ⟨c5, hc5, hcl5⟩ := Cond.classLink_spec hown hlink e.platform hpl
  cases Option.some.inj (hc4.symm.trans hc5)
  obtain ⟨vm', X', st⟩ := X.thenCaughtThrough q (g := F0 m pc ls rest) rfl (Steps.refl _) (by rw [hT]; exact hcell) (by rw [hv]; rfl) (by obtain ⟨k9, h9, -⟩ := Vm.findClass_spec hcl; exact ⟨k9, h9⟩) pre x suf hsplit
    (fun z hz => by
      rcases hpass z hz with h | ⟨hz0, nm, hl1, hn1⟩
      · exact Or.inl h
      · obtain ⟨c6, hc6, hcl6⟩ := Cond.classLink_spec hown hl1 e.platform hpl
        obtain ⟨a8, b8, h1, h2, h3⟩ := hn1
        cases Option.some.inj (h1.symm.trans hcl)
        cases Option.some.inj (h2.symm.trans hc6)
        exact Or.inr ⟨hz0, _, hcl6, h3⟩) hx (Or.inr ⟨h0, c4, hcl5, hasg⟩)
  obtain ⟨t, a1, b1⟩ := kk (T.setVm vm') hT X'
  exact ⟨t, st.trans a1, b1⟩
end Rows
section Ends
variable {p : Program} {l : Launch} {e : Env} {R : Room} {s : State} {m : MethodId} {args : Array Value} {below : List Frame} {meth : Method} {c : Code} {H : Heap} {locs : List Loc} {cells slots : Nat} {Q : State → Prop}
variable {mc ms : Nat} {free : Addr → Prop} {A0 A1 : Nat → Prop} {H0 : Heap} {a : Array Value} {ls : Array Slot} {st0 rest : List Value}
variable {Qc : Array Value → State → Outcome → State → Prop} {XC : String → State → State → Prop}
/-- what a body that may throw owes at its end -/
def vx_MQ (below : List Frame) (Qc : Array Value → State → Outcome → State → Prop) (XC : String → State → State → Prop) (a : Array Value) (s : State) (mc ms : Nat) (free : Addr → Prop) : State → Prop := fun t =>
  ∃ o, t.status = .running ∧ Ended t below o ∧ vx_Q Qc XC mc ms free a s o t
theorem vx_ret {g : JFrame} {mc ms : Nat} (k : W p l e R s m args below meth c H locs cells slots (MQ below Qc args s mc ms free) g) : W p l e R s m args below meth c H locs cells slots (vx_MQ below Qc XC args s mc ms free) g := by
  intro T hT X
  obtain ⟨t, a1, o, b1, b2, b3, b4⟩ := k T hT X
  exact ⟨t, a1, o, b1, b2, Or.inl ⟨b3, b4⟩⟩
/-- not caught here: it goes on to the caller -/
theorem vx_widen {g : JFrame} {q : Addr} {k n : Nat} (h1 : cells ≤ k) (h2 : slots ≤ n) (kk : vx_W p l e R s m args below meth c H locs k n Q g q) : vx_W p l e R s m args below meth c H locs cells slots Q g q := fun T hT X => kk T hT (stand_widen X h1 h2)
theorem vx_out {pc : Nat} {E : String} {ce : Cell} {q : Addr} {mc ms : Nat} (hout : ∀ x ∈ c.exceptionTable.toList, covers x pc = false) (hlocks : meth.locks = false) (hcell : H[q]? = some ce) (hv : ce.vm = .none) (hcl : s.vm.findClass E = some ce.cls)
    (hx : ∀ t : State, t.heap = H → s.vm.Alike t.vm → XC E s t) (hf : ∀ z ∈ locs, free z.base) (hc : cells ≤ mc) (hs : slots ≤ ms) :
    vx_W p l e R s m args below meth c H locs cells slots (vx_MQ below Qc XC args s mc ms free) (F0 m pc ls rest) q := by
  intro T hT X
  obtain ⟨st1, hrun, hend, hW, hsm⟩ := X.leaveThrown q (g := F0 m pc ls rest) rfl rfl rfl hout hlocks
  have hcell9 : (T.setFrames (.throwing q :: below)).heap[q]? = some ce := by
    show T.heap[q]? = some ce
    rw [hT]; exact hcell
  exact ⟨_, st1, .threw q, hrun, hend, Or.inr ⟨q, rfl, E, ce, locs, hx _ hT hW.alike, hcell9, hv, hcl, hW, hsm.mono hc hs, hf⟩⟩
theorem vx_frame {U : State} {k n : Nat} (h : s.sameButNew ({ U with vm := s.vm } : State) locs k n) : s.heap.size ≤ U.heap.size ∧ ∀ q : Nat, q < s.heap.size → (∀ z ∈ locs, z.base ≠ q) → U.heap[q]? = s.heap[q]? := by
  obtain ⟨-, h2, -, -, -, h6⟩ := h
  refine ⟨h2, fun q hq hz => ?_⟩
  obtain ⟨c9, e1, e2, e3, e4⟩ := h6 q _ (Array.getElem?_eq_getElem hq)
  have hs : c9.slots = (s.heap[q]).slots := Array.ext_getElem? fun i => e4 i fun hm => hz _ hm rfl
  have h9 : c9 = s.heap[q] := by
    rw [hs] at e2
    exact e2
  have e5 : U.heap[q]? = some c9 := e1
  rw [e5, h9, Array.getElem?_eq_getElem hq]
/-- the words of a throw but the four that speak of the heap -/
def vx_no (w : Cond) : Bool := decide (w ≠ .isRef (.static Bundle.tN "UNASSIGNED_STACK" Bundle.steD)) && decide (w ≠ .isRef (.static Bundle.tN "SUPPRESSED_SENTINEL" Bundle.listD)) && decide (w ≠ .laysStatic Bundle.tN "UNASSIGNED_STACK" Bundle.steD) && decide (w ≠ .laysStatic Bundle.tN "SUPPRESSED_SENTINEL" Bundle.listD)
def vx_at0 (own : String) (ic : Nat) (X : String) (names : List String) : List Cond := (Bundle.ownAtoms0 own ic X names).filter vx_no
def vx_atS (own : String) (ic : Nat) (X : String) (names : List String) : List Cond := (Bundle.ownAtoms own ic X names).filter vx_no
/-- a word that the tables alone decide, or a good one -/
def vx_ot (w : Cond) : Bool := w.onTables || goodWord w
theorem vx_ot_at {args a' : Array Value} {s U : State} {w : Cond} (hW : s.WarmedH U.vm) (hvm : s.vm = U.vm) (hg : vx_ot w = true) (h : w.before args s = true) : w.before a' U = true := by
  simp only [vx_ot, Bool.or_eq_true] at hg
  rcases hg with hg | hg
  · exact va_tabs hg hvm h
  · exact word_at hW (good_of_word hg) h
/-- a list's words: the good ones out of the method's own list, the others by premises of their own -/
theorem vx_hat {args : Array Value} {s : State} {L B : List Cond} (h1 : ∀ w ∈ L.filter goodWord, w.before args s = true) (h2 : ∀ w ∈ L.filter (fun w => !goodWord w), w ∈ B) (h3 : ∀ w ∈ B, w.before args s = true) : ∀ w ∈ L, w.before args s = true := by
  intro w hw
  by_cases g : goodWord w = true
  · exact h1 w (List.mem_filter.mpr ⟨hw, g⟩)
  · refine h3 w (h2 w (List.mem_filter.mpr ⟨hw, ?_⟩))
    show (!goodWord w) = true
    cases hgw : goodWord w
    · rfl
    · exact absurd hgw g
theorem vx_c {args : Array Value} {s : State} {w : Cond} {B : List Cond} (h : w.before args s = true) (t : ∀ w ∈ B, w.before args s = true) : ∀ w' ∈ w :: B, w'.before args s = true := fun w' h' => (List.mem_cons.mp h').elim (fun e => by rw [e]; exact h) (t w')
theorem vx_n {args : Array Value} {s : State} : ∀ w ∈ ([] : List Cond), w.before args s = true := fun _ h => nomatch h
theorem vx_own {args : Array Value} {s : State} {L : List Cond} (h1 : ∀ w ∈ L.filter vx_no, w.before args s = true)
    (hU : (Cond.isRef (.static Bundle.tN "UNASSIGNED_STACK" Bundle.steD)).before args s = true) (hN : (Cond.isRef (.static Bundle.tN "SUPPRESSED_SENTINEL" Bundle.listD)).before args s = true)
    (lU : (Cond.laysStatic Bundle.tN "UNASSIGNED_STACK" Bundle.steD).before args s = true) (lN : (Cond.laysStatic Bundle.tN "SUPPRESSED_SENTINEL" Bundle.listD).before args s = true) : ∀ w ∈ L, w.before args s = true := by
  intro w hw
  by_cases e1 : w = .isRef (.static Bundle.tN "UNASSIGNED_STACK" Bundle.steD)
  · rw [e1]; exact hU
  · by_cases e2 : w = .isRef (.static Bundle.tN "SUPPRESSED_SENTINEL" Bundle.listD)
    · rw [e2]; exact hN
    · by_cases e3 : w = .laysStatic Bundle.tN "UNASSIGNED_STACK" Bundle.steD
      · rw [e3]; exact lU
      · by_cases e4 : w = .laysStatic Bundle.tN "SUPPRESSED_SENTINEL" Bundle.listD
        · rw [e4]; exact lN
        · exact h1 w (List.mem_filter.mpr ⟨hw, by unfold vx_no; rw [decide_eq_true e1, decide_eq_true e2, decide_eq_true e3, decide_eq_true e4]; rfl⟩)
/-- where a static field lies, its class's statics cell in H -/
def vx_L (C n d : String) (A : Nat → Prop) (U : State) (H : Heap) : Prop := ∃ (c : ClassId) (k : Class) (i : Nat) (f : Field) (a : Nat) (cell : Cell), U.vm.findClass C = some c ∧ U.fieldFound? C n d = some (c, k, i, f) ∧ f.isStatic = true ∧ k.statics = some a ∧ H[a]? = some cell ∧ cell.vm.isStatics = true ∧ cell.cls = c ∧ f.slot < cell.slots.size ∧ k.staticTypes[f.slot]? = some f.type ∧ ¬ A a
theorem vx_L.moved {C n d : String} {A : Nat → Prop} {u U : State} {H : Heap} (hvm : u.vm.Alike U.vm) (h : vx_L C n d A u H) : vx_L C n d A U H := by
  obtain ⟨c, k, i, f, a, cell, h1, h2, h3, h4, h5, h6, h7, h8, h9, h10⟩ := h
  obtain ⟨k', hi', he⟩ := State.fieldFound?_setVm hvm h2
  exact ⟨c, k', i, f, a, cell, by rw [hvm.findClass]; exact h1, hi', h3, by rw [he]; exact h4, h5, h6, h7, h8, by rw [he]; exact h9, h10⟩
theorem vx_L.kept {C n d : String} {A : Nat → Prop} {U : State} {H H1 : Heap} (h : vx_L C n d A U H) (hq : ∀ a : Nat, a < H.size → ¬ A a → H1[a]? = H[a]?) : vx_L C n d A U H1 := by
  obtain ⟨c, k, i, f, a, cell, h1, h2, h3, h4, h5, h6, h7, h8, h9, h10⟩ := h
  exact ⟨c, k, i, f, a, cell, h1, h2, h3, h4, by rw [hq a (Array.getElem?_eq_some_iff.mp h5).1 h10]; exact h5, h6, h7, h8, h9, h10⟩
theorem vx_L.narrow {C n d : String} {A B : Nat → Prop} {U : State} {H : Heap} (h : vx_L C n d A U H) (hAB : ∀ q, B q → A q) : vx_L C n d B U H := by
  obtain ⟨c, k, i, f, a, cell, h1, h2, h3, h4, h5, h6, h7, h8, h9, h10⟩ := h
  exact ⟨c, k, i, f, a, cell, h1, h2, h3, h4, h5, h6, h7, h8, h9, fun z => h10 (hAB _ z)⟩
theorem vx_L.word {C n d : String} {A : Nat → Prop} {s : State} {args : Array Value} (h : vx_L C n d A s s.heap) : (Cond.laysStatic C n d).before args s = true := by
  obtain ⟨c, k, i, f, a, cell, h1, h2, h3, h4, h5, h6, h7, h8, h9, -⟩ := h
  show (Cond.laysStatic C n d).holds args s none s [] = true
  exact Cond.laysStatic_of h1 h2 h3 h4 h5 h6 h7 h8 h9
/-- .. and what it holds: null or some reference -/
def vx_Zq (C n d : String) (A : Nat → Prop) (U : State) (H : Heap) : Prop := va_Zq C n d A U H ∧ vx_L C n d A U H
theorem vx_Zq.moved {C n d : String} {A : Nat → Prop} {u U : State} {H : Heap} (hvm : u.vm.Alike U.vm) (h : vx_Zq C n d A u H) : vx_Zq C n d A U H := ⟨va_Zq.moved hvm h.1, vx_L.moved hvm h.2⟩
theorem vx_Zq.kept {C n d : String} {A : Nat → Prop} {U : State} {H H1 : Heap} (h : vx_Zq C n d A U H) (hq : ∀ a : Nat, a < H.size → ¬ A a → H1[a]? = H[a]?) : vx_Zq C n d A U H1 := ⟨va_Zq.kept h.1 hq, vx_L.kept h.2 hq⟩
theorem vx_Zq.narrow {C n d : String} {A B : Nat → Prop} {U : State} {H : Heap} (h : vx_Zq C n d A U H) (hAB : ∀ q, B q → A q) : vx_Zq C n d B U H := ⟨va_Zq.narrow h.1 hAB, vx_L.narrow h.2 hAB⟩
theorem vx_Zqof {args : Array Value} {s : State} {C n d : String} {A : Nat → Prop} (hl : (Cond.laysStatic C n d).before args s = true) (hini : (Cond.initialized C).before args s = true) (h : (Cond.isRef (.static C n d)).before args s = true) (hA : ∀ a : Nat, a < s.heap.size → ¬ A a) : vx_Zq C n d A s s.heap := by
  refine ⟨va_Zqof hl hini h hA, ?_⟩
  obtain ⟨c, k, i, f, a, cell, h1, h2, h3, h4, h5, h6, h7, h8, h9⟩ := Cond.laysStatic_spec hl
  exact ⟨c, k, i, f, a, cell, h1, h2, h3, h4, h5, h6, h7, h8, h9, hA a (Array.getElem?_eq_some_iff.mp h5).1⟩
theorem vx_isRef {C n d : String} {v : Value} {A : Nat → Prop} {s : State} {args : Array Value} (h : va_Z C n d v A s s.heap) (hv : v.isRef = true) : (Cond.isRef (.static C n d)).before args s = true := by
  obtain ⟨cf, kf, fi, f, a, cell, h1, h2, h3, h4, h5, h6, h7, -⟩ := h
  have he : (Term.static C n d).eval args s none [] s = some v := by
    simp [Term.eval, State.fieldNamed?, h1, h2, h4, h5, h6, h7]
  simp only [Cond.before, Cond.holds, Cond.value, he]
  cases v <;> simp_all [Value.isRef]
theorem vx_isRefq {C n d : String} {A : Nat → Prop} {s : State} {args : Array Value} (h : va_Zq C n d A s s.heap) : (Cond.isRef (.static C n d)).before args s = true := by
  rcases h with h | ⟨t, h⟩
  · exact vx_isRef h rfl
  · exact vx_isRef h rfl
/-- the same frame, seen from here: as if the method were called anew in this heap -/
theorem vx_rebase {T : State} (X : Stand p l e R s m args below meth c T locs cells slots) {R' : Room} (hf : R'.frames ≤ R.frames) (hl : R'.locals ≤ R.locals) (hc : cells + R'.cells ≤ R.cells) (hs : slots + R'.slots ≤ R.slots) :
    Stand p l e R' ((T.setVm s.vm).setFrames (.invoking m args :: below)) m args below meth c T [] 0 0 := by
  have htop : (T.setVm s.vm).topJava?.isSome := X.here.top
  have hF : ((T.setVm s.vm).setFrames (.invoking m args :: below)).frames = .invoking m args :: below := State.frames_setFrames _ (State.cur_lt_of_top htop)
  obtain ⟨g₀, hg0⟩ := Option.isSome_iff_exists.mp htop
  obtain ⟨r, hr⟩ := State.topJava?_eq_some.mp hg0
  have hl9 : e.platform.stackLimits (T.setVm s.vm).me = e.platform.stackLimits s.me := X.limits
  have hb9 : (T.setVm s.vm).me.stackBytes = s.me.stackBytes := X.bytes
  refine ⟨X.admits, X.cas, X.clock, hF, ?_, X.hears, X.method, X.code, X.here, X.tail, X.warmed, ?_, ?_, ?_⟩
  · have h := X.room
    have hU : ((T.setVm s.vm).setFrames (.invoking m args :: below)).localsInUse = s.localsInUse := by
      rw [State.localsInUse_invoking hF (meth := meth) (c := c) X.method X.code, State.localsInUse_invoking X.frames X.method X.code]
    simp only [State.hasRoom, Bool.and_eq_true, decide_eq_true_eq] at h ⊢
    obtain ⟨⟨⟨⟨h1, h2, h3, h4, h5, h6⟩, h7⟩, h8⟩, h9⟩ := h
    rw [X.frames, List.length_cons] at h2 h3
    have q1 := X.heapSize
    have q2 := X.used
    simp only [hF, hU, List.length_cons, State.stackLimits_setFrames, State.stackBytes_setFrames, hl9, hb9]
    refine ⟨⟨⟨⟨by omega, by omega, by omega, by omega, by omega, h6⟩, ?_⟩, ?_⟩, X.book⟩
    · show T.heap.size + R'.cells ≤ e.platform.maxCells
      omega
    · show T.slotsUsed + R'.slots ≤ e.platform.maxSlots
      omega
  · rw [State.stackLimits_setFrames]; rfl
  · rw [State.stackBytes_setFrames]; rfl
  · refine ⟨?_, Nat.le_refl _, Nat.le_refl _, ?_, ?_, fun a c9 h9 => ⟨c9, h9, rfl, rfl, fun _ _ => rfl⟩⟩
    · obtain ⟨t, ht, -⟩ := State.frames_cons hr
      show T.setVm s.vm = { ((T.setVm s.vm).setFrames (.invoking m args :: below)).setFrames (T.setVm s.vm).frames with heap := T.heap, slotsUsed := T.slotsUsed }
      rw [State.setFrames_setFrames, State.setFrames_self ht]
      rfl
    · show T.slotsUsed = T.slotsUsed + ((T.heap.toList.drop T.heap.size).map (·.slots.size)).sum
      rw [List.drop_eq_nil_of_le (Nat.le_of_eq Array.length_toList)]
      rfl
    · show ((T.heap.toList.drop T.heap.size).map (·.slots.size)).sum ≤ 0
      rw [List.drop_eq_nil_of_le (Nat.le_of_eq Array.length_toList)]
      exact Nat.le_refl _
/-- 'throw new E()': new; dup; invokespecial; athrow -/
theorem vx_throw0 {cc : ByteArray} {pc : Nat} (hexec : p.tables.exec = Jvm.exec) (hb : c.code = cc) (hl : l.stackTraces = false) {own cls : String} {names : List String} {ik ic mc ms : Nat} {A : Nat → Prop}
    (hown : s.vm.findClass own = some m.cls) (hcls : Bundle.fit cls = true) (hnames : ∀ n ∈ names, Bundle.fit n = true)
    (hk : (Cond.classLink own ik cls).before args s = true) (hini : (Cond.initialized cls).before args s = true) (hat : ∀ w ∈ vx_at0 own ic cls names, w.before args s = true)
    (hgood : ∀ w ∈ Cond.classLink own ik cls :: Cond.initialized cls :: vx_at0 own ic cls names, vx_ot w = true)
    (hU : vx_Zq Bundle.tN "UNASSIGNED_STACK" Bundle.steD A s s.heap) (hN : vx_Zq Bundle.tN "SUPPRESSED_SENTINEL" Bundle.listD A s s.heap) (hS : va_S A s.heap H locs) (hsize : ls.size = c.maxLocals)
    (d0 : decode cc pc = .ok (.new ik, 3)) (d3 : decode cc (pc + 3) = .ok (.dup, 1)) (d4 : decode cc (pc + 4) = .ok (.invokespecial ic, 3)) (d7 : decode cc (pc + 7) = .ok (.athrow, 1))
    (hout : ∀ x ∈ c.exceptionTable.toList, covers x (pc + 7) = false)
    (hRframes : names.length + 3 < R.frames) (hRlocals : (rest.map fun v => v.category).sum + (13 * (names.length + 1) + 42) ≤ R.locals) (hRcells : cells + 1 ≤ R.cells) (hRslots : slots + 6 ≤ R.slots) (hlocks : meth.locks = false)
    (hx : ∀ t : State, s.vm.Alike t.vm → H.size ≤ t.heap.size → (∀ q : Nat, q < H.size → t.heap[q]? = H[q]?) → XC cls s t)
    (hf : ∀ z ∈ locs, free z.base) (hc : cells + 1 ≤ mc) (hs : slots + 6 ≤ ms) :
    W p l e R s m args below meth c H locs cells slots (vx_MQ below Qc XC args s mc ms free) (F0 m pc ls rest) := by
  intro T hT X
  have htr : e.platform.stackTraces = false := (show e.platform.stackTraces = l.stackTraces by rw [X.admits.platform]).trans hl
  have Y := vx_rebase X (R' := { frames := R.frames, locals := R.locals, cells := 1, slots := 6 }) (Nat.le_refl _) (Nat.le_refl _) hRcells hRslots
  obtain ⟨s', hA⟩ : ∃ z, z = (T.setVm s.vm).setFrames (.invoking m args :: below) := ⟨_, rfl⟩
  rw [← hA] at Y
  have hvm : s'.vm = s.vm := by rw [hA]; rfl
  have hhp : s'.heap = H := by rw [hA]; exact hT
  have hW0 : s.WarmedH s'.vm := by rw [hvm]; exact State.WarmedH.refl s
  have hat' : ∀ w ∈ vx_at0 own ic cls names, w.before args s' = true := fun w hw => vx_ot_at hW0 hvm.symm (hgood w (List.mem_cons_of_mem _ (List.mem_cons_of_mem _ hw))) (hat w hw)
  have hk' : (Cond.classLink own ik cls).before args s' = true := vx_ot_at hW0 hvm.symm (hgood _ List.mem_cons_self) hk
  have hini' : (Cond.initialized cls).before args s' = true := vx_ot_at hW0 hvm.symm (hgood _ (List.mem_cons_of_mem _ List.mem_cons_self)) hini
  have hU' : vx_Zq Bundle.tN "UNASSIGNED_STACK" Bundle.steD A s' s'.heap := by rw [hhp]; exact vx_Zq.moved hW0.alike (hU.kept hS.2.1)
  have hN' : vx_Zq Bundle.tN "SUPPRESSED_SENTINEL" Bundle.listD A s' s'.heap := by rw [hhp]; exact vx_Zq.moved hW0.alike (hN.kept hS.2.1)
  have h : ∀ w ∈ Bundle.ownAtoms0 own ic cls names, w.before args s' = true := vx_own hat' (vx_isRefq hU'.1) (vx_isRefq hN'.1) hU'.2.word hN'.2.word
  have hown' : s'.vm.findClass own = some m.cls := by rw [hvm]; exact hown
  have hins : (Cond.instantiable cls 6).before args s' = true := h _ (by simp [Bundle.ownAtoms0])
  obtain ⟨vm₁, cX, kX, hfX, hkX, -, -, X₁, st1⟩ := Y.newCold hexec (own := own) (C := cls) (index := ik) (n := 6) hown' hk' hins hini'
    (g := F0 m pc ls rest) rfl (by rw [hb]; exact d0) (Nat.le_refl _) (Nat.le_refl _)
  generalize hT1 : (T.setVm vm₁).pushCell { cls := cX, slots := kX.instanceTypes.map defaultValue, vm := .none } = T1 at X₁ st1
  have hcat : (Value.ref T.heap.size).category = 1 := rfl
  have hcellA : T1.heap[T.heap.size]? = some (freshCell cX kX) := by rw [← hT1]; exact State.heap_pushCell_size _ _
  have d3' : decode c.code (pc + 3) = .ok (.dup, 1) := by rw [hb]; exact d3
  obtain ⟨U, hsteps, hrun, hend, hW, hsame, ce, hce, hO⟩ := X₁.ctorThrow0 hexec htr (own := own) (cls := cls) (names := names) (ic := ic) hown' hcls hnames h (fun x hx => nomatch hx) hfX hkX hcellA (by rw [hhp, hT]; exact Nat.le_refl _)
    (g := { method := m, pc := pc + 4, locals := ls, stack := .ref T.heap.size :: .ref T.heap.size :: rest, locked := none }) rfl hsize rfl rfl (rest := rest) rfl
    (by rw [hb]; exact d4) (by rw [hb]; exact d7) hout hRframes (by simp only [List.map_cons, List.sum_cons, hcat]; omega) hlocks
  obtain ⟨f1, f2⟩ := vx_frame hsame
  rw [hhp] at f1 f2
  have hWs : s.WarmedH U.vm := State.WarmedH.trans hW0 hW
  have hcl : s.vm.findClass cls = some ce.cls := by
    have h9 := hO.cls
    rw [hvm] at h9
    exact h9
  have hall : s.sameButNew ({ U with vm := s.vm } : State) locs mc ms := by
    subst hA
    obtain ⟨e1, e2⟩ := hsame
    rw [State.setFrames_setFrames] at e1
    have h2 : (T.setVm s.vm).sameButNew ({ U with vm := s.vm } : State) [] (0 + 1) (0 + 6) := ⟨e1, e2⟩
    have h3 := X.same.trans h2
    rw [List.append_nil] at h3
    exact h3.mono hc hs
  refine ⟨U, ?_, .threw T.heap.size, hrun, hend, Or.inr ⟨T.heap.size, rfl, cls, ce, locs, hx U hWs.alike f1 (fun q hq => f2 q hq (fun z hz => nomatch hz)), hce, hO.vm, hcl, hWs, hall, hf⟩⟩
  refine st1 _ ?_
  show Steps p.tables e below (T1.setTop { method := m, pc := pc + 3, locals := ls, stack := .ref T.heap.size :: rest, locked := none }) _
  jvm_step X₁.here [X₁.here.top, hexec, d3', Value.category]
  exact hsteps
/-- 'throw new E("text")': new; dup; ldc; invokespecial; athrow -/
theorem vx_throwS {cc : ByteArray} {pc : Nat} (hexec : p.tables.exec = Jvm.exec) (hb : c.code = cc) (hl : l.stackTraces = false) {own cls text : String} {names : List String} {ik is ic mc ms sa : Nat} {A : Nat → Prop}
    (hown : s.vm.findClass own = some m.cls) (hcls : Bundle.fit cls = true) (hnames : ∀ n ∈ names, Bundle.fit n = true)
    (hk : (Cond.classLink own ik cls).before args s = true) (hini : (Cond.initialized cls).before args s = true) (hstr : vk_R own is text sa s) (hat : ∀ w ∈ vx_atS own ic cls names, w.before args s = true)
    (hgood : ∀ w ∈ Cond.classLink own ik cls :: Cond.initialized cls :: vx_atS own ic cls names, vx_ot w = true)
    (hU : vx_Zq Bundle.tN "UNASSIGNED_STACK" Bundle.steD A s s.heap) (hN : vx_Zq Bundle.tN "SUPPRESSED_SENTINEL" Bundle.listD A s s.heap) (hS : va_S A s.heap H locs) (hsize : ls.size = c.maxLocals)
    (d0 : decode cc pc = .ok (.new ik, 3)) (d3 : decode cc (pc + 3) = .ok (.dup, 1)) (d4 : decode cc (pc + 4) = .ok (.ldc is, 2)) (d6 : decode cc (pc + 6) = .ok (.invokespecial ic, 3)) (d9 : decode cc (pc + 9) = .ok (.athrow, 1))
    (hout : ∀ x ∈ c.exceptionTable.toList, covers x (pc + 9) = false)
    (hRframes : names.length + 3 < R.frames) (hRlocals : (rest.map fun v => v.category).sum + (13 * (names.length + 1) + 43) ≤ R.locals) (hRcells : cells + 1 ≤ R.cells) (hRslots : slots + 6 ≤ R.slots) (hlocks : meth.locks = false)
    (hx : ∀ t : State, s.vm.Alike t.vm → H.size ≤ t.heap.size → (∀ q : Nat, q < H.size → t.heap[q]? = H[q]?) → XC cls s t)
    (hf : ∀ z ∈ locs, free z.base) (hc : cells + 1 ≤ mc) (hs : slots + 6 ≤ ms) :
    W p l e R s m args below meth c H locs cells slots (vx_MQ below Qc XC args s mc ms free) (F0 m pc ls rest) := by
  intro T hT X
  have htr : e.platform.stackTraces = false := (show e.platform.stackTraces = l.stackTraces by rw [X.admits.platform]).trans hl
  have Y := vx_rebase X (R' := { frames := R.frames, locals := R.locals, cells := 1, slots := 6 }) (Nat.le_refl _) (Nat.le_refl _) hRcells hRslots
  obtain ⟨s', hA⟩ : ∃ z, z = (T.setVm s.vm).setFrames (.invoking m args :: below) := ⟨_, rfl⟩
  rw [← hA] at Y
  have hvm : s'.vm = s.vm := by rw [hA]; rfl
  have hhp : s'.heap = H := by rw [hA]; exact hT
  have hW0 : s.WarmedH s'.vm := by rw [hvm]; exact State.WarmedH.refl s
  have hat' : ∀ w ∈ vx_atS own ic cls names, w.before args s' = true := fun w hw => vx_ot_at hW0 hvm.symm (hgood w (List.mem_cons_of_mem _ (List.mem_cons_of_mem _ hw))) (hat w hw)
  have hk' : (Cond.classLink own ik cls).before args s' = true := vx_ot_at hW0 hvm.symm (hgood _ List.mem_cons_self) hk
  have hini' : (Cond.initialized cls).before args s' = true := vx_ot_at hW0 hvm.symm (hgood _ (List.mem_cons_of_mem _ List.mem_cons_self)) hini
  have hU' : vx_Zq Bundle.tN "UNASSIGNED_STACK" Bundle.steD A s' s'.heap := by rw [hhp]; exact vx_Zq.moved hW0.alike (hU.kept hS.2.1)
  have hN' : vx_Zq Bundle.tN "SUPPRESSED_SENTINEL" Bundle.listD A s' s'.heap := by rw [hhp]; exact vx_Zq.moved hW0.alike (hN.kept hS.2.1)
  have h : ∀ w ∈ Bundle.ownAtoms own ic cls names, w.before args s' = true := vx_own hat' (vx_isRefq hU'.1) (vx_isRefq hN'.1) hU'.2.word hN'.2.word
  have hown' : s'.vm.findClass own = some m.cls := by rw [hvm]; exact hown
  have hins : (Cond.instantiable cls 6).before args s' = true := h _ (by simp [Bundle.ownAtoms])
  obtain ⟨vm₁, cX, kX, hfX, hkX, -, -, X₁, st1⟩ := Y.newCold hexec (own := own) (C := cls) (index := ik) (n := 6) hown' hk' hins hini'
    (g := F0 m pc ls rest) rfl (by rw [hb]; exact d0) (Nat.le_refl _) (Nat.le_refl _)
  generalize hT1 : (T.setVm vm₁).pushCell { cls := cX, slots := kX.instanceTypes.map defaultValue, vm := .none } = T1 at X₁ st1
  have hcat : (Value.ref T.heap.size).category = 1 := rfl
  have hcellA : T1.heap[T.heap.size]? = some (freshCell cX kX) := by rw [← hT1]; exact State.heap_pushCell_size _ _
  have d3' : decode c.code (pc + 3) = .ok (.dup, 1) := by rw [hb]; exact d3
  have d4' : decode c.code (pc + 4) = .ok (.ldc is, 2) := by rw [hb]; exact d4
  have hstr' : vk_R own is text sa s' := vk_R.warm hW0 hstr
  obtain ⟨U, hsteps, hrun, hend, hW, hsame, ce, hce, hO⟩ := X₁.ctorThrowS hexec htr (own := own) (cls := cls) (names := names) (ic := ic) hown' hcls hnames h (fun x hx => nomatch hx) hfX hkX hcellA (by rw [hhp, hT]; exact Nat.le_refl _) (msg := .ref sa) rfl
    (g := { method := m, pc := pc + 6, locals := ls, stack := .ref sa :: .ref T.heap.size :: .ref T.heap.size :: rest, locked := none }) rfl hsize rfl rfl (rest := rest) rfl
    (by rw [hb]; exact d6) (by rw [hb]; exact d9) hout hRframes (by simp only [List.map_cons, List.sum_cons, hcat]; omega) hlocks
  obtain ⟨f1, f2⟩ := vx_frame hsame
  rw [hhp] at f1 f2
  have hWs : s.WarmedH U.vm := State.WarmedH.trans hW0 hW
  have hcl : s.vm.findClass cls = some ce.cls := by
    have h9 := hO.cls
    rw [hvm] at h9
    exact h9
  have hall : s.sameButNew ({ U with vm := s.vm } : State) locs mc ms := by
    subst hA
    obtain ⟨e1, e2⟩ := hsame
    rw [State.setFrames_setFrames] at e1
    have h2 : (T.setVm s.vm).sameButNew ({ U with vm := s.vm } : State) [] (0 + 1) (0 + 6) := ⟨e1, e2⟩
    have h3 := X.same.trans h2
    rw [List.append_nil] at h3
    exact h3.mono hc hs
  refine ⟨U, ?_, .threw T.heap.size, hrun, hend, Or.inr ⟨T.heap.size, rfl, cls, ce, locs, hx U hWs.alike f1 (fun q hq => f2 q hq (fun z hz => nomatch hz)), hce, hO.vm, hcl, hWs, hall, hf⟩⟩
  refine st1 _ ?_
  show Steps p.tables e below (T1.setTop { method := m, pc := pc + 3, locals := ls, stack := .ref T.heap.size :: rest, locked := none }) _
  jvm_step X₁.here [X₁.here.top, hexec, d3', Value.category]
  exact X₁.ldcString hexec (own := own) (text := text) (index := is) (a := sa) hown' hstr'.1 hstr'.2
    (g := { method := m, pc := pc + 4, locals := ls, stack := .ref T.heap.size :: .ref T.heap.size :: rest, locked := none }) rfl d4' _ hsteps
/-- 'throw new E("text")', the text by a wide index -/
theorem vx_throwSW {cc : ByteArray} {pc : Nat} (hexec : p.tables.exec = Jvm.exec) (hb : c.code = cc) (hl : l.stackTraces = false) {own cls text : String} {names : List String} {ik is ic mc ms sa : Nat} {A : Nat → Prop}
    (hown : s.vm.findClass own = some m.cls) (hcls : Bundle.fit cls = true) (hnames : ∀ n ∈ names, Bundle.fit n = true)
    (hk : (Cond.classLink own ik cls).before args s = true) (hini : (Cond.initialized cls).before args s = true) (hstr : vk_R own is text sa s) (hat : ∀ w ∈ vx_atS own ic cls names, w.before args s = true)
    (hgood : ∀ w ∈ Cond.classLink own ik cls :: Cond.initialized cls :: vx_atS own ic cls names, vx_ot w = true)
    (hU : vx_Zq Bundle.tN "UNASSIGNED_STACK" Bundle.steD A s s.heap) (hN : vx_Zq Bundle.tN "SUPPRESSED_SENTINEL" Bundle.listD A s s.heap) (hS : va_S A s.heap H locs) (hsize : ls.size = c.maxLocals)
    (d0 : decode cc pc = .ok (.new ik, 3)) (d3 : decode cc (pc + 3) = .ok (.dup, 1)) (d4 : decode cc (pc + 4) = .ok (.ldc_w is, 3)) (d7 : decode cc (pc + 7) = .ok (.invokespecial ic, 3)) (d10 : decode cc (pc + 10) = .ok (.athrow, 1))
    (hout : ∀ x ∈ c.exceptionTable.toList, covers x (pc + 10) = false)
    (hRframes : names.length + 3 < R.frames) (hRlocals : (rest.map fun v => v.category).sum + (13 * (names.length + 1) + 43) ≤ R.locals) (hRcells : cells + 1 ≤ R.cells) (hRslots : slots + 6 ≤ R.slots) (hlocks : meth.locks = false)
    (hx : ∀ t : State, s.vm.Alike t.vm → H.size ≤ t.heap.size → (∀ q : Nat, q < H.size → t.heap[q]? = H[q]?) → XC cls s t)
    (hf : ∀ z ∈ locs, free z.base) (hc : cells + 1 ≤ mc) (hs : slots + 6 ≤ ms) :
    W p l e R s m args below meth c H locs cells slots (vx_MQ below Qc XC args s mc ms free) (F0 m pc ls rest) := by
  intro T hT X
  have htr : e.platform.stackTraces = false := (show e.platform.stackTraces = l.stackTraces by rw [X.admits.platform]).trans hl
  have Y := vx_rebase X (R' := { frames := R.frames, locals := R.locals, cells := 1, slots := 6 }) (Nat.le_refl _) (Nat.le_refl _) hRcells hRslots
  obtain ⟨s', hA⟩ : ∃ z, z = (T.setVm s.vm).setFrames (.invoking m args :: below) := ⟨_, rfl⟩
  rw [← hA] at Y
  have hvm : s'.vm = s.vm := by rw [hA]; rfl
  have hhp : s'.heap = H := by rw [hA]; exact hT
  have hW0 : s.WarmedH s'.vm := by rw [hvm]; exact State.WarmedH.refl s
  have hat' : ∀ w ∈ vx_atS own ic cls names, w.before args s' = true := fun w hw => vx_ot_at hW0 hvm.symm (hgood w (List.mem_cons_of_mem _ (List.mem_cons_of_mem _ hw))) (hat w hw)
  have hk' : (Cond.classLink own ik cls).before args s' = true := vx_ot_at hW0 hvm.symm (hgood _ List.mem_cons_self) hk
  have hini' : (Cond.initialized cls).before args s' = true := vx_ot_at hW0 hvm.symm (hgood _ (List.mem_cons_of_mem _ List.mem_cons_self)) hini
  have hU' : vx_Zq Bundle.tN "UNASSIGNED_STACK" Bundle.steD A s' s'.heap := by rw [hhp]; exact vx_Zq.moved hW0.alike (hU.kept hS.2.1)
  have hN' : vx_Zq Bundle.tN "SUPPRESSED_SENTINEL" Bundle.listD A s' s'.heap := by rw [hhp]; exact vx_Zq.moved hW0.alike (hN.kept hS.2.1)
  have h : ∀ w ∈ Bundle.ownAtoms own ic cls names, w.before args s' = true := vx_own hat' (vx_isRefq hU'.1) (vx_isRefq hN'.1) hU'.2.word hN'.2.word
  have hown' : s'.vm.findClass own = some m.cls := by rw [hvm]; exact hown
  have hins : (Cond.instantiable cls 6).before args s' = true := h _ (by simp [Bundle.ownAtoms])
  obtain ⟨vm₁, cX, kX, hfX, hkX, -, -, X₁, st1⟩ := Y.newCold hexec (own := own) (C := cls) (index := ik) (n := 6) hown' hk' hins hini'
    (g := F0 m pc ls rest) rfl (by rw [hb]; exact d0) (Nat.le_refl _) (Nat.le_refl _)
  generalize hT1 : (T.setVm vm₁).pushCell { cls := cX, slots := kX.instanceTypes.map defaultValue, vm := .none } = T1 at X₁ st1
  have hcat : (Value.ref T.heap.size).category = 1 := rfl
  have hcellA : T1.heap[T.heap.size]? = some (freshCell cX kX) := by rw [← hT1]; exact State.heap_pushCell_size _ _
  have d3' : decode c.code (pc + 3) = .ok (.dup, 1) := by rw [hb]; exact d3
  have d4' : decode c.code (pc + 4) = .ok (.ldc_w is, 3) := by rw [hb]; exact d4
  have hstr' : vk_R own is text sa s' := vk_R.warm hW0 hstr
  obtain ⟨U, hsteps, hrun, hend, hW, hsame, ce, hce, hO⟩ := X₁.ctorThrowS hexec htr (own := own) (cls := cls) (names := names) (ic := ic) hown' hcls hnames h (fun x hx => nomatch hx) hfX hkX hcellA (by rw [hhp, hT]; exact Nat.le_refl _) (msg := .ref sa) rfl
    (g := { method := m, pc := pc + 7, locals := ls, stack := .ref sa :: .ref T.heap.size :: .ref T.heap.size :: rest, locked := none }) rfl hsize rfl rfl (rest := rest) rfl
    (by rw [hb]; exact d7) (by rw [hb]; exact d10) hout hRframes (by simp only [List.map_cons, List.sum_cons, hcat]; omega) hlocks
  obtain ⟨f1, f2⟩ := vx_frame hsame
  rw [hhp] at f1 f2
  have hWs : s.WarmedH U.vm := State.WarmedH.trans hW0 hW
  have hcl : s.vm.findClass cls = some ce.cls := by
    have h9 := hO.cls
    rw [hvm] at h9
    exact h9
  have hall : s.sameButNew ({ U with vm := s.vm } : State) locs mc ms := by
    subst hA
    obtain ⟨e1, e2⟩ := hsame
    rw [State.setFrames_setFrames] at e1
    have h2 : (T.setVm s.vm).sameButNew ({ U with vm := s.vm } : State) [] (0 + 1) (0 + 6) := ⟨e1, e2⟩
    have h3 := X.same.trans h2
    rw [List.append_nil] at h3
    exact h3.mono hc hs
  refine ⟨U, ?_, .threw T.heap.size, hrun, hend, Or.inr ⟨T.heap.size, rfl, cls, ce, locs, hx U hWs.alike f1 (fun q hq => f2 q hq (fun z hz => nomatch hz)), hce, hO.vm, hcl, hWs, hall, hf⟩⟩
  refine st1 _ ?_
  show Steps p.tables e below (T1.setTop { method := m, pc := pc + 3, locals := ls, stack := .ref T.heap.size :: rest, locked := none }) _
  jvm_step X₁.here [X₁.here.top, hexec, d3', Value.category]
  exact X₁.ldcStringW hexec (own := own) (text := text) (index := is) (a := sa) hown' hstr'.1 hstr'.2
    (g := { method := m, pc := pc + 4, locals := ls, stack := .ref T.heap.size :: .ref T.heap.size :: rest, locked := none }) rfl d4' _ hsteps
end Ends
section Bodies
variable {l : Launch}
theorem vx_ofW {y : MethodName} {ws ws' : List Cond} {rm : Room} {Pc : Array Value → State → Prop} {Qc : Array Value → State → Outcome → State → Prop} {XC : String → State → State → Prop} {mc ms : Nat} {free : Addr → Prop} {cc : ByteArray} {maxL : Nat} {ret : Option FieldType}
    (hy : plainName y.cls = true) (hw : ws = Cond.code y cc maxL ret :: ws')
    (body : ∀ p e s m args below meth c s₁, BodyLoose p l y (headSpec ws rm) cc maxL ret e s m args below meth c s₁ → c.maxLocals = maxL → (∀ x ∈ c.exceptionTable.toList, False) → Pc args s →
      W p l e (headSpec ws rm).room s m args below meth c s.heap [] 0 0 (vx_MQ below Qc XC args s mc ms free) (entryFrame m args maxL)) : vx_Met l y ws rm Pc Qc XC mc ms free := by
  refine MetFree.of_bodyS (code := cc) (maxLocals := maxL) (ret := ret) hy ?_ ?_
  · intro args s m h hn
    obtain ⟨meth, c, h1, h2, h3, h4, h5, h6, -, -⟩ := Cond.code_spec hn (atoms_spec (ws := ws) h _ (by rw [hw]; exact List.mem_cons_self))
    exact ⟨meth, c, h1, h2, h3, h4, h5, h6⟩
  · intro p e s m args below meth c s₁ B hml hP _
    have hh0 : s₁.heap = s.heap := by rw [B.state]; rfl
    have ht : ∀ x ∈ c.exceptionTable.toList, False := by
      obtain ⟨meth9, c9, h1, h2, -, -, -, -, h7, -⟩ := Cond.code_spec B.named (atoms_spec (ws := ws) B.pre _ (by rw [hw]; exact List.mem_cons_self))
      cases Option.some.inj (h1.symm.trans B.method)
      cases Option.some.inj (h2.symm.trans (Stand.of_body B).code)
      intro x hx
      rw [Array.isEmpty_iff.mp h7] at hx
      cases hx
    obtain ⟨t, a1, o, b1, b2, b3⟩ := body p e s m args below meth c s₁ B hml ht hP s₁ hh0 (Stand.of_body B)
    exact ⟨t, o, a1, b1, b2, b3⟩
/-- the table of a body with handlers -/
theorem vx_table {p : Program} {x y : MethodName} {S : Spec} {cc bytes : ByteArray} {maxL maxL' : Nat} {ret ret' : Option FieldType} {e : Env} {s s₁ : State} {m : MethodId} {args : Array Value} {below : List Frame} {meth : Method} {c : Code} {hh : List (Nat × Nat × Nat × Nat)}
    (B : BodyLoose p l y S cc maxL ret e s m args below meth c s₁) (h : (Cond.codeWith y bytes maxL' ret' hh).before args s = true) : c.exceptionTable.toList = tableOf hh := by
  obtain ⟨m9, meth9, c9, hn9, h1, h2, -, -, h6, -⟩ := Cond.codeWith_spec h
  cases Option.some.inj (hn9.symm.trans B.named)
  cases Option.some.inj (h1.symm.trans B.method)
  cases Option.some.inj (h2.symm.trans (Stand.of_body B).code)
  rw [← h6, table_eq]
end Bodies
end VXA
/-! ===== END ===== -/
/-! ===== BEGIN a static call of a method with an exception table ===== -/
section VXS
variable {p : Program} {l : Launch} {e : Env} {R : Room} {s : State} {m : MethodId} {args : Array Value} {below : List Frame} {meth : Method} {c : Code} {T : State} {H : Heap} {locs : List Loc} {cells slots : Nat}
abbrev vx_CSW (R : Room) (s : State) (args : Array Value) (own : String) (index : Nat) (y : MethodName) (bytes : ByteArray) (maxL : Nat) (ret : Option FieldType) (hh : List (Nat × Nat × Nat × Nat)) (ws : List Cond) (rm : Room) (mc ms n : Nat) : Prop :=
  (rm.cells = mc ∧ rm.slots = ms ∧ rm.frames + 1 ≤ R.frames ∧ 8 + (maxL + 11) + rm.locals ≤ R.locals ∧ (∀ w ∈ ws, ∀ (a' : Array Value) (U : State), s.WarmedH U.vm → w.before a' U = true) ∧ Cond.codeWith y bytes maxL ret hh ∈ ws) ∧
  (Cond.codeWith y bytes maxL ret hh).before args s = true ∧ (Cond.initialized y.cls).before args s = true ∧ (y.cls ≠ "java/lang/invoke/MethodHandle" ∧ y.cls ≠ "java/lang/invoke/VarHandle") ∧
  (∀ sig, parseMethodDescriptor y.desc = some sig → n = sig.parameters.length) ∧ (Cond.methodLink own index y).before args s = true ∧ (Cond.static y).before args s = true
theorem vx_cwSW {own : String} {index maxL mc ms : Nat} {y : MethodName} {bytes : ByteArray} {ret : Option FieldType} {hh : List (Nat × Nat × Nat × Nat)} {Ts ws ws' : List Cond} {rm : Room} (n : Nat) (ht : ∀ w ∈ Ts, w.before args s = true) (hT : GoodIn Ts (va_wsS own index y ws)) (hw : ws = Cond.codeWith y bytes maxL ret hh :: ws') (hrc : rm.cells = mc) (hrs : rm.slots = ms)
    (hd : y.cls ≠ "java/lang/invoke/MethodHandle" ∧ y.cls ≠ "java/lang/invoke/VarHandle" ∧ (parseMethodDescriptor y.desc).map (fun d => d.parameters.length) = some n) (hR : rm.frames + 1 ≤ R.frames ∧ 8 + (maxL + 11) + rm.locals ≤ R.locals) :
    vx_CSW R s args own index y bytes maxL ret hh ws rm mc ms n := by
  have ok : ∀ w ∈ va_wsS own index y ws, w.before args s = true := fun w h => ht w (hT w h).1
  have hG : GoodIn Ts ws := fun w h => hT w (by unfold va_wsS; exact List.mem_append_right _ h)
  have hc : Cond.codeWith y bytes maxL ret hh ∈ ws := by rw [hw]; exact List.mem_cons_self
  refine ⟨⟨hrc, hrs, hR.1, hR.2, pay_in ht hG, hc⟩, ht _ (hG _ hc).1, ok _ (by simp [va_wsS]), ⟨hd.1, hd.2.1⟩, fun sig h => ?_, ok _ (by simp [va_wsS]), ok _ (by simp [va_wsS])⟩
  have h2 := hd.2.2
  rw [h] at h2
  exact (Option.some.inj h2).symm
theorem vx_callSW (X : Stand p l e R s m args below meth c T locs cells slots) (hexec : p.tables.exec = Jvm.exec) {own : String} {index : Nat} {y : MethodName} {bytes : ByteArray} {maxL : Nat} {ret : Option FieldType} {hh : List (Nat × Nat × Nat × Nat)}
    (hown : s.vm.findClass own = some m.cls) (hlink : (Cond.methodLink own index y).before args s = true) (hstat : (Cond.static y).before args s = true) (hinit : (Cond.initialized y.cls).before args s = true)
    (hcode : (Cond.codeWith y bytes maxL ret hh).before args s = true) (hy : y.cls ≠ "java/lang/invoke/MethodHandle" ∧ y.cls ≠ "java/lang/invoke/VarHandle")
    {W9 : Nat} {Pre : Pt → Array Value → Prop} {Post : Pt → Array Value → Option Value → Pt → Prop} (hK : Back l R p e below s args y 3 W9 Pre Post)
    {g : JFrame} (hg : g.method = m) (hsize : g.locals.size = c.maxLocals) {argsL rest : List Value} (hlen : ∀ sig, parseMethodDescriptor y.desc = some sig → argsL.length = sig.parameters.length)
    (hstack : g.stack = argsL.reverse ++ rest) (hW : 2 * g.monitorRoom + (rest.map fun v => v.category).sum ≤ W9) (hdg : decode c.code g.pc = .ok (.invokestatic index, 3))
    (hpre : ∀ vm₁, s.WarmedH vm₁ → Pre ⟨T.setVm vm₁, locs, cells, slots⟩ argsL.toArray) :
    ∃ (v : Option Value) (vm₁ : Vm) (B : Pt), s.WarmedH vm₁ ∧ Stand p l e R s m args below meth c B.U B.locs B.cells B.slots ∧ Post ⟨T.setVm vm₁, locs, cells, slots⟩ argsL.toArray v B ∧
      ∀ target, Steps p.tables e below (B.U.setTop { g with pc := g.pc + 3, stack := v.toList ++ rest }) target → Steps p.tables e below (T.setTop g) target := by
  obtain ⟨mk, methM, cM, hnamed, hmethM, -, -, -, -, -, -, hsigM⟩ := Cond.codeWith_spec hcode
  have hstatic : methM.isStatic = true := Cond.static_spec hnamed hmethM hstat
  obtain ⟨kP, hkP, -⟩ := className_of_methodNamed hnamed
  have hinitP : kP.init = .initialized := Cond.initialized_spec (findClass_of_methodNamed hnamed) hkP hinit
  obtain ⟨vm₁, X₁, hstep₁⟩ := X.invokestatic hexec hown hlink hnamed hmethM hstatic hkP hinitP hy (g := g) hg (argsL := argsL) (rest := rest) (hlen _ hsigM) hstack hdg
  obtain ⟨v, B, X', hpost, hsteps⟩ := hK m meth c ⟨T.setVm vm₁, locs, cells, slots⟩ { g with stack := rest } (.invokestatic index) mk argsL.toArray X₁ hg hsize hdg hW (X₁.named hnamed) (hpre vm₁ X₁.warmed)
  exact ⟨v, vm₁, B, X₁.warmed, X', hpost, fun target h => hstep₁ _ fun acts => by rw [doInvoke_state]; exact hsteps.trans h⟩
theorem vx_runSW {y : MethodName} {bytes cc : ByteArray} {maxL nL mc ms n index : Nat} {ret : Option FieldType} {hh : List (Nat × Nat × Nat × Nat)} {ws : List Cond} {rm : Room} {Pc : Array Value → State → Prop} {Qc : Array Value → State → Outcome → State → Prop} {free : Addr → Prop} {Ts : List Cond} {own : String} {As rest : List Value} {g : JFrame}
    (S : CallFix p m c cc nL s args Ts own) (hM : Met l y ws rm Pc Qc mc ms free) (cw : vx_CSW R s args own index y bytes maxL ret hh ws rm mc ms n) (hp : PreS s H Pc As)
    (hg : g.method = m) (hn : As.length = n) (hsize : g.locals.size = nL) (hstack : g.stack = As.reverse ++ rest) (hW : 2 * g.monitorRoom + (rest.map fun v => v.category).sum ≤ 8) (hdg : decode cc g.pc = .ok (.invokestatic index, 3)) (hf : cells + mc ≤ R.cells ∧ slots + ms ≤ R.slots) :
    va_Run p l e R s m args below meth c H locs cells slots mc ms g rest (Qc As.toArray) (free) := by
  obtain ⟨⟨hrc, hrs, hfr, hlo, hws, hcw⟩, hcode, hini, hy, hlen, hl, hstt⟩ := cw
  have hK : Back l R p e below s args y 3 8 (PreOf R mc ms Pc) (PostOf Qc mc ms free) := va_backW (hh := hh) (bytes := bytes) (maxL := maxL) (ret := ret) hM hp.1 hrc hrs hfr hlo hws hcw (fun a' U hW => word_at hW (Or.inl (by first | rfl | simp [Cond.onTables, Cond.keeps, Cond.steady])) hini)
  obtain ⟨hx, hb, hml, ho, -⟩ := S
  intro T hT X
  obtain ⟨v, vm₁, ⟨U', l2, c2, s2⟩, hW₁, X', ⟨g', mk, t, L, e1, e2, hq, h1, hL, h2, h3⟩, st⟩ := vx_callSW X hx (hh := hh) (bytes := bytes) (maxL := maxL) (ret := ret) ho hl hstt hini hcode hy hK hg (hsize.trans hml.symm) (argsL := As) (rest := rest) (fun sig h => hn.trans (hlen sig h)) hstack hW (by rw [hb]; exact hdg)
    (fun vm₁ hW₁ => ⟨hf.1, hf.2, hp.2 (T.setVm vm₁) hT hW₁⟩)
  dsimp only [Pt.U, Pt.locs, Pt.cells, Pt.slots] at X' e1 e2 h1 h2 h3 st
  subst h1; subst h2; subst h3
  exact ⟨v, (T.setVm vm₁).calling g' mk As.toArray, t, U', L, hT, X', hL, e1, e2, hq, st⟩
/-- not caught here, past rows that name other classes: it goes on to the caller -/
theorem vx_outP {p : Program} {l : Launch} {e : Env} {R : Room} {s : State} {m : MethodId} {args : Array Value} {below : List Frame} {meth : Method} {c : Code} {H : Heap} {locs : List Loc} {cells slots : Nat} {free : Addr → Prop} {ls : Array Slot} {rest : List Value} {Qc : Array Value → State → Outcome → State → Prop} {XC : String → State → State → Prop}
    {pc : Nat} {own E : String} {ce : Cell} {q : Addr} {mc ms : Nat} (hown : s.vm.findClass own = some m.cls) (hlocks : meth.locks = false)
    (hpass : ∀ z ∈ c.exceptionTable.toList, covers z pc = false ∨ (z.catchType ≠ 0 ∧ ∃ nm : String, (Cond.classLink own z.catchType nm).before args s = true ∧ va_Nc E nm s)) (hcell : H[q]? = some ce) (hv : ce.vm = .none) (hcl : s.vm.findClass E = some ce.cls)
    (hx : ∀ t : State, t.heap = H → s.vm.Alike t.vm → XC E s t) (hf : ∀ z ∈ locs, free z.base) (hc : cells ≤ mc) (hs : slots ≤ ms) :
    vx_W p l e R s m args below meth c H locs cells slots (vx_MQ below Qc XC args s mc ms free) (F0 m pc ls rest) q := by
  intro T hT X
  have hpl : e.platform.magicAccessors = ({} : Platform).magicAccessors := by rw [X.admits.platform]
  obtain ⟨vm', hW', X', st⟩ := X.outThrough hlocks q (g := F0 m pc ls rest) rfl rfl rfl (cell := ce) (by rw [hT]; exact hcell) (by rw [hv]; rfl)
    (by obtain ⟨k9, h9, -⟩ := Vm.findClass_spec hcl; exact ⟨k9, h9⟩) (fun z hz => by
      rcases hpass z hz with h | ⟨hz0, nm, hl1, hn1⟩
      · exact Or.inl h
      · obtain ⟨c6, hc6, hcl6⟩ := Cond.classLink_spec hown hl1 e.platform hpl
        obtain ⟨a8, b8, h1, h2, h3⟩ := hn1
        cases Option.some.inj (h1.symm.trans hcl)
        cases Option.some.inj (h2.symm.trans hc6)
        exact Or.inr ⟨hz0, _, hcl6, h3⟩)
  obtain ⟨g₀, hfr⟩ := X'.frames_eq
  have hcell9 : ((T.setVm vm').setFrames (.throwing q :: below)).heap[q]? = some ce := by
    show T.heap[q]? = some ce
    rw [hT]; exact hcell
  have hend : Ended ((T.setVm vm').setFrames (.throwing q :: below)) below (.threw q) := State.frames_setFrames _ (State.cur_lt_of_frames hfr)
  refine ⟨(T.setVm vm').setFrames (.throwing q :: below), ?_, .threw q, X'.here.running, hend, Or.inr ⟨q, rfl, E, ce, locs, hx _ hT (X'.ends _).1.alike, hcell9, hv, hcl, (X'.ends _).1, (X'.ends _).2.mono hc hs, hf⟩⟩
  rw [X.pushThrowing_eq]
  exact st
/-- a thing of a world lies in the heap -/
theorem vx_lt {D : va_G} {cl : List vw_C} {ws : va_W} {H1 : Heap} (h : va_P D cl ws H1) {k : Nat} {q : Nat × va_E} (hk : ws[k]? = some q) : q.1 < H1.size := (h k q hk).lt
end VXS
/-! ===== END ===== -/
/-! ===== BEGIN methods with a table of their own: called by a name, returning or throwing ===== -/
section VXH
/-! vx_backW, vx_callVX, vx_callSX, vx_callVW, vx_runVW, vx_runVX, vx_runSX, vx_ofWH follow the same proofs as their sisters above (Free/Laws.lean, Shelf42/LK1.lean); vx_outP calls Shelf42/NT130.lean (outThrough). -/
section
variable {l : Launch} {R : Room} {p : Program} {e : Env} {below : List Frame} {s : State} {sargs : Array Value} {y : MethodName} {len W9 : Nat}
theorem vx_backW {ws : List Cond} {rm : Room} {Pc : Array Value → State → Prop} {Qc : Array Value → State → Outcome → State → Prop} {XC : String → State → State → Prop} {mc ms : Nat} {free : Addr → Prop} {bytes : ByteArray} {maxL : Nat} {ret : Option FieldType} {hh : List (Nat × Nat × Nat × Nat)}
    (hM : vx_Met l y ws rm Pc Qc XC mc ms free) (hblind : FrameBlind Pc) (hrc : rm.cells = mc) (hrs : rm.slots = ms)
    (hframes : rm.frames + 1 ≤ R.frames) (hlocals : W9 + (maxL + 11) + rm.locals ≤ R.locals)
    (hws : ∀ w ∈ ws, ∀ a' U, s.WarmedH U.vm → w.before a' U = true) (hcode : Cond.codeWith y bytes maxL ret hh ∈ ws) (hinit : ∀ a' U, s.WarmedH U.vm → (Cond.initialized y.cls).before a' U = true) :
    vx_Back l R p e below s sargs y len W9 (PreOf R mc ms Pc) (PostOf Qc mc ms free) (vx_Post XC mc ms free) := by
  intro m meth c A g ig mk a X hg hsize hdg hW hn hp
  have h1 : (headSpec ws rm).pre.before a A.U = true := atoms_intro fun w hw => hws w hw _ _ X.warmed
  have h2 : (Cond.codeWith y bytes maxL ret hh).before a A.U = true := hws _ hcode _ _ X.warmed
  have h3 : (Cond.initialized y.cls).before a A.U = true := hinit _ _ X.warmed
  have h4 : A.cells + (headSpec ws rm).room.cells ≤ R.cells := by rw [show (headSpec ws rm).room.cells = mc from hrc]; exact hp.1
  have h5 : A.slots + (headSpec ws rm).room.slots ≤ R.slots := by rw [show (headSpec ws rm).room.slots = ms from hrs]; exact hp.2.1
  have hPc : Pc a (A.U.calling g mk a) := hblind _ _ _ _ hp.2.2
  obtain ⟨U, Ls, c0, s0⟩ := A
  dsimp only [Pt.U, Pt.locs, Pt.cells, Pt.slots] at h1 h2 h3 h4 h5 X hn hPc ⊢
  obtain ⟨m9, methY, cY, hn9, hmY, hcY, -, hlY, -⟩ := Cond.codeWith_spec h2
  cases Option.some.inj (hn9.symm.trans hn)
  obtain ⟨kY, hkY, -⟩ := className_of_methodNamed hn
  have hinitY : kY.init = .initialized := Cond.initialized_spec (findClass_of_methodNamed hn) hkY h3
  have h : At U g.method c below := by rw [hg]; exact X.here
  have hlocals9 : W9 + (maxL + 11) + (headSpec ws rm).room.locals ≤ R.locals := hlocals
  have happ : (headSpec ws rm).appliesLoose y e.platform (U.calling g mk a) = true :=
    Spec.appliesLoose_calling (g := g) h hdg hn hkY hinitY
      (X.room_calling (g := g) (R' := (headSpec ws rm).room) hsize hmY hcY hframes (by rw [hlY]; omega) h4 h5) h1
  obtain ⟨mid, hmid⟩ := h.above
  have hfr : (U.setTop g).frames = (.java g :: mid) ++ below := by rw [State.frames_setTop' g h.top, hmid]; rfl
  obtain ⟨o, s₂, hsteps, -, hend, hq⟩ := Steps.callFree hM p X.admits X.cas X.clock (acts := []) hfr happ hPc trivial
  have hq' : vx_Q Qc XC mc ms free a (U.calling g mk a) o s₂ := hq
  rw [State.frames_setTop' g h.top] at hend
  obtain ⟨g₀, hg0⟩ := Option.isSome_iff_exists.mp h.top
  obtain ⟨r, hr⟩ := State.topJava?_eq_some.mp hg0
  have hr' : (({ U with heap := s₂.heap, slotsUsed := s₂.slotsUsed } : State).setVm s₂.vm).frames = .java g₀ :: r := hr
  rcases hq' with ⟨hqc, L, hfe, hL⟩ | ⟨q, rfl, E, ce, L, hx, hce, hcv, hcl, hW₂, hsm, hL⟩
  · obtain ⟨⟨v, rfl⟩, hW₂, e2, q2, q3, q4, q5, q6⟩ := id hfe
    have e3 : s₂ = ({ (U.calling g mk a).setFrames s₂.frames with heap := s₂.heap, slotsUsed := s₂.slotsUsed } : State).setVm s₂.vm := by
      have : s₂ = ({ s₂ with vm := (U.calling g mk a).vm } : State).setVm s₂.vm := rfl
      rw [e2] at this
      exact this
    obtain ⟨c₂, i₂, len₂, hc₂, hd₂, hf₂⟩ := hend
    have hW' : U.WarmedH s₂.vm := hW₂
    have hcc : c₂ = c := by
      have h1 : s₂.code? g.method = U.code? g.method := by
        rw [State.code?_eq, State.code?_eq, hW'.alike.method?]
      exact Option.some.inj (hc₂.symm.trans (h1.trans h.code))
    subst hcc
    have hlen : len₂ = len := by rw [hdg] at hd₂; cases hd₂; rfl
    subst hlen
    have hs₂ : s₂ = (({ U with heap := s₂.heap, slotsUsed := s₂.slotsUsed } : State).setVm s₂.vm).setTop { g with pc := g.pc + len₂, stack := v.toList ++ g.stack } := by
      refine e3.trans ?_
      rw [hf₂, State.calling_eq h.top, State.setFrames_setFrames, State.setTop_of_frames _ hr', hr]
      rfl
    have hsame : U.sameButNew ({ U with heap := s₂.heap, slotsUsed := s₂.slotsUsed } : State) L mc ms := by
      refine ⟨?_, q2, q3, q4, q5, q6⟩
      obtain ⟨t, ht, -⟩ := State.frames_cons hr
      show ({ U with heap := s₂.heap, slotsUsed := s₂.slotsUsed } : State) = { U.setFrames U.frames with heap := s₂.heap, slotsUsed := s₂.slotsUsed }
      rw [State.setFrames_self ht]
    subst hg
    refine Or.inl ⟨v, ⟨(({ U with heap := s₂.heap, slotsUsed := s₂.slotsUsed } : State).setVm s₂.vm), Ls ++ L, c0 + mc, s0 + ms⟩,
      ⟨X.admits, X.cas, X.clock, X.frames, X.room, X.hears, X.method, X.code, (X.here.setHeapUsed s₂.heap s₂.slotsUsed).setVm hW'.alike, X.tail, State.WarmedH.trans X.warmed hW', X.limits, X.bytes, X.same.trans (hsame.setVm s.vm)⟩,
      ⟨g, mk, s₂, L, rfl, rfl, hqc, rfl, hL, rfl, rfl⟩, ?_⟩
    show Steps p.tables e below _ ((({ U with heap := s₂.heap, slotsUsed := s₂.slotsUsed } : State).setVm s₂.vm).setTop { g with pc := g.pc + len₂, stack := v.toList ++ g.stack })
    rw [← hs₂]
    exact hsteps
  · obtain ⟨e2, q2, q3, q4, q5, q6⟩ := id hsm
    have e3 : s₂ = ({ (U.calling g mk a).setFrames s₂.frames with heap := s₂.heap, slotsUsed := s₂.slotsUsed } : State).setVm s₂.vm := by
      have : s₂ = ({ s₂ with vm := (U.calling g mk a).vm } : State).setVm s₂.vm := rfl
      rw [e2] at this
      exact this
    have hf₂ : s₂.frames = .throwing q :: .java g :: U.frames.tail := hend
    have hW' : U.WarmedH s₂.vm := hW₂
    have hs₂ : s₂ = ((({ U with heap := s₂.heap, slotsUsed := s₂.slotsUsed } : State).setVm s₂.vm).setTop g).pushFrame (.throwing q) := by
      refine e3.trans ?_
      rw [hf₂, State.calling_eq h.top, State.setFrames_setFrames, State.pushFrame, State.frames_setTop _ hr', State.setTop_of_frames _ hr', State.setFrames_setFrames, hr]
      rfl
    have hsame : U.sameButNew ({ U with heap := s₂.heap, slotsUsed := s₂.slotsUsed } : State) L mc ms := by
      refine ⟨?_, q2, q3, q4, q5, q6⟩
      obtain ⟨t, ht, -⟩ := State.frames_cons hr
      show ({ U with heap := s₂.heap, slotsUsed := s₂.slotsUsed } : State) = { U.setFrames U.frames with heap := s₂.heap, slotsUsed := s₂.slotsUsed }
      rw [State.setFrames_self ht]
    subst hg
    refine Or.inr ⟨q, ⟨(({ U with heap := s₂.heap, slotsUsed := s₂.slotsUsed } : State).setVm s₂.vm), Ls ++ L, c0 + mc, s0 + ms⟩,
      ⟨X.admits, X.cas, X.clock, X.frames, X.room, X.hears, X.method, X.code, (X.here.setHeapUsed s₂.heap s₂.slotsUsed).setVm hW'.alike, X.tail, State.WarmedH.trans X.warmed hW', X.limits, X.bytes, X.same.trans (hsame.setVm s.vm)⟩,
      ⟨g, mk, s₂, L, E, ce, rfl, rfl, hx, hce, hcv, hcl, rfl, hL, rfl, rfl⟩, ?_⟩
    show Steps p.tables e below _ (((({ U with heap := s₂.heap, slotsUsed := s₂.slotsUsed } : State).setVm s₂.vm).setTop g).pushFrame (.throwing q))
    rw [← hs₂]
    exact hsteps
end
variable {p : Program} {l : Launch} {e : Env} {R : Room} {s : State} {m : MethodId} {args : Array Value} {below : List Frame} {meth : Method} {c : Code} {T : State} {H : Heap} {locs : List Loc} {cells slots : Nat}
theorem vx_callVX (X : Stand p l e R s m args below meth c T locs cells slots) (hexec : p.tables.exec = Jvm.exec) {own C : String} {index : Nat} {y : MethodName} {bytes : ByteArray} {maxL : Nat} {ret : Option FieldType} {hh : List (Nat × Nat × Nat × Nat)}
    (hown : s.vm.findClass own = some m.cls) (hlink : (Cond.methodLink own index y).before args s = true) (hinst : (Cond.instanceMethod y).before args s = true) (hsel : (Cond.selects C y y).before args s = true)
    (hcode : (Cond.codeWith y bytes maxL ret hh).before args s = true) (hy : y.cls ≠ "java/lang/invoke/MethodHandle" ∧ y.cls ≠ "java/lang/invoke/VarHandle")
    {W9 : Nat} {Pre : Pt → Array Value → Prop} {Post : Pt → Array Value → Option Value → Pt → Prop} {PostX : Pt → Array Value → Addr → Pt → Prop} (hK : vx_Back l R p e below s args y 3 W9 Pre Post PostX)
    {b : Addr} {cellB : Cell} (hcell : T.heap[b]? = some cellB) (hobj : cellB.vm.isStatics = false) (hcls : s.vm.findClass C = some cellB.cls)
    {g : JFrame} (hg : g.method = m) (hsize : g.locals.size = c.maxLocals) {argsL rest : List Value} (hlen : ∀ sig, parseMethodDescriptor y.desc = some sig → argsL.length = sig.parameters.length)
    (hstack : g.stack = argsL.reverse ++ .ref b :: rest) (hW : 2 * g.monitorRoom + (rest.map fun v => v.category).sum ≤ W9) (hdg : decode c.code g.pc = .ok (.invokevirtual index, 3))
    (hpre : ∀ vm₁, s.WarmedH vm₁ → Pre ⟨T.setVm vm₁, locs, cells, slots⟩ (Value.ref b :: argsL).toArray) :
    (∃ (v : Option Value) (vm₁ : Vm) (B : Pt), s.WarmedH vm₁ ∧ Stand p l e R s m args below meth c B.U B.locs B.cells B.slots ∧ Post ⟨T.setVm vm₁, locs, cells, slots⟩ (Value.ref b :: argsL).toArray v B ∧
      ∀ target, Steps p.tables e below (B.U.setTop { g with pc := g.pc + 3, stack := v.toList ++ rest }) target → Steps p.tables e below (T.setTop g) target) ∨
    (∃ (q : Addr) (vm₁ : Vm) (B : Pt), s.WarmedH vm₁ ∧ Stand p l e R s m args below meth c B.U B.locs B.cells B.slots ∧ PostX ⟨T.setVm vm₁, locs, cells, slots⟩ (Value.ref b :: argsL).toArray q B ∧
      Steps p.tables e below (T.setTop g) ((B.U.setTop { g with stack := rest }).pushFrame (.throwing q))) := by
  obtain ⟨mk, methM, hnamed, hmethM, hstM, habM⟩ := Cond.instanceMethod_spec hinst
  obtain ⟨m8, methM', cM, hn8, hmethM', -, -, -, -, -, -, hsigM⟩ := Cond.codeWith_spec hcode
  cases Option.some.inj (hn8.symm.trans hnamed)
  cases hmethM.symm.trans hmethM'
  obtain ⟨c2, r2, m2, q1, q2, q3, q4, kP, hkP, hkPi⟩ := Cond.selects_spec hsel
  cases hcls.symm.trans q1
  cases (State.methodFound?_of_named hnamed hy).symm.trans q2
  cases hnamed.symm.trans q3
  have hselP : selectMethod e.platform s.vm cellB.cls mk = .method mk := by rw [Launch.admits_selectMethod X.admits]; exact q4
  obtain ⟨vm₁, X₁, hstep₁⟩ := X.invokevirtual hexec hown hlink hnamed hmethM hstM hkP hkPi hy (a := b) (cell := cellB) hcell
    (fun z h => by rw [h] at hobj; cases hobj) hselP hmethM habM hkP hkPi (g := g) hg (argsL := argsL) (rest := rest) (hlen _ hsigM) hstack hdg
  rcases hK m meth c ⟨T.setVm vm₁, locs, cells, slots⟩ { g with stack := rest } (.invokevirtual index) mk (Value.ref b :: argsL).toArray X₁ hg hsize hdg hW (X₁.named hnamed) (hpre vm₁ X₁.warmed) with ⟨v, B, X', hpost, hsteps⟩ | ⟨q, B, X', hpost, hsteps⟩
  · exact Or.inl ⟨v, vm₁, B, X₁.warmed, X', hpost, fun target h => hstep₁ _ fun acts => by rw [doInvoke_state]; exact hsteps.trans h⟩
  · exact Or.inr ⟨q, vm₁, B, X₁.warmed, X', hpost, hstep₁ _ fun acts => by rw [doInvoke_state]; exact hsteps⟩
theorem vx_callSX (X : Stand p l e R s m args below meth c T locs cells slots) (hexec : p.tables.exec = Jvm.exec) {own : String} {index : Nat} {y : MethodName} {bytes : ByteArray} {maxL : Nat} {ret : Option FieldType} {hh : List (Nat × Nat × Nat × Nat)}
    (hown : s.vm.findClass own = some m.cls) (hlink : (Cond.methodLink own index y).before args s = true) (hstat : (Cond.static y).before args s = true) (hinit : (Cond.initialized y.cls).before args s = true)
    (hcode : (Cond.codeWith y bytes maxL ret hh).before args s = true) (hy : y.cls ≠ "java/lang/invoke/MethodHandle" ∧ y.cls ≠ "java/lang/invoke/VarHandle")
    {W9 : Nat} {Pre : Pt → Array Value → Prop} {Post : Pt → Array Value → Option Value → Pt → Prop} {PostX : Pt → Array Value → Addr → Pt → Prop} (hK : vx_Back l R p e below s args y 3 W9 Pre Post PostX)
    {g : JFrame} (hg : g.method = m) (hsize : g.locals.size = c.maxLocals) {argsL rest : List Value} (hlen : ∀ sig, parseMethodDescriptor y.desc = some sig → argsL.length = sig.parameters.length)
    (hstack : g.stack = argsL.reverse ++ rest) (hW : 2 * g.monitorRoom + (rest.map fun v => v.category).sum ≤ W9) (hdg : decode c.code g.pc = .ok (.invokestatic index, 3))
    (hpre : ∀ vm₁, s.WarmedH vm₁ → Pre ⟨T.setVm vm₁, locs, cells, slots⟩ argsL.toArray) :
    (∃ (v : Option Value) (vm₁ : Vm) (B : Pt), s.WarmedH vm₁ ∧ Stand p l e R s m args below meth c B.U B.locs B.cells B.slots ∧ Post ⟨T.setVm vm₁, locs, cells, slots⟩ argsL.toArray v B ∧
      ∀ target, Steps p.tables e below (B.U.setTop { g with pc := g.pc + 3, stack := v.toList ++ rest }) target → Steps p.tables e below (T.setTop g) target) ∨
    (∃ (q : Addr) (vm₁ : Vm) (B : Pt), s.WarmedH vm₁ ∧ Stand p l e R s m args below meth c B.U B.locs B.cells B.slots ∧ PostX ⟨T.setVm vm₁, locs, cells, slots⟩ argsL.toArray q B ∧
      Steps p.tables e below (T.setTop g) ((B.U.setTop { g with stack := rest }).pushFrame (.throwing q))) := by
  obtain ⟨mk, methM, cM, hnamed, hmethM, -, -, -, -, -, -, hsigM⟩ := Cond.codeWith_spec hcode
  have hstatic : methM.isStatic = true := Cond.static_spec hnamed hmethM hstat
  obtain ⟨kP, hkP, -⟩ := className_of_methodNamed hnamed
  have hinitP : kP.init = .initialized := Cond.initialized_spec (findClass_of_methodNamed hnamed) hkP hinit
  obtain ⟨vm₁, X₁, hstep₁⟩ := X.invokestatic hexec hown hlink hnamed hmethM hstatic hkP hinitP hy (g := g) hg (argsL := argsL) (rest := rest) (hlen _ hsigM) hstack hdg
  rcases hK m meth c ⟨T.setVm vm₁, locs, cells, slots⟩ { g with stack := rest } (.invokestatic index) mk argsL.toArray X₁ hg hsize hdg hW (X₁.named hnamed) (hpre vm₁ X₁.warmed) with ⟨v, B, X', hpost, hsteps⟩ | ⟨q, B, X', hpost, hsteps⟩
  · exact Or.inl ⟨v, vm₁, B, X₁.warmed, X', hpost, fun target h => hstep₁ _ fun acts => by rw [doInvoke_state]; exact hsteps.trans h⟩
  · exact Or.inr ⟨q, vm₁, B, X₁.warmed, X', hpost, hstep₁ _ fun acts => by rw [doInvoke_state]; exact hsteps⟩
theorem vx_callVW (X : Stand p l e R s m args below meth c T locs cells slots) (hexec : p.tables.exec = Jvm.exec) {own C : String} {index : Nat} {y : MethodName} {bytes : ByteArray} {maxL : Nat} {ret : Option FieldType} {hh : List (Nat × Nat × Nat × Nat)}
    (hown : s.vm.findClass own = some m.cls) (hlink : (Cond.methodLink own index y).before args s = true) (hinst : (Cond.instanceMethod y).before args s = true) (hsel : (Cond.selects C y y).before args s = true)
    (hcode : (Cond.codeWith y bytes maxL ret hh).before args s = true) (hy : y.cls ≠ "java/lang/invoke/MethodHandle" ∧ y.cls ≠ "java/lang/invoke/VarHandle")
    {W9 : Nat} {Pre : Pt → Array Value → Prop} {Post : Pt → Array Value → Option Value → Pt → Prop} (hK : Back l R p e below s args y 3 W9 Pre Post)
    {b : Addr} {cellB : Cell} (hcell : T.heap[b]? = some cellB) (hobj : cellB.vm.isStatics = false) (hcls : s.vm.findClass C = some cellB.cls)
    {g : JFrame} (hg : g.method = m) (hsize : g.locals.size = c.maxLocals) {argsL rest : List Value} (hlen : ∀ sig, parseMethodDescriptor y.desc = some sig → argsL.length = sig.parameters.length)
    (hstack : g.stack = argsL.reverse ++ .ref b :: rest) (hW : 2 * g.monitorRoom + (rest.map fun v => v.category).sum ≤ W9) (hdg : decode c.code g.pc = .ok (.invokevirtual index, 3))
    (hpre : ∀ vm₁, s.WarmedH vm₁ → Pre ⟨T.setVm vm₁, locs, cells, slots⟩ (Value.ref b :: argsL).toArray) :
    ∃ (v : Option Value) (vm₁ : Vm) (B : Pt), s.WarmedH vm₁ ∧ Stand p l e R s m args below meth c B.U B.locs B.cells B.slots ∧ Post ⟨T.setVm vm₁, locs, cells, slots⟩ (Value.ref b :: argsL).toArray v B ∧
      ∀ target, Steps p.tables e below (B.U.setTop { g with pc := g.pc + 3, stack := v.toList ++ rest }) target → Steps p.tables e below (T.setTop g) target := by
  obtain ⟨mk, methM, hnamed, hmethM, hstM, habM⟩ := Cond.instanceMethod_spec hinst
  obtain ⟨m8, methM', cM, hn8, hmethM', -, -, -, -, -, -, hsigM⟩ := Cond.codeWith_spec hcode
  cases Option.some.inj (hn8.symm.trans hnamed)
  cases hmethM.symm.trans hmethM'
  obtain ⟨c2, r2, m2, q1, q2, q3, q4, kP, hkP, hkPi⟩ := Cond.selects_spec hsel
  cases hcls.symm.trans q1
  cases (State.methodFound?_of_named hnamed hy).symm.trans q2
  cases hnamed.symm.trans q3
  have hselP : selectMethod e.platform s.vm cellB.cls mk = .method mk := by rw [Launch.admits_selectMethod X.admits]; exact q4
  obtain ⟨vm₁, X₁, hstep₁⟩ := X.invokevirtual hexec hown hlink hnamed hmethM hstM hkP hkPi hy (a := b) (cell := cellB) hcell
    (fun z h => by rw [h] at hobj; cases hobj) hselP hmethM habM hkP hkPi (g := g) hg (argsL := argsL) (rest := rest) (hlen _ hsigM) hstack hdg
  obtain ⟨v, B, X', hpost, hsteps⟩ := hK m meth c ⟨T.setVm vm₁, locs, cells, slots⟩ { g with stack := rest } (.invokevirtual index) mk (Value.ref b :: argsL).toArray X₁ hg hsize hdg hW (X₁.named hnamed) (hpre vm₁ X₁.warmed)
  exact ⟨v, vm₁, B, X₁.warmed, X', hpost, fun target h => hstep₁ _ fun acts => by rw [doInvoke_state]; exact hsteps.trans h⟩
abbrev vx_CVW (R : Room) (s : State) (args : Array Value) (own C : String) (index : Nat) (y : MethodName) (bytes : ByteArray) (maxL : Nat) (ret : Option FieldType) (hh : List (Nat × Nat × Nat × Nat)) (ws : List Cond) (rm : Room) (mc ms n : Nat) : Prop :=
  (rm.cells = mc ∧ rm.slots = ms ∧ rm.frames + 1 ≤ R.frames ∧ 8 + (maxL + 11) + rm.locals ≤ R.locals ∧ (∀ w ∈ ws, ∀ (a' : Array Value) (U : State), s.WarmedH U.vm → w.before a' U = true) ∧ Cond.codeWith y bytes maxL ret hh ∈ ws) ∧
  (Cond.codeWith y bytes maxL ret hh).before args s = true ∧ (Cond.initialized y.cls).before args s = true ∧ (y.cls ≠ "java/lang/invoke/MethodHandle" ∧ y.cls ≠ "java/lang/invoke/VarHandle") ∧
  (∀ sig, parseMethodDescriptor y.desc = some sig → n = sig.parameters.length) ∧ (Cond.methodLink own index y).before args s = true ∧ (Cond.instanceMethod y).before args s = true ∧ (Cond.selects C y y).before args s = true
theorem vx_cwVW {own C : String} {index maxL mc ms : Nat} {y : MethodName} {bytes : ByteArray} {ret : Option FieldType} {hh : List (Nat × Nat × Nat × Nat)} {Ts ws ws' : List Cond} {rm : Room} (n : Nat) (ht : ∀ w ∈ Ts, w.before args s = true) (hT : GoodIn Ts (wsV own index C y ws)) (hw : ws = Cond.codeWith y bytes maxL ret hh :: ws') (hrc : rm.cells = mc) (hrs : rm.slots = ms)
    (hd : y.cls = C ∧ y.cls ≠ "java/lang/invoke/MethodHandle" ∧ y.cls ≠ "java/lang/invoke/VarHandle" ∧ (parseMethodDescriptor y.desc).map (fun d => d.parameters.length) = some n) (hR : rm.frames + 1 ≤ R.frames ∧ 8 + (maxL + 11) + rm.locals ≤ R.locals) :
    vx_CVW R s args own C index y bytes maxL ret hh ws rm mc ms n := by
  obtain ⟨hC, hd⟩ := hd
  subst hC
  have ok : ∀ w ∈ wsV own index y.cls y ws, w.before args s = true := fun w h => ht w (hT w h).1
  have hG : GoodIn Ts ws := fun w h => hT w (by unfold wsV; exact List.mem_append_right _ h)
  have hc : Cond.codeWith y bytes maxL ret hh ∈ ws := by rw [hw]; exact List.mem_cons_self
  refine ⟨⟨hrc, hrs, hR.1, hR.2, pay_in ht hG, hc⟩, ht _ (hG _ hc).1, ok _ (by simp [wsV]), ⟨hd.1, hd.2.1⟩, fun sig h => ?_, ok _ (by simp [wsV]), ok _ (by simp [wsV]), ok _ (by simp [wsV])⟩
  have h2 := hd.2.2
  rw [h] at h2
  exact (Option.some.inj h2).symm
theorem vx_runVW {y : MethodName} {bytes cc : ByteArray} {maxL nL mc ms n index : Nat} {ret : Option FieldType} {hh : List (Nat × Nat × Nat × Nat)} {ws : List Cond} {rm : Room} {Pc : Array Value → State → Prop} {Qc : Array Value → State → Outcome → State → Prop} {free : Addr → Prop} {Ts : List Cond} {own C : String} {b : Addr} {As rest : List Value} {g : JFrame}
    (S : CallFix p m c cc nL s args Ts own) (hM : Met l y ws rm Pc Qc mc ms free) (cw : vx_CVW R s args own C index y bytes maxL ret hh ws rm mc ms n) (hp : PreV s H C b Pc As)
    (hg : g.method = m) (hn : As.length = n) (hsize : g.locals.size = nL) (hstack : g.stack = As.reverse ++ .ref b :: rest) (hW : 2 * g.monitorRoom + (rest.map fun v => v.category).sum ≤ 8) (hdg : decode cc g.pc = .ok (.invokevirtual index, 3)) (hf : cells + mc ≤ R.cells ∧ slots + ms ≤ R.slots) :
    va_Run p l e R s m args below meth c H locs cells slots mc ms g rest (Qc (Value.ref b :: As).toArray) free := by
  obtain ⟨⟨hrc, hrs, hfr, hlo, hws, hcw⟩, hcode, hini, hy, hlen, hl, hin, hse⟩ := cw
  have hK : Back l R p e below s args y 3 8 (PreOf R mc ms Pc) (PostOf Qc mc ms free) := va_backW (hh := hh) (bytes := bytes) (maxL := maxL) (ret := ret) hM hp.1 hrc hrs hfr hlo hws hcw (fun a' U hW => word_at hW (Or.inl (by first | rfl | simp [Cond.onTables, Cond.keeps, Cond.steady])) hini)
  obtain ⟨hx, hb, hml, ho, -⟩ := S
  obtain ⟨-, ⟨cellB, hcB, hoB, hclB⟩, hPc⟩ := hp
  intro T hT X
  obtain ⟨v, vm₁, ⟨U', l2, c2, s2⟩, hW₁, X', ⟨g', mk, t, L, e1, e2, hq, h1, hL, h2, h3⟩, st⟩ := vx_callVW X hx (C := C) (hh := hh) (bytes := bytes) (maxL := maxL) (ret := ret) ho hl hin hse hcode hy hK (by rw [hT]; exact hcB) hoB hclB hg (hsize.trans hml.symm) (argsL := As) (rest := rest) (fun sig h => hn.trans (hlen sig h)) hstack hW (by rw [hb]; exact hdg)
    (fun vm₁ hW₁ => ⟨hf.1, hf.2, hPc (T.setVm vm₁) hT hW₁⟩)
  dsimp only [Pt.U, Pt.locs, Pt.cells, Pt.slots] at X' e1 e2 h1 h2 h3 st
  subst h1; subst h2; subst h3
  exact ⟨v, (T.setVm vm₁).calling g' mk (Value.ref b :: As).toArray, t, U', L, hT, X', hL, e1, e2, hq, st⟩
section
variable {y : MethodName} {bytes cc : ByteArray} {maxL nL mc ms n index : Nat} {ret : Option FieldType} {ws : List Cond} {rm : Room} {Pc : Array Value → State → Prop} {Qc : Array Value → State → Outcome → State → Prop} {XC : String → State → State → Prop} {free : Addr → Prop} {Ts : List Cond} {own C : String} {b : Addr} {As rest : List Value} {g : JFrame}
theorem vx_runVX {hh : List (Nat × Nat × Nat × Nat)} (S : CallFix p m c cc nL s args Ts own) (hM : vx_Met l y ws rm Pc Qc XC mc ms free) (cw : vx_CVW R s args own C index y bytes maxL ret hh ws rm mc ms n) (hp : PreV s H C b Pc As)
    (hg : g.method = m) (hn : As.length = n) (hsize : g.locals.size = nL) (hstack : g.stack = As.reverse ++ .ref b :: rest) (hW : 2 * g.monitorRoom + (rest.map fun v => v.category).sum ≤ 8) (hdg : decode cc g.pc = .ok (.invokevirtual index, 3)) (hf : cells + mc ≤ R.cells ∧ slots + ms ≤ R.slots) :
    vx_Run p l e R s m args below meth c H locs cells slots mc ms g rest (Qc (Value.ref b :: As).toArray) XC free := by
  obtain ⟨⟨hrc, hrs, hfr, hlo, hws, hcw⟩, hcode, hini, hy, hlen, hl, hin, hse⟩ := cw
  have hK : vx_Back l R p e below s args y 3 8 (PreOf R mc ms Pc) (PostOf Qc mc ms free) (vx_Post XC mc ms free) := vx_backW (hh := hh) (bytes := bytes) (maxL := maxL) (ret := ret) hM hp.1 hrc hrs hfr hlo hws hcw (fun a' U hW => word_at hW (Or.inl (by first | rfl | simp [Cond.onTables, Cond.keeps, Cond.steady])) hini)
  obtain ⟨hx, hb, hml, ho, -⟩ := S
  obtain ⟨-, ⟨cellB, hcB, hoB, hclB⟩, hPc⟩ := hp
  intro T hT X
  rcases vx_callVX X hx (C := C) (hh := hh) (bytes := bytes) (maxL := maxL) (ret := ret) ho hl hin hse hcode hy hK (by rw [hT]; exact hcB) hoB hclB hg (hsize.trans hml.symm) (argsL := As) (rest := rest) (fun sig h => hn.trans (hlen sig h)) hstack hW (by rw [hb]; exact hdg)
    (fun vm₁ hW₁ => ⟨hf.1, hf.2, hPc (T.setVm vm₁) hT hW₁⟩) with ⟨v, vm₁, ⟨U', l2, c2, s2⟩, hW₁, X', ⟨g', mk, t, L, e1, e2, hq, h1, hL, h2, h3⟩, st⟩ | ⟨q, vm₁, ⟨U', l2, c2, s2⟩, hW₁, X', ⟨g', mk, t, L, E, ce, e1, e2, hq, hce, hcv, hcl, h1, hL, h2, h3⟩, st⟩
  · dsimp only [Pt.U, Pt.locs, Pt.cells, Pt.slots] at X' e1 e2 h1 h2 h3 st
    subst h1; subst h2; subst h3
    exact Or.inl ⟨v, (T.setVm vm₁).calling g' mk (Value.ref b :: As).toArray, t, U', L, hT, X', hL, e1, e2, hq, st⟩
  · dsimp only [Pt.U, Pt.locs, Pt.cells, Pt.slots] at X' e1 e2 h1 h2 h3 st hcl
    subst h1; subst h2; subst h3
    exact Or.inr ⟨q, (T.setVm vm₁).calling g' mk (Value.ref b :: As).toArray, t, U', L, E, ce, hT, X', hL, e1, e2, hq, hce, hcv, vx_cls hW₁ hcl, st⟩
theorem vx_runSX {hh : List (Nat × Nat × Nat × Nat)} (S : CallFix p m c cc nL s args Ts own) (hM : vx_Met l y ws rm Pc Qc XC mc ms free) (cw : vx_CSW R s args own index y bytes maxL ret hh ws rm mc ms n) (hp : PreS s H Pc As)
    (hg : g.method = m) (hn : As.length = n) (hsize : g.locals.size = nL) (hstack : g.stack = As.reverse ++ rest) (hW : 2 * g.monitorRoom + (rest.map fun v => v.category).sum ≤ 8) (hdg : decode cc g.pc = .ok (.invokestatic index, 3)) (hf : cells + mc ≤ R.cells ∧ slots + ms ≤ R.slots) :
    vx_Run p l e R s m args below meth c H locs cells slots mc ms g rest (Qc As.toArray) XC free := by
  obtain ⟨⟨hrc, hrs, hfr, hlo, hws, hcw⟩, hcode, hini, hy, hlen, hl, hstt⟩ := cw
  have hK : vx_Back l R p e below s args y 3 8 (PreOf R mc ms Pc) (PostOf Qc mc ms free) (vx_Post XC mc ms free) := vx_backW (hh := hh) (bytes := bytes) (maxL := maxL) (ret := ret) hM hp.1 hrc hrs hfr hlo hws hcw (fun a' U hW => word_at hW (Or.inl (by first | rfl | simp [Cond.onTables, Cond.keeps, Cond.steady])) hini)
  obtain ⟨hx, hb, hml, ho, -⟩ := S
  intro T hT X
  rcases vx_callSX X hx (hh := hh) (bytes := bytes) (maxL := maxL) (ret := ret) ho hl hstt hini hcode hy hK hg (hsize.trans hml.symm) (argsL := As) (rest := rest) (fun sig h => hn.trans (hlen sig h)) hstack hW (by rw [hb]; exact hdg)
    (fun vm₁ hW₁ => ⟨hf.1, hf.2, hp.2 (T.setVm vm₁) hT hW₁⟩) with ⟨v, vm₁, ⟨U', l2, c2, s2⟩, hW₁, X', ⟨g', mk, t, L, e1, e2, hq, h1, hL, h2, h3⟩, st⟩ | ⟨q, vm₁, ⟨U', l2, c2, s2⟩, hW₁, X', ⟨g', mk, t, L, E, ce, e1, e2, hq, hce, hcv, hcl, h1, hL, h2, h3⟩, st⟩
  · dsimp only [Pt.U, Pt.locs, Pt.cells, Pt.slots] at X' e1 e2 h1 h2 h3 st
    subst h1; subst h2; subst h3
    exact Or.inl ⟨v, (T.setVm vm₁).calling g' mk As.toArray, t, U', L, hT, X', hL, e1, e2, hq, st⟩
  · dsimp only [Pt.U, Pt.locs, Pt.cells, Pt.slots] at X' e1 e2 h1 h2 h3 st hcl
    subst h1; subst h2; subst h3
    exact Or.inr ⟨q, (T.setVm vm₁).calling g' mk As.toArray, t, U', L, E, ce, hT, X', hL, e1, e2, hq, hce, hcv, vx_cls hW₁ hcl, st⟩
end
end VXH
theorem vx_ofWH {l : Launch} {y : MethodName} {ws ws' : List Cond} {rm : Room} {Pc : Array Value → State → Prop} {Qc : Array Value → State → Outcome → State → Prop} {XC : String → State → State → Prop} {mc ms : Nat} {free : Addr → Prop} {cc : ByteArray} {maxL : Nat} {ret : Option FieldType} {hh : List (Nat × Nat × Nat × Nat)}
    (hy : plainName y.cls = true) (hw : ws = Cond.codeWith y cc maxL ret hh :: ws')
    (body : ∀ p e s m args below meth c s₁, BodyLoose p l y (headSpec ws rm) cc maxL ret e s m args below meth c s₁ → c.maxLocals = maxL → Pc args s →
      W p l e (headSpec ws rm).room s m args below meth c s.heap [] 0 0 (vx_MQ below Qc XC args s mc ms free) (entryFrame m args maxL)) : vx_Met l y ws rm Pc Qc XC mc ms free := by
  refine MetFree.of_bodyS (code := cc) (maxLocals := maxL) (ret := ret) hy ?_ ?_
  · intro args s m h hn
    obtain ⟨m9, meth, c, hn9, h1, h2, h3, h4, -, h5, h6, -⟩ := Cond.codeWith_spec (atoms_spec (ws := ws) h _ (by rw [hw]; exact List.mem_cons_self))
    cases hn.symm.trans hn9
    exact ⟨meth, c, h1, h2, h3, h4, h5, h6⟩
  · intro p e s m args below meth c s₁ B hml hP _
    have hh0 : s₁.heap = s.heap := by rw [B.state]; rfl
    obtain ⟨t, a1, o, b1, b2, b3⟩ := body p e s m args below meth c s₁ B hml hP s₁ hh0 (Stand.of_body B)
    exact ⟨t, o, a1, b1, b2, b3⟩
/-! ===== END ===== -/

/-! ===== BEGIN what the machine throws by itself, no traces kept ===== -/
section VXM
set_option maxHeartbeats 1000000 in
/-- the machine throws cls with the message text, no traces kept: from its note over the frame g to 'throwing' over the same frame (follows the proofs of Stand.vmThrowsMessage, Shelf/KitTracedVmS.lean, and Stand.throwsMessageColdBareV, StandMessageColdV.lean, without the step out of the frame) -/
theorem vx_vmAt {p : Program} {l : Launch} {e : Env} {R : Room} {s : State} {m₀ : MethodId} {args : Array Value} {below : List Frame} {meth : Method} {c : Code} {W : State} {locs : List Loc} {cells slots : Nat}
    (X : Stand p l e R s m₀ args below meth c W locs cells slots) (hexec : p.tables.exec = Jvm.exec) (htr : e.platform.stackTraces = false) {cls : String} {names : List String} {text : String}
    (hcls : Bundle.fit cls = true) (hnames : ∀ n ∈ names, Bundle.fit n = true) (hsoe : (cls == "java/lang/StackOverflowError") = false) (hoom : (cls == "java/lang/OutOfMemoryError") = false)
    (h : ∀ a ∈ Bundle.messageArmAtoms cls names, a.before args s = true)
    (hlocs : ∀ x ∈ locs, ∀ cell, s.heap[x.base]? = some cell → cell.vm.isStatics = false)
    (htext : (text == notModelled) = false) (hlimit : ¬ (stringBytes (stringToUtf16 text)).size > e.platform.arrayLengthLimit) (hheap : ¬ (stringBytes (stringToUtf16 text)).size * componentBytes .byte > e.platform.maxHeapBytes)
    {g : JFrame} (hg : g.method = m₀) (hsize : g.locals.size = c.maxLocals)
    (hRframes : names.length + 4 < R.frames) (hRlocals : 2 * g.monitorRoom + (g.stack.map fun v => v.category).sum + 10240 ≤ R.locals) (hshort : 13 * names.length + 55 ≤ 10240)
    (hRcells : cells + 3 ≤ R.cells) (hRslots : slots + ((stringBytes (stringToUtf16 text)).size + 4 + 6) ≤ R.slots) (hlocks : meth.locks = false) :
    ∃ (S : State) (q : Addr) (ce : Cell), (∀ target, Steps p.tables e below ((S.setTop g).pushFrame (.throwing q)) target → Steps p.tables e below ((W.setTop g).pushFrame (.throwNew cls (some text) none)) target) ∧
      Stand p l e R s m₀ args below meth c S locs (cells + 3) (slots + ((stringBytes (stringToUtf16 text)).size + 4 + 6)) ∧ S.heap[q]? = some ce ∧ s.vm.findClass cls = some ce.cls ∧ ce.vm = .none := by
  have howns : e.platform.frameOwnsMonitors = true := by rw [X.admits.platform]
  have hfin : e.platform.finalization = false := by rw [X.admits.platform]
  have hpl : e.platform.magicAccessors = ({} : Platform).magicAccessors := by rw [X.admits.platform]
  have a : ∀ x, x ∈ Bundle.messageArmAtoms cls names → x.holds args s none s [] = true := fun x hx => h x hx
  obtain ⟨T, Z0, L, -, Y⟩ := ThrowableC.of_atoms (args := args) howns hfin hpl (fun x hx => h x (by simp [Bundle.messageArmAtoms, hx]))
  obtain ⟨Z, M, LZ, LM, hnZ⟩ := Init0T.ofS_atoms (args := args) hpl L Y (fun x hx => h x (by simp [Bundle.messageArmAtoms, hx]))
  obtain ⟨P1, Ps, hlen, L1, hL, hP1m, hlink1, hlink⟩ := Bundle.chainS (args := args) hpl hnZ names cls hcls hnames (fun x hx => h x (by simp [Bundle.messageArmAtoms, hx]))
  obtain ⟨Zs, LZs, hn4, hfitv, hfitc⟩ := StringT.of_atoms (args := args) (fun x hx => h x (by simp [Bundle.messageArmAtoms, hx]))
  have hfound : s.vm.findClass cls = some P1.m.cls := findClass_of_methodNamed hP1m
  obtain ⟨c1, kX, hc1, hk, hord, -, -, hn6⟩ := Cond.instantiable_spec (a (.instantiable cls 6) (by simp [Bundle.messageArmAtoms]))
  cases Option.some.inj (hc1.symm.trans hfound)
  have hinit := Cond.initialized_spec hfound hk (a (.initialized cls) (by simp [Bundle.messageArmAtoms]))
  have hctor : kX.findMethod "<init>" "(Ljava/lang/String;)V" = some P1.m.idx := findMethod_of_methodNamed hP1m hk
  have hsel0 : selectMethod e.platform s.vm P1.m.cls T.fill0 = .method T.fill0 := by
    obtain ⟨c2, r2, m2, q1, q2, q3, q4, -⟩ := Cond.selects_spec (a (.selects cls Bundle.tFill0 Bundle.tFill0) (by simp [Bundle.messageArmAtoms]))
    cases Option.some.inj (q1.symm.trans hfound)
    cases Option.some.inj (q2.symm.trans (State.methodFound?_of_named Y.fill0 (by decide)))
    cases Option.some.inj (q3.symm.trans Y.fill0)
    rw [Launch.admits_selectMethod X.admits]; exact q4
  have hselF : selectMethod e.platform s.vm P1.m.cls T.fill = .method T.fill := by
    obtain ⟨c2, r2, m2, q1, q2, q3, q4, -⟩ := Cond.selects_spec (a (.selects cls Bundle.tFill Bundle.tFill) (by simp [Bundle.messageArmAtoms]))
    cases Option.some.inj (q1.symm.trans hfound)
    cases Option.some.inj (q2.symm.trans (State.methodFound?_of_named Y.fill (by decide)))
    cases Option.some.inj (q3.symm.trans Y.fill)
    rw [Launch.admits_selectMethod X.admits]; exact q4
  obtain ⟨cellS0, hcS0, hiss⟩ := Y.statics
  obtain ⟨u0, hu0⟩ := Cond.staticRefV Y.unassigned L.unassignedStatic L.statics hcS0 hiss (a (.isRef (.static Bundle.tN "UNASSIGNED_STACK" Bundle.steD)) (by simp [Bundle.messageArmAtoms]))
  obtain ⟨sen, hsen⟩ := Cond.staticRefV Y.sentinel L.sentinelStatic L.statics hcS0 hiss (a (.isRef (.static Bundle.tN "SUPPRESSED_SENTINEL" Bundle.listD)) (by simp [Bundle.messageArmAtoms]))
  obtain ⟨ci198, i198, fB, hk198, hg198, ha198, hsB, -, hnB, htB, hffB⟩ := Cond.ownField (t := .object "java/lang/Object") Y.found L.cls (by decide +kernel) (a (.fieldLink Bundle.tN 198 Bundle.tN "backtrace" "Ljava/lang/Object;") (by simp [Bundle.messageArmAtoms])) (a (.lays Bundle.tN Bundle.tN "backtrace" "Ljava/lang/Object;") (by simp [Bundle.messageArmAtoms])) e.platform hpl
  obtain ⟨cellS, hcS', heS, -, hkeep⟩ := X.same.2.2.2.2.2 T.aS cellS0 hcS0
  have hcellS : W.heap[T.aS]? = some cellS := hcS'
  have hout' : ∀ i, (⟨T.aS, i⟩ : Loc) ∉ locs := fun i hmem => by
    have := hlocs _ hmem cellS0 hcS0
    rw [hiss] at this; cases this
  have hknownS : cellS.vm ≠ .unknown := by
    rw [heS]; intro hu
    rw [show cellS0.vm = .unknown from hu] at hiss
    cases hiss
  have hvU : cellS.slots[T.fUnassigned.slot]? = some u0.v := by rw [hkeep _ (hout' _)]; exact hu0
  have hvSen : cellS.slots[T.fSentinel.slot]? = some sen.v := by rw [hkeep _ (hout' _)]; exact hsen
  obtain ⟨iM, hffM⟩ := Y.msg
  obtain ⟨tyC, dC, hdC, hdnC⟩ := Cond.laysAt hfound hk Y.cause (a (.lays cls Bundle.tN "cause" "Ljava/lang/Throwable;") (by simp [Bundle.messageArmAtoms]))
  obtain ⟨tyS, dS, hdS, hdnS⟩ := Cond.laysAt hfound hk Y.stack (a (.lays cls Bundle.tN "stackTrace" Bundle.steD) (by simp [Bundle.messageArmAtoms]))
  obtain ⟨tyP, dP, hdP, hdnP⟩ := Cond.laysAt hfound hk Y.supp (a (.lays cls Bundle.tN "suppressedExceptions" Bundle.listD) (by simp [Bundle.messageArmAtoms]))
  obtain ⟨tyM, dM, hdM, hdnM⟩ := Cond.laysAt hfound hk hffM (a (.lays cls Bundle.tN "detailMessage" "Ljava/lang/String;") (by simp [Bundle.messageArmAtoms]))
  obtain ⟨tyB, dB, hdB, hdnB⟩ := Cond.laysAt hfound hk hffB (a (.lays cls Bundle.tN "backtrace" "Ljava/lang/Object;") (by simp [Bundle.messageArmAtoms]))
  have bC := Cond.laysApart hdB hdC hdnB hdnC (by rw [hnB, Y.causeName]; decide)
  have bS := Cond.laysApart hdB hdS hdnB hdnS (by rw [hnB, Y.stackName]; decide)
  have bP := Cond.laysApart hdB hdP hdnB hdnP (by rw [hnB, Y.suppName]; decide)
  have hbk : ((preparedCellV T.toThrowableT (freshCell P1.m.cls kX) (W.heap.size + 2) u0 sen).withEntry W.cur).slots[fB.slot]? = some .null := by
    have := fresh_default (c := P1.m.cls) tyB
    rw [htB] at this
    simpa [preparedCellV, Cell.setSlot, Cell.withEntry, Array.getElem?_setIfInBounds, bC, bS, bP, bC.symm, bS.symm, bP.symm, defaultValue] using this
  have tkC := Takes.of_laid (v := .ref (W.heap.size + 2)) hk hord tyC (by rw [Y.causeType]; rfl)
  have tkS := Takes.of_laid (v := u0.v) hk hord tyS (by rw [Y.stackType]; exact fits_refV_array _ u0)
  have tkP := Takes.of_laid (v := sen.v) hk hord tyP (by rw [Y.suppType]; exact fits_refV_object _ sen)
  have tkM := Takes.of_laid (v := .ref (W.heap.size + 1)) hk hord tyM (by rw [Y.msgType]; rfl)
  have hskip : SkipFacts T e.platform s (fun u => u) u0 ((preparedCellV T.toThrowableT (freshCell P1.m.cls kX) (W.heap.size + 2) u0 sen).withEntry W.cur) := ⟨{ ci198 := ci198, i198 := i198, fBack := fB }, ⟨hk198, hg198, ha198, hsB⟩, hbk, fun _ _ => rfl⟩
  have h0 : At W g.method c below := by rw [hg]; exact X.here
  obtain ⟨hbeyond, hfreeW⟩ := X.vmMayThrow hsize (.throwNew cls (some text) none) (fun f hf => by cases hf) rfl hRlocals
  have hfr' : W.frames.length + Ps.length + 4 < (e.platform.stackLimits W.me).1 := by have := X.framesAbove hRframes; omega
  have hwd' : (stackUse (.java g :: W.frames.tail)).2 + 13 * Ps.length + 55 ≤ (e.platform.stackLimits W.me).2 := by have := X.stackAbove hsize (K := 13 * Ps.length + 55) (by omega); omega
  have hslots : W.slotsUsed + (stringBytes (stringToUtf16 text)).size + Zs.kS.instanceTypes.size + kX.instanceTypes.size ≤ e.platform.maxSlots := by
    have := X.slotsAbove hRslots
    rw [hn4, hn6]
    omega
  obtain ⟨vm', hW', st⟩ := Steps.vmThrowsMessageColdByV p (s₀ := s) (S := W) (g := g) h0 hexec T L Z LZ M LM X.warmed (t := W.cur) rfl Zs LZs P1 L1 Ps hL hlink1 hlink hsoe hoom hfound hk hinit hord hctor
    (Launch.admits_hotImplicitExceptions X.admits) hbeyond hfreeW htext hlimit hheap (X.cellsAbove hRcells) hslots (hfitv _) (hfitc _)
    (Nn := fun u => u) heapOnly_id (fun _ _ => rfl) (fun _ => rfl) (fun u x y => setCell_twice _ _ _ _) (fun _ => Nat.le_refl _) (cN := ((preparedCellV T.toThrowableT (freshCell P1.m.cls kX) (W.heap.size + 2) u0 sen).withEntry W.cur))
    hsel0 hcellS hknownS hvU tkS (fun _ hu => hu) (fun _ hu => hu) rfl rfl rfl (by simp [preparedCellV, Cell.setSlot, Cell.withEntry]) hskip (fun _ _ hA hW _ hroom _ hrest => L.nativeOff p htr hA hW hroom hrest) hselF hvSen tkC tkP tkM Y.objLocals rfl hfr' hwd'
  rw [plainBareV_eq T.toThrowableT (W.heap.size + 2) u0 sen (.ref (W.heap.size + 1)) W.cur rfl rfl] at st
  obtain ⟨-, -, w3, w4, -, -, -⟩ := withThrown_facts e.platform W Zs text P1.m.cls kX
  have X3 := ((X.pushed (bytesOf Zs.cB (stringToUtf16 text))).pushed (stringAt Zs.cS Zs.kS Zs.fv Zs.fc (stringToUtf16 text) W.heap.size)).pushed (freshCell P1.m.cls kX)
  rw [← withString_eq] at X3
  have X4 := X3.noted hW'
  have ha : (W.heap.size + 2) < ((withThrown W Zs text P1.m.cls kX).setVm vm').heap.size := by show _ < (withThrown W Zs text P1.m.cls kX).heap.size; rw [w3]; omega
  have hcell : ((withThrown W Zs text P1.m.cls kX).setVm vm').heap[(W.heap.size + 2)]? = some (freshCell P1.m.cls kX) := w4
  have X5 := ((((X4.stored hcell T.fCause.slot (.ref (W.heap.size + 2))).storedAgain ha T.fStack.slot u0.v).storedAgain ha T.fSupp.slot sen.v).storedAgain ha T.fStack.slot u0.v).storedAgain ha T.fMsg.slot (.ref (W.heap.size + 1))
  obtain ⟨g₁, hfrM⟩ := X5.frames_eq
  have hU : ((((withThrown W Zs text P1.m.cls kX).setVm vm').setCell (W.heap.size + 2) (plainBareV T.toThrowableT (freshCell P1.m.cls kX) (W.heap.size + 2) u0 sen (.ref (W.heap.size + 1)))).setTop g).pushFrame (.throwing (W.heap.size + 2)) = (((withThrown W Zs text P1.m.cls kX).setVm vm').setCell (W.heap.size + 2) (plainBareV T.toThrowableT (freshCell P1.m.cls kX) (W.heap.size + 2) u0 sen (.ref (W.heap.size + 1)))).setFrames (.throwing (W.heap.size + 2) :: .java g :: below) := by
    rw [State.pushFrame, State.frames_setTop _ hfrM, State.setTop_of_frames _ hfrM, State.setFrames_setFrames]
  have b1 : (bytesOf Zs.cB (stringToUtf16 text)).slots.size = (stringBytes (stringToUtf16 text)).size := by
    rw [(Cell.writeAll_facts _ _).2.2]; simp [bytes0]
  have b2 : (stringAt Zs.cS Zs.kS Zs.fv Zs.fc (stringToUtf16 text) W.heap.size).slots.size = 4 := by simp [string0, Cell.setSlot, hn4]
  have b3 : (freshCell P1.m.cls kX).slots.size = 6 := by simp [hn6]
  rw [b1, b2, b3] at X5
  have e9 : slots + (stringBytes (stringToUtf16 text)).size + 4 + 6 = slots + ((stringBytes (stringToUtf16 text)).size + 4 + 6) := by omega
  rw [e9] at X5
  simp only [List.append_assoc, List.cons_append, List.nil_append] at X5
  refine ⟨((withThrown W Zs text P1.m.cls kX).setVm vm').setCell (W.heap.size + 2) (plainBareV T.toThrowableT (freshCell P1.m.cls kX) (W.heap.size + 2) u0 sen (.ref (W.heap.size + 1))), W.heap.size + 2, _, fun target ht => st _ (by rw [X.tail, ← hU]; exact ht),
    X5.forget (fun y hy => ?_), heapAt_setCell_self _ ha, hfound, rfl⟩
  simp only [List.mem_cons, List.not_mem_nil, or_false] at hy
  have hge : s.heap.size ≤ W.heap.size := X.same.2.1
  rcases hy with rfl | rfl | rfl | rfl | rfl <;> exact Nat.le_trans hge (Nat.le_add_right _ 2)
set_option maxHeartbeats 1000000 in
/-- the machine throws NullPointerException, no traces kept: from its note over the frame g to 'throwing' over the same frame (follows the proof of Stand.vmThrowsNpe, Shelf42/KT2.lean; throwsNpeColdBareVAt, Shelf42/NT91.lean, called) -/
theorem vx_npeAt {p : Program} {l : Launch} {e : Env} {R : Room} {s : State} {m₀ : MethodId} {args : Array Value} {below : List Frame} {meth : Method} {c : Code} {W : State} {locs : List Loc} {cells slots : Nat}
    (X : Stand p l e R s m₀ args below meth c W locs cells slots) (hexec : p.tables.exec = Jvm.exec) (htr : e.platform.stackTraces = false) {n : Nat}
    (h : ∀ a ∈ Bundle.npeArmAtoms n, a.before args s = true)
    (hlocs : ∀ x ∈ locs, ∀ cell, s.heap[x.base]? = some cell → cell.vm.isStatics = false)
    {g : JFrame} (hg : g.method = m₀) (hsize : g.locals.size = c.maxLocals)
    (hRframes : 7 < R.frames) (hRlocals : 2 * g.monitorRoom + (g.stack.map fun v => v.category).sum + 10240 ≤ R.locals)
    (hRcells : cells + 1 ≤ R.cells) (hRslots : slots + n ≤ R.slots) (hlocks : meth.locks = false) :
    ∃ (S : State) (q : Addr) (ce : Cell), (∀ target, Steps p.tables e below ((S.setTop g).pushFrame (.throwing q)) target → Steps p.tables e below ((W.setTop g).pushFrame (.throwNew "java/lang/NullPointerException" none none)) target) ∧
      Stand p l e R s m₀ args below meth c S locs (cells + 1) (slots + n) ∧ S.heap[q]? = some ce ∧ s.vm.findClass "java/lang/NullPointerException" = some ce.cls ∧ ce.vm = .none := by
  have howns : e.platform.frameOwnsMonitors = true := by rw [X.admits.platform]
  have hfin : e.platform.finalization = false := by rw [X.admits.platform]
  have hpl : e.platform.magicAccessors = ({} : Platform).magicAccessors := by rw [X.admits.platform]
  have hpl2 : e.platform.arrayCloneIsPublic = true := by rw [X.admits.platform]
  have a' : ∀ x, x ∈ Bundle.npeArmAtoms n → x.holds args s none s [] = true := fun x hx => h x hx
  obtain ⟨T, Z, L, LZ, Y⟩ := ThrowableC.of_atoms (args := args) howns hfin hpl (fun x hx => h x (by simp [Bundle.npeArmAtoms, hx]))
  obtain ⟨N, LN, hcN, hnNF, hordN, hffS⟩ := NpeC.of_atoms (args := args) hpl hpl2 L Y (fun x hx => h x (by simp [Bundle.npeArmAtoms, hx]))
  obtain ⟨P1, L1, hP1m, hP1s⟩ := PassC.of_atoms (args := args) (s := s) hpl (X := Bundle.nN) (Y := Bundle.rN) (by decide) (by decide) LibCode.NullPointerException.Init0.at_0 LibCode.NullPointerException.Init0.at_1 LibCode.NullPointerException.Init0.at_4 (fun x hx => h x (by simp [Bundle.npeArmAtoms, hx]))
  obtain ⟨PR, LR, hPRm, hPRs⟩ := PassC.of_atoms (args := args) (s := s) hpl (X := Bundle.rN) (Y := Bundle.eN) (by decide) (by decide) LibCode.RuntimeException.Init0.at_0 LibCode.RuntimeException.Init0.at_1 LibCode.RuntimeException.Init0.at_4 (fun x hx => h x (by simp [Bundle.npeArmAtoms, hx]))
  obtain ⟨PE, LEx, hPEm, hPEs⟩ := PassC.of_atoms (args := args) (s := s) hpl (X := Bundle.eN) (Y := Bundle.tN) (by decide) (by decide) LibCode.Exception.Init0.at_0 LibCode.Exception.Init0.at_1 LibCode.Exception.Init0.at_4 (fun x hx => h x (by simp [Bundle.npeArmAtoms, hx]))
  have hfound : s.vm.findClass Bundle.nN = some P1.m.cls := findClass_of_methodNamed hP1m
  have ecls : N.cN = P1.m.cls := Option.some.inj (hcN.symm.trans hfound)
  have hk : s.vm.classes[P1.m.cls]? = some N.kN := by rw [← ecls]; exact LN.cls
  have hinit := Cond.initialized_spec hfound hk (a' (.initialized Bundle.nN) (by simp [Bundle.npeArmAtoms]))
  have hctor : N.kN.findMethod "<init>" "()V" = some P1.m.idx := findMethod_of_methodNamed hP1m hk
  obtain ⟨c1, k1, hc1, hk1, -, -, -, hn⟩ := Cond.instantiable_spec (a' (.instantiable Bundle.nN n) (by simp [Bundle.npeArmAtoms]))
  cases Option.some.inj (hc1.symm.trans hfound)
  cases Option.some.inj (hk1.symm.trans hk)
  have hfsz : (freshCell P1.m.cls N.kN).slots.size = n := by simp [hn]
  have hlink1 : P1.sup = PR.m := Option.some.inj (hP1s.symm.trans hPRm)
  have hlinkR : PR.sup = PE.m := Option.some.inj (hPRs.symm.trans hPEm)
  have hlinkE : PE.sup = Z.m T.toThrowableT := Option.some.inj (hPEs.symm.trans Y.init0)
  have hLs : ∀ P, P ∈ [PR, PE] → P.Links0 e.platform s := fun P hP => by
    simp only [List.mem_cons, List.not_mem_nil, or_false] at hP
    rcases hP with rfl | rfl
    · exact LR
    · exact LEx
  have hsel0 : selectMethod e.platform s.vm P1.m.cls T.fill0 = .method T.fill0 := by
    obtain ⟨c2, r2, m2, q1, q2, q3, q4, -⟩ := Cond.selects_spec (a' (.selects Bundle.nN Bundle.tFill0 Bundle.tFill0) (by simp [Bundle.npeArmAtoms]))
    cases Option.some.inj (q1.symm.trans hfound)
    cases Option.some.inj (q2.symm.trans (State.methodFound?_of_named Y.fill0 (by decide)))
    cases Option.some.inj (q3.symm.trans Y.fill0)
    rw [Launch.admits_selectMethod X.admits]; exact q4
  have hselF : selectMethod e.platform s.vm P1.m.cls T.fill = .method N.fill := by
    obtain ⟨c2, r2, m2, q1, q2, q3, q4, -⟩ := Cond.selects_spec (a' (.selects Bundle.nN Bundle.tFill Bundle.nFill) (by simp [Bundle.npeArmAtoms]))
    cases Option.some.inj (q1.symm.trans hfound)
    cases Option.some.inj (q2.symm.trans (State.methodFound?_of_named Y.fill (by decide)))
    cases Option.some.inj (q3.symm.trans hnNF)
    rw [Launch.admits_selectMethod X.admits]; exact q4
  obtain ⟨cellS0, hcS0, hiss⟩ := Y.statics
  obtain ⟨u0, hu0⟩ := Cond.staticRefV Y.unassigned L.unassignedStatic L.statics hcS0 hiss (a' (.isRef (.static Bundle.tN "UNASSIGNED_STACK" Bundle.steD)) (by simp [Bundle.npeArmAtoms]))
  obtain ⟨sen, hsen⟩ := Cond.staticRefV Y.sentinel L.sentinelStatic L.statics hcS0 hiss (a' (.isRef (.static Bundle.tN "SUPPRESSED_SENTINEL" Bundle.listD)) (by simp [Bundle.npeArmAtoms]))
  obtain ⟨ci198, i198, fB, hk198, hg198, ha198, hsB, -, hnB, htB, hffB⟩ := Cond.ownField (t := .object "java/lang/Object") Y.found L.cls (by decide +kernel) (a' (.fieldLink Bundle.tN 198 Bundle.tN "backtrace" Bundle.objD) (by simp [Bundle.npeArmAtoms])) (a' (.lays Bundle.tN Bundle.tN "backtrace" Bundle.objD) (by simp [Bundle.npeArmAtoms])) e.platform hpl
  obtain ⟨cellS, hcS', heS, -, hkeep⟩ := X.same.2.2.2.2.2 T.aS cellS0 hcS0
  have hcellS : W.heap[T.aS]? = some cellS := hcS'
  have hout' : ∀ i, (⟨T.aS, i⟩ : Loc) ∉ locs := fun i hmem => by
    have := hlocs _ hmem cellS0 hcS0
    rw [hiss] at this; cases this
  have hknownS : cellS.vm ≠ .unknown := by
    rw [heS]; intro hu
    rw [show cellS0.vm = .unknown from hu] at hiss
    cases hiss
  have hvU : cellS.slots[T.fUnassigned.slot]? = some u0.v := by rw [hkeep _ (hout' _)]; exact hu0
  have hvSen : cellS.slots[T.fSentinel.slot]? = some sen.v := by rw [hkeep _ (hout' _)]; exact hsen
  obtain ⟨tyC, dC, hdC, hdnC⟩ := Cond.laysAt hfound hk Y.cause (a' (.lays Bundle.nN Bundle.tN "cause" "Ljava/lang/Throwable;") (by simp [Bundle.npeArmAtoms]))
  obtain ⟨tyS, dS, hdS, hdnS⟩ := Cond.laysAt hfound hk Y.stack (a' (.lays Bundle.nN Bundle.tN "stackTrace" Bundle.steD) (by simp [Bundle.npeArmAtoms]))
  obtain ⟨tyP, dP, hdP, hdnP⟩ := Cond.laysAt hfound hk Y.supp (a' (.lays Bundle.nN Bundle.tN "suppressedExceptions" Bundle.listD) (by simp [Bundle.npeArmAtoms]))
  obtain ⟨tyX, dX, hdX, hdnX⟩ := Cond.laysAt hfound hk hffS (a' (.lays Bundle.nN Bundle.nN "extendedMessageState" "I") (by simp [Bundle.npeArmAtoms, Bundle.npeAtoms]))
  obtain ⟨hnX, htX⟩ := State.fieldFound?_type hffS (t := .int) (by decide +kernel)
  have xC := Cond.laysApart hdC hdX hdnC hdnX (by rw [hnX, Y.causeName]; decide)
  have xS := Cond.laysApart hdS hdX hdnS hdnX (by rw [hnX, Y.stackName]; decide)
  have xP := Cond.laysApart hdP hdX hdnP hdnX (by rw [hnX, Y.suppName]; decide)
  have hv0 : (freshCell P1.m.cls N.kN).slots[N.fState.slot]? = some (.int 0) := by
    have := fresh_default (c := P1.m.cls) tyX
    rw [htX] at this; exact this
  obtain ⟨tyB, dB, hdB, hdnB⟩ := Cond.laysAt hfound hk hffB (a' (.lays Bundle.nN Bundle.tN "backtrace" Bundle.objD) (by simp [Bundle.npeArmAtoms]))
  have bC := Cond.laysApart hdB hdC hdnB hdnC (by rw [hnB, Y.causeName]; decide)
  have bS := Cond.laysApart hdB hdS hdnB hdnS (by rw [hnB, Y.stackName]; decide)
  have bP := Cond.laysApart hdB hdP hdnB hdnP (by rw [hnB, Y.suppName]; decide)
  have bX := Cond.laysApart hdB hdX hdnB hdnX (by rw [hnB, hnX]; decide)
  have hbk : ((npeCell N.toNpeT (preparedCellV T.toThrowableT (freshCell P1.m.cls N.kN) W.heap.size u0 sen) W.cur).withEntry W.cur).slots[fB.slot]? = some .null := by
    have := fresh_default (c := P1.m.cls) tyB
    rw [htB] at this
    simpa [npeCell, preparedCellV, Cell.setSlot, Cell.withEntry, Array.getElem?_setIfInBounds, bC, bS, bP, bX, bC.symm, bS.symm, bP.symm, bX.symm, defaultValue] using this
  have tkC := Takes.of_laid (v := .ref W.heap.size) hk hordN tyC (by rw [Y.causeType]; rfl)
  have tkS := Takes.of_laid (v := u0.v) hk hordN tyS (by rw [Y.stackType]; exact fits_refV_array _ u0)
  have tkP := Takes.of_laid (v := sen.v) hk hordN tyP (by rw [Y.suppType]; exact fits_refV_object _ sen)
  have tkX := Takes.of_laid (v := .int 1) hk hordN tyX (by rw [htX]; rfl)
  have hskip : SkipFacts T e.platform s (fun u => u) u0 ((npeCell N.toNpeT (preparedCellV T.toThrowableT (freshCell P1.m.cls N.kN) W.heap.size u0 sen) W.cur).withEntry W.cur) := ⟨{ ci198 := ci198, i198 := i198, fBack := fB }, ⟨hk198, hg198, ha198, hsB⟩, hbk, fun _ _ => rfl⟩
  obtain ⟨vm', X3, st, -⟩ := X.throwsNpeColdBareVAt hexec hg hsize T L Z LZ N LN P1 L1 [PR, PE] hLs hlink1 ⟨hlinkR, hlinkE, trivial⟩ hfound hk hinit hordN hctor hsel0 hselF hcellS hknownS hvU hvSen
    hv0 xC xS xP tkC tkS tkP tkX Y.objLocals hskip (fun _ _ hA hW _ hroom _ hrest => L.nativeOff p htr hA hW hroom hrest) (by simpa using hRframes) hRlocals (by simp) hRcells (by rw [hn]; exact hRslots)
  have hlt : W.heap.size < ((W.pushCell (freshCell P1.m.cls N.kN)).setVm vm').heap.size := by
    show W.heap.size < (W.pushCell (freshCell P1.m.cls N.kN)).heap.size
    rw [State.heap_size_pushCell]; omega
  rw [hfsz] at X3
  obtain ⟨g₁, hfrM⟩ := X3.frames_eq
  have hU : ((((W.pushCell (freshCell P1.m.cls N.kN)).setVm vm').setCell W.heap.size (npeBareV T.toThrowableT N.toNpeT (freshCell P1.m.cls N.kN) W.heap.size u0 sen)).setTop g).pushFrame (.throwing W.heap.size) = (((W.pushCell (freshCell P1.m.cls N.kN)).setVm vm').setCell W.heap.size (npeBareV T.toThrowableT N.toNpeT (freshCell P1.m.cls N.kN) W.heap.size u0 sen)).setFrames (.throwing W.heap.size :: .java g :: below) := by
    rw [State.pushFrame, State.frames_setTop _ hfrM, State.setTop_of_frames _ hfrM, State.setFrames_setFrames]
  refine ⟨_, W.heap.size, _, fun target ht => st.trans (by rw [← hU]; exact ht), X3.forget (fun y hy => ?_), heapAt_setCell_self _ hlt, hfound, rfl⟩
  simp only [List.mem_cons, List.not_mem_nil, or_false] at hy
  have hge : s.heap.size ≤ W.heap.size := X.same.2.1
  rcases hy with rfl | rfl | rfl | rfl | rfl <;> exact hge
/-- the words of a machine's NullPointerException, but the four that speak of the heap -/
def vx_atN (n : Nat) : List Cond := (Bundle.npeArmAtoms n).filter vx_no
/-- the words of a machine's throw with a message, but the four that speak of the heap -/
def vx_atM (X : String) (names : List String) : List Cond := (Bundle.messageArmAtoms X names).filter vx_no
section
variable {p : Program} {l : Launch} {e : Env} {R : Room} {s : State} {m : MethodId} {args : Array Value} {below : List Frame} {meth : Method} {c : Code} {H : Heap} {locs : List Loc} {cells slots : Nat}
/-- a frame seen from a rebased start, seen from the first start again -/
theorem vx_back9 {T S : State} {R' : Room} {k n : Nat} (X : Stand p l e R s m args below meth c T locs cells slots) (Y : Stand p l e R' ((T.setVm s.vm).setFrames (.invoking m args :: below)) m args below meth c T [] 0 0) (Z : Stand p l e R' ((T.setVm s.vm).setFrames (.invoking m args :: below)) m args below meth c S [] k n) :
    Stand p l e R s m args below meth c S locs (cells + k) (slots + n) := by
  have hW0 : s.WarmedH ((T.setVm s.vm).setFrames (.invoking m args :: below)).vm := State.WarmedH.refl s
  refine { admits := X.admits, cas := X.cas, clock := X.clock, frames := X.frames, room := X.room, hears := X.hears, method := X.method, code := X.code, here := Z.here, tail := Z.tail, warmed := State.WarmedH.trans hW0 Z.warmed, limits := Z.limits.trans (Y.limits.symm.trans X.limits), bytes := Z.bytes.trans (Y.bytes.symm.trans X.bytes), same := ?_ }
  obtain ⟨e1, e2⟩ := Z.same
  rw [State.setFrames_setFrames] at e1
  have h2 : (T.setVm s.vm).sameButNew (S.setVm s.vm) [] k n := ⟨e1, e2⟩
  have h3 := X.same.trans h2
  rw [List.append_nil] at h3
  exact h3
/-- from the machine's note that E is thrown here with this text -/
def vx_Note (p : Program) (l : Launch) (e : Env) (R : Room) (s : State) (m : MethodId) (args : Array Value) (below : List Frame) (meth : Method) (c : Code) (H : Heap) (locs : List Loc) (cells slots : Nat) (Q : State → Prop) (g : JFrame) (E text : String) : Prop :=
  ∀ T : State, T.heap = H → Stand p l e R s m args below meth c T locs cells slots → ∃ t, Steps p.tables e below ((T.setTop g).pushFrame (.throwNew E (some text) none)) t ∧ Q t
theorem vx_vm {pc : Nat} {ls : Array Slot} {rest : List Value} {Q : State → Prop} (hexec : p.tables.exec = Jvm.exec) (hl : l.stackTraces = false) {cls text : String} {names : List String} {nb : Nat} {A : Nat → Prop}
    (hcls : Bundle.fit cls = true) (hnames : ∀ n ∈ names, Bundle.fit n = true) (hsoe : (cls == "java/lang/StackOverflowError") = false) (hoom : (cls == "java/lang/OutOfMemoryError") = false)
    (hat : ∀ w ∈ vx_atM cls names, w.before args s = true) (hgood : ∀ w ∈ vx_atM cls names, vx_ot w = true)
    (hU : vx_Zq Bundle.tN "UNASSIGNED_STACK" Bundle.steD A s s.heap) (hN : vx_Zq Bundle.tN "SUPPRESSED_SENTINEL" Bundle.listD A s s.heap) (hS : va_S A s.heap H locs) (hsize : ls.size = c.maxLocals)
    (htext : (text == notModelled) = false) (hnb : (stringBytes (stringToUtf16 text)).size ≤ nb) (hnb1 : nb ≤ 1000)
    (hRframes : names.length + 4 < R.frames) (hRlocals : (rest.map fun v => v.category).sum + 10240 ≤ R.locals) (hshort : 13 * names.length + 55 ≤ 10240) (hRcells : cells + 3 ≤ R.cells) (hRslots : slots + (nb + 10) ≤ R.slots) (hlocks : meth.locks = false)
    (k : ∀ (H1 : Heap) (q9 : Addr) (ce : Cell), H.size ≤ H1.size → (∀ q : Nat, q < H.size → H1[q]? = H[q]?) → va_S A s.heap H1 locs → H1[q9]? = some ce → ce.vm = .none → s.vm.findClass cls = some ce.cls → vx_W p l e R s m args below meth c H1 locs (cells + 3) (slots + (nb + 10)) Q (F0 m pc ls rest) q9) :
    vx_Note p l e R s m args below meth c H locs cells slots Q (F0 m pc ls rest) cls text := by
  intro T hT X
  have htr : e.platform.stackTraces = false := (show e.platform.stackTraces = l.stackTraces by rw [X.admits.platform]).trans hl
  have Y := vx_rebase X (R' := { frames := R.frames, locals := R.locals, cells := 3, slots := nb + 10 }) (Nat.le_refl _) (Nat.le_refl _) hRcells hRslots
  have hhp : ((T.setVm s.vm).setFrames (.invoking m args :: below)).heap = H := hT
  have hW0 : s.WarmedH ((T.setVm s.vm).setFrames (.invoking m args :: below)).vm := State.WarmedH.refl s
  have hat' : ∀ w ∈ vx_atM cls names, w.before args ((T.setVm s.vm).setFrames (.invoking m args :: below)) = true := fun w hw => vx_ot_at hW0 rfl (hgood w hw) (hat w hw)
  have hU' : vx_Zq Bundle.tN "UNASSIGNED_STACK" Bundle.steD A ((T.setVm s.vm).setFrames (.invoking m args :: below)) ((T.setVm s.vm).setFrames (.invoking m args :: below)).heap := by rw [hhp]; exact vx_Zq.moved hW0.alike (hU.kept hS.2.1)
  have hN' : vx_Zq Bundle.tN "SUPPRESSED_SENTINEL" Bundle.listD A ((T.setVm s.vm).setFrames (.invoking m args :: below)) ((T.setVm s.vm).setFrames (.invoking m args :: below)).heap := by rw [hhp]; exact vx_Zq.moved hW0.alike (hN.kept hS.2.1)
  obtain ⟨S, q, ce, st, Z, hce, hcl', hv⟩ := vx_vmAt Y hexec htr (cls := cls) (names := names) (text := text) hcls hnames hsoe hoom (vx_own hat' (vx_isRefq hU'.1) (vx_isRefq hN'.1) hU'.2.word hN'.2.word) (fun x hx => nomatch hx) htext
    (by rw [Launch.admits_arrayLengthLimit X.admits]; omega) (by rw [Launch.admits_maxHeapBytes X.admits]; simp only [componentBytes]; omega)
    (g := F0 m pc ls rest) rfl hsize hRframes (by show 2 * 0 + (rest.map fun v => v.category).sum + 10240 ≤ R.locals; omega) hshort (by show 0 + 3 ≤ 3; omega) (by show 0 + (_ + 4 + 6) ≤ nb + 10; omega) hlocks
  obtain ⟨f1, f2⟩ := vx_frame Z.same
  have f1' : H.size ≤ S.heap.size := by rw [← hT]; exact f1
  have f2' : ∀ q : Nat, q < H.size → S.heap[q]? = H[q]? := fun q hq => by
    rw [← hT]
    exact f2 q (by rw [← hT] at hq; exact hq) (fun z hz => nomatch hz)
  have X5 := vx_back9 X Y Z
  have X6 : Stand p l e R s m args below meth c S locs (cells + 3) (slots + (nb + 10)) := { X5 with same := X5.same.mono (by omega) (by omega) }
  obtain ⟨t, a1, b1⟩ := k S.heap q ce f1' f2' ⟨Nat.le_trans hS.1 f1', fun q h1 h2 => (f2' q (Nat.lt_of_lt_of_le h1 hS.1)).trans (hS.2.1 q h1 h2), hS.2.2⟩ hce hv hcl' S rfl X6
  exact ⟨t, st t a1, b1⟩
/-- from the machine's note that NullPointerException is thrown here -/
def vx_NoteN (p : Program) (l : Launch) (e : Env) (R : Room) (s : State) (m : MethodId) (args : Array Value) (below : List Frame) (meth : Method) (c : Code) (H : Heap) (locs : List Loc) (cells slots : Nat) (Q : State → Prop) (g : JFrame) : Prop :=
  ∀ T : State, T.heap = H → Stand p l e R s m args below meth c T locs cells slots → ∃ t, Steps p.tables e below ((T.setTop g).pushFrame (.throwNew "java/lang/NullPointerException" none none)) t ∧ Q t
theorem vx_npe {pc : Nat} {ls : Array Slot} {rest : List Value} {Q : State → Prop} (hexec : p.tables.exec = Jvm.exec) (hl : l.stackTraces = false) {nb : Nat} {A : Nat → Prop}
    (hat : ∀ w ∈ vx_atN nb, w.before args s = true) (hgood : ∀ w ∈ vx_atN nb, vx_ot w = true)
    (hU : vx_Zq Bundle.tN "UNASSIGNED_STACK" Bundle.steD A s s.heap) (hN : vx_Zq Bundle.tN "SUPPRESSED_SENTINEL" Bundle.listD A s s.heap) (hS : va_S A s.heap H locs) (hsize : ls.size = c.maxLocals)
    (hRframes : 7 < R.frames) (hRlocals : (rest.map fun v => v.category).sum + 10240 ≤ R.locals) (hRcells : cells + 1 ≤ R.cells) (hRslots : slots + nb ≤ R.slots) (hlocks : meth.locks = false)
    (k : ∀ (H1 : Heap) (q9 : Addr) (ce : Cell), H.size ≤ H1.size → (∀ q : Nat, q < H.size → H1[q]? = H[q]?) → va_S A s.heap H1 locs → H1[q9]? = some ce → ce.vm = .none → s.vm.findClass "java/lang/NullPointerException" = some ce.cls → vx_W p l e R s m args below meth c H1 locs (cells + 1) (slots + nb) Q (F0 m pc ls rest) q9) :
    vx_NoteN p l e R s m args below meth c H locs cells slots Q (F0 m pc ls rest) := by
  intro T hT X
  have htr : e.platform.stackTraces = false := (show e.platform.stackTraces = l.stackTraces by rw [X.admits.platform]).trans hl
  have Y := vx_rebase X (R' := { frames := R.frames, locals := R.locals, cells := 1, slots := nb }) (Nat.le_refl _) (Nat.le_refl _) hRcells hRslots
  have hhp : ((T.setVm s.vm).setFrames (.invoking m args :: below)).heap = H := hT
  have hW0 : s.WarmedH ((T.setVm s.vm).setFrames (.invoking m args :: below)).vm := State.WarmedH.refl s
  have hat' : ∀ w ∈ vx_atN nb, w.before args ((T.setVm s.vm).setFrames (.invoking m args :: below)) = true := fun w hw => vx_ot_at hW0 rfl (hgood w hw) (hat w hw)
  have hU' : vx_Zq Bundle.tN "UNASSIGNED_STACK" Bundle.steD A ((T.setVm s.vm).setFrames (.invoking m args :: below)) ((T.setVm s.vm).setFrames (.invoking m args :: below)).heap := by rw [hhp]; exact vx_Zq.moved hW0.alike (hU.kept hS.2.1)
  have hN' : vx_Zq Bundle.tN "SUPPRESSED_SENTINEL" Bundle.listD A ((T.setVm s.vm).setFrames (.invoking m args :: below)) ((T.setVm s.vm).setFrames (.invoking m args :: below)).heap := by rw [hhp]; exact vx_Zq.moved hW0.alike (hN.kept hS.2.1)
  obtain ⟨S, q, ce, st, Z, hce, hcl', hv⟩ := vx_npeAt Y hexec htr (n := nb) (vx_own hat' (vx_isRefq hU'.1) (vx_isRefq hN'.1) hU'.2.word hN'.2.word) (fun x hx => nomatch hx)
    (g := F0 m pc ls rest) rfl hsize hRframes (by show 2 * 0 + (rest.map fun v => v.category).sum + 10240 ≤ R.locals; omega) (by show 0 + 1 ≤ 1; omega) (by show 0 + nb ≤ nb; omega) hlocks
  obtain ⟨f1, f2⟩ := vx_frame Z.same
  have f1' : H.size ≤ S.heap.size := by rw [← hT]; exact f1
  have f2' : ∀ q : Nat, q < H.size → S.heap[q]? = H[q]? := fun q hq => by
    rw [← hT]
    exact f2 q (by rw [← hT] at hq; exact hq) (fun z hz => nomatch hz)
  have X5 := vx_back9 X Y Z
  have X6 : Stand p l e R s m args below meth c S locs (cells + 1) (slots + nb) := { X5 with same := X5.same.mono (by omega) (by omega) }
  obtain ⟨t, a1, b1⟩ := k S.heap q ce f1' f2' ⟨Nat.le_trans hS.1 f1', fun q h1 h2 => (f2' q (Nat.lt_of_lt_of_le h1 hS.1)).trans (hS.2.1 q h1 h2), hS.2.2⟩ hce hv hcl' S rfl X6
  exact ⟨t, st t a1, b1⟩
variable {Q : State → Prop} {cc : ByteArray} {pc : Nat} {ls : Array Slot} {rest : List Value}
theorem vx_idivZ (hexec : p.tables.exec = Jvm.exec) (hb : c.code = cc) {a b : Int32} (h0 : b = 0) (d : decode cc pc = .ok (.idiv, 1)) (k : vx_Note p l e R s m args below meth c H locs cells slots Q (F0 m pc ls rest) "java/lang/ArithmeticException" "/ by zero") :
    W p l e R s m args below meth c H locs cells slots Q (F0 m pc ls (.int b :: .int a :: rest)) := by
  intro T hT X
  obtain ⟨t, st, q⟩ := k T hT X
  exact ⟨t, X.idivZero hexec (g := F0 m pc ls (.int b :: .int a :: rest)) rfl (a := a) (rest := rest) (by rw [h0]) (by rw [hb]; exact d) t st, q⟩
theorem vx_iremZ (hexec : p.tables.exec = Jvm.exec) (hb : c.code = cc) {a b : Int32} (h0 : b = 0) (d : decode cc pc = .ok (.irem, 1)) (k : vx_Note p l e R s m args below meth c H locs cells slots Q (F0 m pc ls rest) "java/lang/ArithmeticException" "/ by zero") :
    W p l e R s m args below meth c H locs cells slots Q (F0 m pc ls (.int b :: .int a :: rest)) := by
  intro T hT X
  obtain ⟨t, st, q⟩ := k T hT X
  exact ⟨t, X.iremZero hexec (g := F0 m pc ls (.int b :: .int a :: rest)) rfl (a := a) (rest := rest) (by rw [h0]) (by rw [hb]; exact d) t st, q⟩
theorem vx_ldivZ (hexec : p.tables.exec = Jvm.exec) (hb : c.code = cc) {a b : Int64} (h0 : b = 0) (d : decode cc pc = .ok (.ldiv, 1)) (k : vx_Note p l e R s m args below meth c H locs cells slots Q (F0 m pc ls rest) "java/lang/ArithmeticException" "/ by zero") :
    W p l e R s m args below meth c H locs cells slots Q (F0 m pc ls (.long b :: .long a :: rest)) := by
  intro T hT X
  obtain ⟨t, st, q⟩ := k T hT X
  exact ⟨t, X.ldivZero hexec (g := F0 m pc ls (.long b :: .long a :: rest)) rfl (a := a) (rest := rest) (by rw [h0]) (by rw [hb]; exact d) t st, q⟩
theorem vx_lremZ (hexec : p.tables.exec = Jvm.exec) (hb : c.code = cc) {a b : Int64} (h0 : b = 0) (d : decode cc pc = .ok (.lrem, 1)) (k : vx_Note p l e R s m args below meth c H locs cells slots Q (F0 m pc ls rest) "java/lang/ArithmeticException" "/ by zero") :
    W p l e R s m args below meth c H locs cells slots Q (F0 m pc ls (.long b :: .long a :: rest)) := by
  intro T hT X
  obtain ⟨t, st, q⟩ := k T hT X
  exact ⟨t, X.lremZero hexec (g := F0 m pc ls (.long b :: .long a :: rest)) rfl (a := a) (rest := rest) (by rw [h0]) (by rw [hb]; exact d) t st, q⟩
theorem vx_ialdZ {D : va_G} {cl : List vw_C} {ws : va_W} {tys : List (ClassId × FieldType)} {a : Nat} (hexec : p.tables.exec = Jvm.exec) (hb : c.code = cc) (hK : va_K D cl tys s) (hP : va_P D cl ws H) (q0 t0 : Nat) {cA : ClassId} {n : Nat} {f : Nat → Int32} (ha : ws[q0]? = some (a, .inl (cA, n, .inl f))) (ht : tys[t0]? = some (cA, .int)) {i : Int32} (hout : ¬ vp_in i n) (hdg : decode cc pc = .ok (.iaload, 1))
    (k : ∀ tx : String, tx = (toString "Index " ++ toString i ++ toString " out of bounds for length " ++ toString n : String) → vx_Note p l e R s m args below meth c H locs cells slots Q (F0 m pc ls rest) "java/lang/ArrayIndexOutOfBoundsException" tx) : W p l e R s m args below meth c H locs cells slots Q (F0 m pc ls (.int i :: .ref a :: rest)) := by
  intro T hT X
  obtain ⟨t, st, q⟩ := k _ rfl T hT X
  refine ⟨t, ?_, q⟩
  have h1 := X.ialoadOut hexec (by rw [hT]; exact hP q0 _ ha) ((hK.2 t0 _ ht).1 n (fun j => .int (f j))) (j := i) (by show (i < 0 ∨ (arrV _ _ _).slots.size ≤ _); rw [arrV_size]; exact Classical.byContradiction hout) (g := F0 m pc ls (.int i :: .ref a :: rest)) rfl (rest := rest) rfl (by rw [hb]; exact hdg) t
  simp only [arrV_size] at h1
  exact h1 st
theorem vx_iastZ {D : va_G} {cl : List vw_C} {ws : va_W} {tys : List (ClassId × FieldType)} {a : Nat} (hexec : p.tables.exec = Jvm.exec) (hb : c.code = cc) (hK : va_K D cl tys s) (hP : va_P D cl ws H) (q0 t0 : Nat) {cA : ClassId} {n : Nat} {f : Nat → Int32} (ha : ws[q0]? = some (a, .inl (cA, n, .inl f))) (ht : tys[t0]? = some (cA, .int)) {i : Int32} {x : Int32} (hout : ¬ vp_in i n) (hdg : decode cc pc = .ok (.iastore, 1))
    (k : ∀ tx : String, tx = (toString "Index " ++ toString i ++ toString " out of bounds for length " ++ toString n : String) → vx_Note p l e R s m args below meth c H locs cells slots Q (F0 m pc ls rest) "java/lang/ArrayIndexOutOfBoundsException" tx) : W p l e R s m args below meth c H locs cells slots Q (F0 m pc ls (.int x :: .int i :: .ref a :: rest)) := by
  intro T hT X
  obtain ⟨t, st, q⟩ := k _ rfl T hT X
  refine ⟨t, ?_, q⟩
  have h1 := X.iastoreOut hexec (by rw [hT]; exact hP q0 _ ha) ((hK.2 t0 _ ht).1 n (fun j => .int (f j))) (j := i) (by show (i < 0 ∨ (arrV _ _ _).slots.size ≤ _); rw [arrV_size]; exact Classical.byContradiction hout) (g := F0 m pc ls (.int x :: .int i :: .ref a :: rest)) rfl (rest := rest) rfl (by rw [hb]; exact hdg) t
  simp only [arrV_size] at h1
  exact h1 st
theorem vx_baldZ {D : va_G} {cl : List vw_C} {ws : va_W} {tys : List (ClassId × FieldType)} {a : Nat} (hexec : p.tables.exec = Jvm.exec) (hb : c.code = cc) (hK : va_K D cl tys s) (hP : va_P D cl ws H) (q0 t0 : Nat) {cA : ClassId} {n : Nat} {f : Nat → Int32} (ha : ws[q0]? = some (a, .inl (cA, n, .inl f))) (ht : tys[t0]? = some (cA, .byte)) {i : Int32} (hout : ¬ vp_in i n) (hdg : decode cc pc = .ok (.baload, 1))
    (k : ∀ tx : String, tx = (toString "Index " ++ toString i ++ toString " out of bounds for length " ++ toString n : String) → vx_Note p l e R s m args below meth c H locs cells slots Q (F0 m pc ls rest) "java/lang/ArrayIndexOutOfBoundsException" tx) : W p l e R s m args below meth c H locs cells slots Q (F0 m pc ls (.int i :: .ref a :: rest)) := by
  intro T hT X
  obtain ⟨t, st, q⟩ := k _ rfl T hT X
  refine ⟨t, ?_, q⟩
  have h1 := X.baloadOut hexec (by rw [hT]; exact hP q0 _ ha) ((hK.2 t0 _ ht).1 n (fun j => .int (f j))) (j := i) (by show (i < 0 ∨ (arrV _ _ _).slots.size ≤ _); rw [arrV_size]; exact Classical.byContradiction hout) (g := F0 m pc ls (.int i :: .ref a :: rest)) rfl (rest := rest) rfl (by rw [hb]; exact hdg) t
  simp only [arrV_size] at h1
  exact h1 st
theorem vx_bastZ {D : va_G} {cl : List vw_C} {ws : va_W} {tys : List (ClassId × FieldType)} {a : Nat} (hexec : p.tables.exec = Jvm.exec) (hb : c.code = cc) (hK : va_K D cl tys s) (hP : va_P D cl ws H) (q0 t0 : Nat) {cA : ClassId} {n : Nat} {f : Nat → Int32} (ha : ws[q0]? = some (a, .inl (cA, n, .inl f))) (ht : tys[t0]? = some (cA, .byte)) {i : Int32} {x : Int32} (hout : ¬ vp_in i n) (hdg : decode cc pc = .ok (.bastore, 1))
    (k : ∀ tx : String, tx = (toString "Index " ++ toString i ++ toString " out of bounds for length " ++ toString n : String) → vx_Note p l e R s m args below meth c H locs cells slots Q (F0 m pc ls rest) "java/lang/ArrayIndexOutOfBoundsException" tx) : W p l e R s m args below meth c H locs cells slots Q (F0 m pc ls (.int x :: .int i :: .ref a :: rest)) := by
  intro T hT X
  obtain ⟨t, st, q⟩ := k _ rfl T hT X
  refine ⟨t, ?_, q⟩
  have h1 := X.bastoreOut hexec (by rw [hT]; exact hP q0 _ ha) ((hK.2 t0 _ ht).1 n (fun j => .int (f j))) (j := i) (by show (i < 0 ∨ (arrV _ _ _).slots.size ≤ _); rw [arrV_size]; exact Classical.byContradiction hout) (g := F0 m pc ls (.int x :: .int i :: .ref a :: rest)) rfl (rest := rest) rfl (by rw [hb]; exact hdg) t
  simp only [arrV_size] at h1
  exact h1 st
theorem vx_zaldZ {D : va_G} {cl : List vw_C} {ws : va_W} {tys : List (ClassId × FieldType)} {a : Nat} (hexec : p.tables.exec = Jvm.exec) (hb : c.code = cc) (hK : va_K D cl tys s) (hP : va_P D cl ws H) (q0 t0 : Nat) {cA : ClassId} {n : Nat} {f : Nat → Int32} (ha : ws[q0]? = some (a, .inl (cA, n, .inl f))) (ht : tys[t0]? = some (cA, .boolean)) {i : Int32} (hout : ¬ vp_in i n) (hdg : decode cc pc = .ok (.baload, 1))
    (k : ∀ tx : String, tx = (toString "Index " ++ toString i ++ toString " out of bounds for length " ++ toString n : String) → vx_Note p l e R s m args below meth c H locs cells slots Q (F0 m pc ls rest) "java/lang/ArrayIndexOutOfBoundsException" tx) : W p l e R s m args below meth c H locs cells slots Q (F0 m pc ls (.int i :: .ref a :: rest)) := by
  intro T hT X
  obtain ⟨t, st, q⟩ := k _ rfl T hT X
  refine ⟨t, ?_, q⟩
  have h1 := X.baloadOut hexec (by rw [hT]; exact hP q0 _ ha) ((hK.2 t0 _ ht).1 n (fun j => .int (f j))) (j := i) (by show (i < 0 ∨ (arrV _ _ _).slots.size ≤ _); rw [arrV_size]; exact Classical.byContradiction hout) (g := F0 m pc ls (.int i :: .ref a :: rest)) rfl (rest := rest) rfl (by rw [hb]; exact hdg) t
  simp only [arrV_size] at h1
  exact h1 st
theorem vx_zastZ {D : va_G} {cl : List vw_C} {ws : va_W} {tys : List (ClassId × FieldType)} {a : Nat} (hexec : p.tables.exec = Jvm.exec) (hb : c.code = cc) (hK : va_K D cl tys s) (hP : va_P D cl ws H) (q0 t0 : Nat) {cA : ClassId} {n : Nat} {f : Nat → Int32} (ha : ws[q0]? = some (a, .inl (cA, n, .inl f))) (ht : tys[t0]? = some (cA, .boolean)) {i : Int32} {x : Int32} (hout : ¬ vp_in i n) (hdg : decode cc pc = .ok (.bastore, 1))
    (k : ∀ tx : String, tx = (toString "Index " ++ toString i ++ toString " out of bounds for length " ++ toString n : String) → vx_Note p l e R s m args below meth c H locs cells slots Q (F0 m pc ls rest) "java/lang/ArrayIndexOutOfBoundsException" tx) : W p l e R s m args below meth c H locs cells slots Q (F0 m pc ls (.int x :: .int i :: .ref a :: rest)) := by
  intro T hT X
  obtain ⟨t, st, q⟩ := k _ rfl T hT X
  refine ⟨t, ?_, q⟩
  have h1 := X.bastoreOut hexec (by rw [hT]; exact hP q0 _ ha) ((hK.2 t0 _ ht).1 n (fun j => .int (f j))) (j := i) (by show (i < 0 ∨ (arrV _ _ _).slots.size ≤ _); rw [arrV_size]; exact Classical.byContradiction hout) (g := F0 m pc ls (.int x :: .int i :: .ref a :: rest)) rfl (rest := rest) rfl (by rw [hb]; exact hdg) t
  simp only [arrV_size] at h1
  exact h1 st
theorem vx_caldZ {D : va_G} {cl : List vw_C} {ws : va_W} {tys : List (ClassId × FieldType)} {a : Nat} (hexec : p.tables.exec = Jvm.exec) (hb : c.code = cc) (hK : va_K D cl tys s) (hP : va_P D cl ws H) (q0 t0 : Nat) {cA : ClassId} {n : Nat} {f : Nat → Int32} (ha : ws[q0]? = some (a, .inl (cA, n, .inl f))) (ht : tys[t0]? = some (cA, .char)) {i : Int32} (hout : ¬ vp_in i n) (hdg : decode cc pc = .ok (.caload, 1))
    (k : ∀ tx : String, tx = (toString "Index " ++ toString i ++ toString " out of bounds for length " ++ toString n : String) → vx_Note p l e R s m args below meth c H locs cells slots Q (F0 m pc ls rest) "java/lang/ArrayIndexOutOfBoundsException" tx) : W p l e R s m args below meth c H locs cells slots Q (F0 m pc ls (.int i :: .ref a :: rest)) := by
  intro T hT X
  obtain ⟨t, st, q⟩ := k _ rfl T hT X
  refine ⟨t, ?_, q⟩
  have h1 := X.caloadOut hexec (by rw [hT]; exact hP q0 _ ha) ((hK.2 t0 _ ht).1 n (fun j => .int (f j))) (j := i) (by show (i < 0 ∨ (arrV _ _ _).slots.size ≤ _); rw [arrV_size]; exact Classical.byContradiction hout) (g := F0 m pc ls (.int i :: .ref a :: rest)) rfl (rest := rest) rfl (by rw [hb]; exact hdg) t
  simp only [arrV_size] at h1
  exact h1 st
theorem vx_castZ {D : va_G} {cl : List vw_C} {ws : va_W} {tys : List (ClassId × FieldType)} {a : Nat} (hexec : p.tables.exec = Jvm.exec) (hb : c.code = cc) (hK : va_K D cl tys s) (hP : va_P D cl ws H) (q0 t0 : Nat) {cA : ClassId} {n : Nat} {f : Nat → Int32} (ha : ws[q0]? = some (a, .inl (cA, n, .inl f))) (ht : tys[t0]? = some (cA, .char)) {i : Int32} {x : Int32} (hout : ¬ vp_in i n) (hdg : decode cc pc = .ok (.castore, 1))
    (k : ∀ tx : String, tx = (toString "Index " ++ toString i ++ toString " out of bounds for length " ++ toString n : String) → vx_Note p l e R s m args below meth c H locs cells slots Q (F0 m pc ls rest) "java/lang/ArrayIndexOutOfBoundsException" tx) : W p l e R s m args below meth c H locs cells slots Q (F0 m pc ls (.int x :: .int i :: .ref a :: rest)) := by
  intro T hT X
  obtain ⟨t, st, q⟩ := k _ rfl T hT X
  refine ⟨t, ?_, q⟩
  have h1 := X.castoreOut hexec (by rw [hT]; exact hP q0 _ ha) ((hK.2 t0 _ ht).1 n (fun j => .int (f j))) (j := i) (by show (i < 0 ∨ (arrV _ _ _).slots.size ≤ _); rw [arrV_size]; exact Classical.byContradiction hout) (g := F0 m pc ls (.int x :: .int i :: .ref a :: rest)) rfl (rest := rest) rfl (by rw [hb]; exact hdg) t
  simp only [arrV_size] at h1
  exact h1 st
theorem vx_saldZ {D : va_G} {cl : List vw_C} {ws : va_W} {tys : List (ClassId × FieldType)} {a : Nat} (hexec : p.tables.exec = Jvm.exec) (hb : c.code = cc) (hK : va_K D cl tys s) (hP : va_P D cl ws H) (q0 t0 : Nat) {cA : ClassId} {n : Nat} {f : Nat → Int32} (ha : ws[q0]? = some (a, .inl (cA, n, .inl f))) (ht : tys[t0]? = some (cA, .short)) {i : Int32} (hout : ¬ vp_in i n) (hdg : decode cc pc = .ok (.saload, 1))
    (k : ∀ tx : String, tx = (toString "Index " ++ toString i ++ toString " out of bounds for length " ++ toString n : String) → vx_Note p l e R s m args below meth c H locs cells slots Q (F0 m pc ls rest) "java/lang/ArrayIndexOutOfBoundsException" tx) : W p l e R s m args below meth c H locs cells slots Q (F0 m pc ls (.int i :: .ref a :: rest)) := by
  intro T hT X
  obtain ⟨t, st, q⟩ := k _ rfl T hT X
  refine ⟨t, ?_, q⟩
  have h1 := X.saloadOut hexec (by rw [hT]; exact hP q0 _ ha) ((hK.2 t0 _ ht).1 n (fun j => .int (f j))) (j := i) (by show (i < 0 ∨ (arrV _ _ _).slots.size ≤ _); rw [arrV_size]; exact Classical.byContradiction hout) (g := F0 m pc ls (.int i :: .ref a :: rest)) rfl (rest := rest) rfl (by rw [hb]; exact hdg) t
  simp only [arrV_size] at h1
  exact h1 st
theorem vx_sastZ {D : va_G} {cl : List vw_C} {ws : va_W} {tys : List (ClassId × FieldType)} {a : Nat} (hexec : p.tables.exec = Jvm.exec) (hb : c.code = cc) (hK : va_K D cl tys s) (hP : va_P D cl ws H) (q0 t0 : Nat) {cA : ClassId} {n : Nat} {f : Nat → Int32} (ha : ws[q0]? = some (a, .inl (cA, n, .inl f))) (ht : tys[t0]? = some (cA, .short)) {i : Int32} {x : Int32} (hout : ¬ vp_in i n) (hdg : decode cc pc = .ok (.sastore, 1))
    (k : ∀ tx : String, tx = (toString "Index " ++ toString i ++ toString " out of bounds for length " ++ toString n : String) → vx_Note p l e R s m args below meth c H locs cells slots Q (F0 m pc ls rest) "java/lang/ArrayIndexOutOfBoundsException" tx) : W p l e R s m args below meth c H locs cells slots Q (F0 m pc ls (.int x :: .int i :: .ref a :: rest)) := by
  intro T hT X
  obtain ⟨t, st, q⟩ := k _ rfl T hT X
  refine ⟨t, ?_, q⟩
  have h1 := X.sastoreOut hexec (by rw [hT]; exact hP q0 _ ha) ((hK.2 t0 _ ht).1 n (fun j => .int (f j))) (j := i) (by show (i < 0 ∨ (arrV _ _ _).slots.size ≤ _); rw [arrV_size]; exact Classical.byContradiction hout) (g := F0 m pc ls (.int x :: .int i :: .ref a :: rest)) rfl (rest := rest) rfl (by rw [hb]; exact hdg) t
  simp only [arrV_size] at h1
  exact h1 st
theorem vx_laldZ {D : va_G} {cl : List vw_C} {ws : va_W} {tys : List (ClassId × FieldType)} {a : Nat} (hexec : p.tables.exec = Jvm.exec) (hb : c.code = cc) (hK : va_K D cl tys s) (hP : va_P D cl ws H) (q0 t0 : Nat) {cA : ClassId} {n : Nat} {f : Nat → Int64} (ha : ws[q0]? = some (a, .inl (cA, n, .inr (.inl f)))) (ht : tys[t0]? = some (cA, .long)) {i : Int32} (hout : ¬ vp_in i n) (hdg : decode cc pc = .ok (.laload, 1))
    (k : ∀ tx : String, tx = (toString "Index " ++ toString i ++ toString " out of bounds for length " ++ toString n : String) → vx_Note p l e R s m args below meth c H locs cells slots Q (F0 m pc ls rest) "java/lang/ArrayIndexOutOfBoundsException" tx) : W p l e R s m args below meth c H locs cells slots Q (F0 m pc ls (.int i :: .ref a :: rest)) := by
  intro T hT X
  obtain ⟨t, st, q⟩ := k _ rfl T hT X
  refine ⟨t, ?_, q⟩
  have h1 := X.laloadOut hexec (by rw [hT]; exact hP q0 _ ha) ((hK.2 t0 _ ht).1 n (fun j => .long (f j))) (j := i) (by show (i < 0 ∨ (arrV _ _ _).slots.size ≤ _); rw [arrV_size]; exact Classical.byContradiction hout) (g := F0 m pc ls (.int i :: .ref a :: rest)) rfl (rest := rest) rfl (by rw [hb]; exact hdg) t
  simp only [arrV_size] at h1
  exact h1 st
theorem vx_lastZ {D : va_G} {cl : List vw_C} {ws : va_W} {tys : List (ClassId × FieldType)} {a : Nat} (hexec : p.tables.exec = Jvm.exec) (hb : c.code = cc) (hK : va_K D cl tys s) (hP : va_P D cl ws H) (q0 t0 : Nat) {cA : ClassId} {n : Nat} {f : Nat → Int64} (ha : ws[q0]? = some (a, .inl (cA, n, .inr (.inl f)))) (ht : tys[t0]? = some (cA, .long)) {i : Int32} {x : Int64} (hout : ¬ vp_in i n) (hdg : decode cc pc = .ok (.lastore, 1))
    (k : ∀ tx : String, tx = (toString "Index " ++ toString i ++ toString " out of bounds for length " ++ toString n : String) → vx_Note p l e R s m args below meth c H locs cells slots Q (F0 m pc ls rest) "java/lang/ArrayIndexOutOfBoundsException" tx) : W p l e R s m args below meth c H locs cells slots Q (F0 m pc ls (.long x :: .int i :: .ref a :: rest)) := by
  intro T hT X
  obtain ⟨t, st, q⟩ := k _ rfl T hT X
  refine ⟨t, ?_, q⟩
  have h1 := X.lastoreOut hexec (by rw [hT]; exact hP q0 _ ha) ((hK.2 t0 _ ht).1 n (fun j => .long (f j))) (j := i) (by show (i < 0 ∨ (arrV _ _ _).slots.size ≤ _); rw [arrV_size]; exact Classical.byContradiction hout) (g := F0 m pc ls (.long x :: .int i :: .ref a :: rest)) rfl (rest := rest) rfl (by rw [hb]; exact hdg) t
  simp only [arrV_size] at h1
  exact h1 st
theorem vx_faldZ {D : va_G} {cl : List vw_C} {ws : va_W} {tys : List (ClassId × FieldType)} {a : Nat} (hexec : p.tables.exec = Jvm.exec) (hb : c.code = cc) (hK : va_K D cl tys s) (hP : va_P D cl ws H) (q0 t0 : Nat) {cA : ClassId} {n : Nat} {f : Nat → UInt32} (ha : ws[q0]? = some (a, .inl (cA, n, .inr (.inr (.inl f))))) (ht : tys[t0]? = some (cA, .float)) {i : Int32} (hout : ¬ vp_in i n) (hdg : decode cc pc = .ok (.faload, 1))
    (k : ∀ tx : String, tx = (toString "Index " ++ toString i ++ toString " out of bounds for length " ++ toString n : String) → vx_Note p l e R s m args below meth c H locs cells slots Q (F0 m pc ls rest) "java/lang/ArrayIndexOutOfBoundsException" tx) : W p l e R s m args below meth c H locs cells slots Q (F0 m pc ls (.int i :: .ref a :: rest)) := by
  intro T hT X
  obtain ⟨t, st, q⟩ := k _ rfl T hT X
  refine ⟨t, ?_, q⟩
  have h1 := X.faloadOut hexec (by rw [hT]; exact hP q0 _ ha) ((hK.2 t0 _ ht).1 n (fun j => .float (f j))) (j := i) (by show (i < 0 ∨ (arrV _ _ _).slots.size ≤ _); rw [arrV_size]; exact Classical.byContradiction hout) (g := F0 m pc ls (.int i :: .ref a :: rest)) rfl (rest := rest) rfl (by rw [hb]; exact hdg) t
  simp only [arrV_size] at h1
  exact h1 st
theorem vx_fastZ {D : va_G} {cl : List vw_C} {ws : va_W} {tys : List (ClassId × FieldType)} {a : Nat} (hexec : p.tables.exec = Jvm.exec) (hb : c.code = cc) (hK : va_K D cl tys s) (hP : va_P D cl ws H) (q0 t0 : Nat) {cA : ClassId} {n : Nat} {f : Nat → UInt32} (ha : ws[q0]? = some (a, .inl (cA, n, .inr (.inr (.inl f))))) (ht : tys[t0]? = some (cA, .float)) {i : Int32} {x : UInt32} (hout : ¬ vp_in i n) (hdg : decode cc pc = .ok (.fastore, 1))
    (k : ∀ tx : String, tx = (toString "Index " ++ toString i ++ toString " out of bounds for length " ++ toString n : String) → vx_Note p l e R s m args below meth c H locs cells slots Q (F0 m pc ls rest) "java/lang/ArrayIndexOutOfBoundsException" tx) : W p l e R s m args below meth c H locs cells slots Q (F0 m pc ls (.float x :: .int i :: .ref a :: rest)) := by
  intro T hT X
  obtain ⟨t, st, q⟩ := k _ rfl T hT X
  refine ⟨t, ?_, q⟩
  have h1 := X.fastoreOut hexec (by rw [hT]; exact hP q0 _ ha) ((hK.2 t0 _ ht).1 n (fun j => .float (f j))) (j := i) (by show (i < 0 ∨ (arrV _ _ _).slots.size ≤ _); rw [arrV_size]; exact Classical.byContradiction hout) (g := F0 m pc ls (.float x :: .int i :: .ref a :: rest)) rfl (rest := rest) rfl (by rw [hb]; exact hdg) t
  simp only [arrV_size] at h1
  exact h1 st
theorem vx_daldZ {D : va_G} {cl : List vw_C} {ws : va_W} {tys : List (ClassId × FieldType)} {a : Nat} (hexec : p.tables.exec = Jvm.exec) (hb : c.code = cc) (hK : va_K D cl tys s) (hP : va_P D cl ws H) (q0 t0 : Nat) {cA : ClassId} {n : Nat} {f : Nat → UInt64} (ha : ws[q0]? = some (a, .inl (cA, n, .inr (.inr (.inr (.inl f)))))) (ht : tys[t0]? = some (cA, .double)) {i : Int32} (hout : ¬ vp_in i n) (hdg : decode cc pc = .ok (.daload, 1))
    (k : ∀ tx : String, tx = (toString "Index " ++ toString i ++ toString " out of bounds for length " ++ toString n : String) → vx_Note p l e R s m args below meth c H locs cells slots Q (F0 m pc ls rest) "java/lang/ArrayIndexOutOfBoundsException" tx) : W p l e R s m args below meth c H locs cells slots Q (F0 m pc ls (.int i :: .ref a :: rest)) := by
  intro T hT X
  obtain ⟨t, st, q⟩ := k _ rfl T hT X
  refine ⟨t, ?_, q⟩
  have h1 := X.daloadOut hexec (by rw [hT]; exact hP q0 _ ha) ((hK.2 t0 _ ht).1 n (fun j => .double (f j))) (j := i) (by show (i < 0 ∨ (arrV _ _ _).slots.size ≤ _); rw [arrV_size]; exact Classical.byContradiction hout) (g := F0 m pc ls (.int i :: .ref a :: rest)) rfl (rest := rest) rfl (by rw [hb]; exact hdg) t
  simp only [arrV_size] at h1
  exact h1 st
theorem vx_dastZ {D : va_G} {cl : List vw_C} {ws : va_W} {tys : List (ClassId × FieldType)} {a : Nat} (hexec : p.tables.exec = Jvm.exec) (hb : c.code = cc) (hK : va_K D cl tys s) (hP : va_P D cl ws H) (q0 t0 : Nat) {cA : ClassId} {n : Nat} {f : Nat → UInt64} (ha : ws[q0]? = some (a, .inl (cA, n, .inr (.inr (.inr (.inl f)))))) (ht : tys[t0]? = some (cA, .double)) {i : Int32} {x : UInt64} (hout : ¬ vp_in i n) (hdg : decode cc pc = .ok (.dastore, 1))
    (k : ∀ tx : String, tx = (toString "Index " ++ toString i ++ toString " out of bounds for length " ++ toString n : String) → vx_Note p l e R s m args below meth c H locs cells slots Q (F0 m pc ls rest) "java/lang/ArrayIndexOutOfBoundsException" tx) : W p l e R s m args below meth c H locs cells slots Q (F0 m pc ls (.double x :: .int i :: .ref a :: rest)) := by
  intro T hT X
  obtain ⟨t, st, q⟩ := k _ rfl T hT X
  refine ⟨t, ?_, q⟩
  have h1 := X.dastoreOut hexec (by rw [hT]; exact hP q0 _ ha) ((hK.2 t0 _ ht).1 n (fun j => .double (f j))) (j := i) (by show (i < 0 ∨ (arrV _ _ _).slots.size ≤ _); rw [arrV_size]; exact Classical.byContradiction hout) (g := F0 m pc ls (.double x :: .int i :: .ref a :: rest)) rfl (rest := rest) rfl (by rw [hb]; exact hdg) t
  simp only [arrV_size] at h1
  exact h1 st
theorem vx_arraylengthN (hexec : p.tables.exec = Jvm.exec) (hb : c.code = cc) (hdg : decode cc pc = .ok (.arraylength, 1)) (k : vx_NoteN p l e R s m args below meth c H locs cells slots Q (F0 m pc ls rest)) : W p l e R s m args below meth c H locs cells slots Q (F0 m pc ls (.null :: rest)) := by
  intro T hT X
  obtain ⟨t, st, q⟩ := k T hT X
  exact ⟨t, X.arraylengthNull hexec (g := F0 m pc ls (.null :: rest)) rfl (rest := rest) rfl (by rw [hb]; exact hdg) t st, q⟩
theorem vx_ialoadN (hexec : p.tables.exec = Jvm.exec) (hb : c.code = cc) {i : Int32} (hdg : decode cc pc = .ok (.iaload, 1)) (k : vx_NoteN p l e R s m args below meth c H locs cells slots Q (F0 m pc ls rest)) : W p l e R s m args below meth c H locs cells slots Q (F0 m pc ls (.int i :: .null :: rest)) := by
  intro T hT X
  obtain ⟨t, st, q⟩ := k T hT X
  exact ⟨t, X.ialoadNull hexec (g := F0 m pc ls (.int i :: .null :: rest)) rfl (rest := rest) rfl (by rw [hb]; exact hdg) t st, q⟩
theorem vx_laloadN (hexec : p.tables.exec = Jvm.exec) (hb : c.code = cc) {i : Int32} (hdg : decode cc pc = .ok (.laload, 1)) (k : vx_NoteN p l e R s m args below meth c H locs cells slots Q (F0 m pc ls rest)) : W p l e R s m args below meth c H locs cells slots Q (F0 m pc ls (.int i :: .null :: rest)) := by
  intro T hT X
  obtain ⟨t, st, q⟩ := k T hT X
  exact ⟨t, X.laloadNull hexec (g := F0 m pc ls (.int i :: .null :: rest)) rfl (rest := rest) rfl (by rw [hb]; exact hdg) t st, q⟩
theorem vx_faloadN (hexec : p.tables.exec = Jvm.exec) (hb : c.code = cc) {i : Int32} (hdg : decode cc pc = .ok (.faload, 1)) (k : vx_NoteN p l e R s m args below meth c H locs cells slots Q (F0 m pc ls rest)) : W p l e R s m args below meth c H locs cells slots Q (F0 m pc ls (.int i :: .null :: rest)) := by
  intro T hT X
  obtain ⟨t, st, q⟩ := k T hT X
  exact ⟨t, X.faloadNull hexec (g := F0 m pc ls (.int i :: .null :: rest)) rfl (rest := rest) rfl (by rw [hb]; exact hdg) t st, q⟩
theorem vx_daloadN (hexec : p.tables.exec = Jvm.exec) (hb : c.code = cc) {i : Int32} (hdg : decode cc pc = .ok (.daload, 1)) (k : vx_NoteN p l e R s m args below meth c H locs cells slots Q (F0 m pc ls rest)) : W p l e R s m args below meth c H locs cells slots Q (F0 m pc ls (.int i :: .null :: rest)) := by
  intro T hT X
  obtain ⟨t, st, q⟩ := k T hT X
  exact ⟨t, X.daloadNull hexec (g := F0 m pc ls (.int i :: .null :: rest)) rfl (rest := rest) rfl (by rw [hb]; exact hdg) t st, q⟩
theorem vx_aaloadN (hexec : p.tables.exec = Jvm.exec) (hb : c.code = cc) {i : Int32} (hdg : decode cc pc = .ok (.aaload, 1)) (k : vx_NoteN p l e R s m args below meth c H locs cells slots Q (F0 m pc ls rest)) : W p l e R s m args below meth c H locs cells slots Q (F0 m pc ls (.int i :: .null :: rest)) := by
  intro T hT X
  obtain ⟨t, st, q⟩ := k T hT X
  exact ⟨t, X.aaloadNull hexec (g := F0 m pc ls (.int i :: .null :: rest)) rfl (rest := rest) rfl (by rw [hb]; exact hdg) t st, q⟩
theorem vx_baloadN (hexec : p.tables.exec = Jvm.exec) (hb : c.code = cc) {i : Int32} (hdg : decode cc pc = .ok (.baload, 1)) (k : vx_NoteN p l e R s m args below meth c H locs cells slots Q (F0 m pc ls rest)) : W p l e R s m args below meth c H locs cells slots Q (F0 m pc ls (.int i :: .null :: rest)) := by
  intro T hT X
  obtain ⟨t, st, q⟩ := k T hT X
  exact ⟨t, X.baloadNull hexec (g := F0 m pc ls (.int i :: .null :: rest)) rfl (rest := rest) rfl (by rw [hb]; exact hdg) t st, q⟩
theorem vx_caloadN (hexec : p.tables.exec = Jvm.exec) (hb : c.code = cc) {i : Int32} (hdg : decode cc pc = .ok (.caload, 1)) (k : vx_NoteN p l e R s m args below meth c H locs cells slots Q (F0 m pc ls rest)) : W p l e R s m args below meth c H locs cells slots Q (F0 m pc ls (.int i :: .null :: rest)) := by
  intro T hT X
  obtain ⟨t, st, q⟩ := k T hT X
  exact ⟨t, X.caloadNull hexec (g := F0 m pc ls (.int i :: .null :: rest)) rfl (rest := rest) rfl (by rw [hb]; exact hdg) t st, q⟩
theorem vx_saloadN (hexec : p.tables.exec = Jvm.exec) (hb : c.code = cc) {i : Int32} (hdg : decode cc pc = .ok (.saload, 1)) (k : vx_NoteN p l e R s m args below meth c H locs cells slots Q (F0 m pc ls rest)) : W p l e R s m args below meth c H locs cells slots Q (F0 m pc ls (.int i :: .null :: rest)) := by
  intro T hT X
  obtain ⟨t, st, q⟩ := k T hT X
  exact ⟨t, X.saloadNull hexec (g := F0 m pc ls (.int i :: .null :: rest)) rfl (rest := rest) rfl (by rw [hb]; exact hdg) t st, q⟩
theorem vx_iastoreN (hexec : p.tables.exec = Jvm.exec) (hb : c.code = cc) {x : Int32} {i : Int32} (hdg : decode cc pc = .ok (.iastore, 1)) (k : vx_NoteN p l e R s m args below meth c H locs cells slots Q (F0 m pc ls rest)) : W p l e R s m args below meth c H locs cells slots Q (F0 m pc ls (.int x :: .int i :: .null :: rest)) := by
  intro T hT X
  obtain ⟨t, st, q⟩ := k T hT X
  exact ⟨t, X.iastoreNull hexec (g := F0 m pc ls (.int x :: .int i :: .null :: rest)) rfl (rest := rest) rfl (by rw [hb]; exact hdg) t st, q⟩
theorem vx_lastoreN (hexec : p.tables.exec = Jvm.exec) (hb : c.code = cc) {x : Int64} {i : Int32} (hdg : decode cc pc = .ok (.lastore, 1)) (k : vx_NoteN p l e R s m args below meth c H locs cells slots Q (F0 m pc ls rest)) : W p l e R s m args below meth c H locs cells slots Q (F0 m pc ls (.long x :: .int i :: .null :: rest)) := by
  intro T hT X
  obtain ⟨t, st, q⟩ := k T hT X
  exact ⟨t, X.lastoreNull hexec (g := F0 m pc ls (.long x :: .int i :: .null :: rest)) rfl (rest := rest) rfl (by rw [hb]; exact hdg) t st, q⟩
theorem vx_fastoreN (hexec : p.tables.exec = Jvm.exec) (hb : c.code = cc) {x : UInt32} {i : Int32} (hdg : decode cc pc = .ok (.fastore, 1)) (k : vx_NoteN p l e R s m args below meth c H locs cells slots Q (F0 m pc ls rest)) : W p l e R s m args below meth c H locs cells slots Q (F0 m pc ls (.float x :: .int i :: .null :: rest)) := by
  intro T hT X
  obtain ⟨t, st, q⟩ := k T hT X
  exact ⟨t, X.fastoreNull hexec (g := F0 m pc ls (.float x :: .int i :: .null :: rest)) rfl (rest := rest) rfl (by rw [hb]; exact hdg) t st, q⟩
theorem vx_dastoreN (hexec : p.tables.exec = Jvm.exec) (hb : c.code = cc) {x : UInt64} {i : Int32} (hdg : decode cc pc = .ok (.dastore, 1)) (k : vx_NoteN p l e R s m args below meth c H locs cells slots Q (F0 m pc ls rest)) : W p l e R s m args below meth c H locs cells slots Q (F0 m pc ls (.double x :: .int i :: .null :: rest)) := by
  intro T hT X
  obtain ⟨t, st, q⟩ := k T hT X
  exact ⟨t, X.dastoreNull hexec (g := F0 m pc ls (.double x :: .int i :: .null :: rest)) rfl (rest := rest) rfl (by rw [hb]; exact hdg) t st, q⟩
theorem vx_bastoreN (hexec : p.tables.exec = Jvm.exec) (hb : c.code = cc) {x : Int32} {i : Int32} (hdg : decode cc pc = .ok (.bastore, 1)) (k : vx_NoteN p l e R s m args below meth c H locs cells slots Q (F0 m pc ls rest)) : W p l e R s m args below meth c H locs cells slots Q (F0 m pc ls (.int x :: .int i :: .null :: rest)) := by
  intro T hT X
  obtain ⟨t, st, q⟩ := k T hT X
  exact ⟨t, X.bastoreNull hexec (g := F0 m pc ls (.int x :: .int i :: .null :: rest)) rfl (rest := rest) rfl (by rw [hb]; exact hdg) t st, q⟩
theorem vx_castoreN (hexec : p.tables.exec = Jvm.exec) (hb : c.code = cc) {x : Int32} {i : Int32} (hdg : decode cc pc = .ok (.castore, 1)) (k : vx_NoteN p l e R s m args below meth c H locs cells slots Q (F0 m pc ls rest)) : W p l e R s m args below meth c H locs cells slots Q (F0 m pc ls (.int x :: .int i :: .null :: rest)) := by
  intro T hT X
  obtain ⟨t, st, q⟩ := k T hT X
  exact ⟨t, X.castoreNull hexec (g := F0 m pc ls (.int x :: .int i :: .null :: rest)) rfl (rest := rest) rfl (by rw [hb]; exact hdg) t st, q⟩
theorem vx_sastoreN (hexec : p.tables.exec = Jvm.exec) (hb : c.code = cc) {x : Int32} {i : Int32} (hdg : decode cc pc = .ok (.sastore, 1)) (k : vx_NoteN p l e R s m args below meth c H locs cells slots Q (F0 m pc ls rest)) : W p l e R s m args below meth c H locs cells slots Q (F0 m pc ls (.int x :: .int i :: .null :: rest)) := by
  intro T hT X
  obtain ⟨t, st, q⟩ := k T hT X
  exact ⟨t, X.sastoreNull hexec (g := F0 m pc ls (.int x :: .int i :: .null :: rest)) rfl (rest := rest) rfl (by rw [hb]; exact hdg) t st, q⟩
theorem vx_invokeN {own C : String} {index maxL : Nat} {y : MethodName} {bytes : ByteArray} {ret : Option FieldType} (hexec : p.tables.exec = Jvm.exec) (hb : c.code = cc) (hown : s.vm.findClass own = some m.cls) (hlink : (Cond.methodLink own index y).before args s = true) (hinst : (Cond.instanceMethod y).before args s = true) (hcode : (Cond.code y bytes maxL ret).before args s = true) (hsel : (Cond.selects C y y).before args s = true)
    (hx : y.cls ≠ "java/lang/invoke/MethodHandle" ∧ y.cls ≠ "java/lang/invoke/VarHandle") {As : List Value} (hlen : (parseMethodDescriptor y.desc).map (fun d => d.parameters.length) = some As.length) (hdg : decode cc pc = .ok (.invokevirtual index, 3))
    (k : vx_NoteN p l e R s m args below meth c H locs cells slots Q (F0 m pc ls rest)) {st0 : List Value} (hst : st0 = As.reverse ++ .null :: rest) : W p l e R s m args below meth c H locs cells slots Q (F0 m pc ls st0) := by
  intro T hT X
  obtain ⟨r0, r, hn, hrm, hstR, hsigR⟩ := va_Decl.of hinst hcode
  obtain ⟨c2, r2, m2, q1, q2, q3, q4, kP, hkP, hkPi⟩ := Cond.selects_spec hsel
  cases hn.symm.trans q3
  have hl9 : As.length = r.sig.parameters.length := by
    rw [hsigR] at hlen
    exact (Option.some.inj hlen).symm
  obtain ⟨vm', X1, st1⟩ := X.invokevirtualNull hexec hown hlink hn hrm hstR hkP hkPi hx (g := F0 m pc ls st0) rfl (argsL := As) (rest := rest) hl9 hst (by rw [hb]; exact hdg)
  obtain ⟨t, st, q⟩ := k (T.setVm vm') hT X1
  exact ⟨t, st1 t st, q⟩
theorem vx_newarrayZ {atype : ArrayType} (hexec : p.tables.exec = Jvm.exec) (hb : c.code = cc) {n : Int32} (h0 : n < 0) (hdg : decode cc pc = .ok (.newarray atype, 2)) (k : ∀ tx : String, tx = toString n → vx_Note p l e R s m args below meth c H locs cells slots Q (F0 m pc ls rest) "java/lang/NegativeArraySizeException" tx) : W p l e R s m args below meth c H locs cells slots Q (F0 m pc ls (.int n :: rest)) := by
  intro T hT X
  obtain ⟨t, st, q⟩ := k _ rfl T hT X
  exact ⟨t, X.newarrayNegative hexec (g := F0 m pc ls (.int n :: rest)) rfl h0 (rest := rest) rfl (by rw [hb]; exact hdg) t st, q⟩
end
end VXM
/-! ===== END ===== -/
end
section
/-! names of classes, fields, methods (printed, given for pasting), and the place of each word in the tables -/
def RX0 : String := "HymnEndings$Book"
def TX0 : u_T := fun k => match k with
  | 0 => ("HymnEndings$Book", "letters", "[C", true)
  | 1 => ("HymnEndings$Book", "sizes", "[I", true)
  | _ => ("HymnEndings$Book", "lines", "I", false)
def tyX0 : Nat → FieldType := fun k => match k with
  | 0 => .array .char
  | 1 => .array .int
  | _ => .int
abbrev wsX00 : List Cond := u_ws RX0 TX0 3
theorem nmX0 : ∀ a, a < 3 → ∀ b, b < 3 → a ≠ b → (TX0 a).2.1 ≠ (TX0 b).2.1 := by decide +kernel
theorem tyX0_ok : ∀ k, k < 3 → parseFieldDescriptor (TX0 k).2.2.1 = some (tyX0 k) := by decide +kernel
abbrev cX0_init : ByteArray := prog_2_method_1_code
def yX0_init : MethodName := ⟨RX0, "<init>", "()V"⟩
abbrev cX0_lines : ByteArray := prog_2_method_2_code
def yX0_lines : MethodName := ⟨RX0, "lines", "()I"⟩
abbrev cX0_hasLine : ByteArray := prog_2_method_3_code
def yX0_hasLine : MethodName := ⟨RX0, "hasLine", "(I)Z"⟩
abbrev cX0_hasPlace : ByteArray := prog_2_method_4_code
def yX0_hasPlace : MethodName := ⟨RX0, "hasPlace", "(II)Z"⟩
abbrev cX0_size : ByteArray := prog_2_method_5_code
def yX0_size : MethodName := ⟨RX0, "size", "(I)I"⟩
abbrev cX0_letterAt : ByteArray := prog_2_method_6_code
def yX0_letterAt : MethodName := ⟨RX0, "letterAt", "(II)C"⟩
abbrev cX0_setLetter : ByteArray := prog_2_method_7_code
def yX0_setLetter : MethodName := ⟨RX0, "setLetter", "(IIC)V"⟩
abbrev cX0_openLine : ByteArray := prog_2_method_8_code
def yX0_openLine : MethodName := ⟨RX0, "openLine", "()V"⟩
abbrev cX0_putLetter : ByteArray := prog_2_method_9_code
def yX0_putLetter : MethodName := ⟨RX0, "putLetter", "(IC)V"⟩
abbrev cX0_removeLine : ByteArray := prog_2_method_10_code
def yX0_removeLine : MethodName := ⟨RX0, "removeLine", "(I)V"⟩
abbrev cX0_exchangeLines : ByteArray := prog_2_method_11_code
def yX0_exchangeLines : MethodName := ⟨RX0, "exchangeLines", "(II)V"⟩
abbrev cX0_reverseLine : ByteArray := prog_2_method_12_code
def yX0_reverseLine : MethodName := ⟨RX0, "reverseLine", "(I)V"⟩
abbrev cX0_copyFrom : ByteArray := prog_2_method_13_code
def yX0_copyFrom : MethodName := ⟨RX0, "copyFrom", "(LHymnEndings$Book;)V"⟩
abbrev cX0_sameLetters : ByteArray := prog_2_method_14_code
def yX0_sameLetters : MethodName := ⟨RX0, "sameLetters", "(IIII)I"⟩
abbrev cX0_comesBefore : ByteArray := prog_2_method_15_code
def yX0_comesBefore : MethodName := ⟨RX0, "comesBefore", "(IIII)Z"⟩
abbrev cX0_countEndingsBefore : ByteArray := prog_2_method_16_code
def yX0_countEndingsBefore : MethodName := ⟨RX0, "countEndingsBefore", "(II)I"⟩
abbrev cX0_isSame : ByteArray := prog_2_method_17_code
def yX0_isSame : MethodName := ⟨RX0, "isSame", "(II)Z"⟩
abbrev cX0_countSameLines : ByteArray := prog_2_method_18_code
def yX0_countSameLines : MethodName := ⟨RX0, "countSameLines", "(I)I"⟩
abbrev cX0_countKinds : ByteArray := prog_2_method_19_code
def yX0_countKinds : MethodName := ⟨RX0, "countKinds", "()I"⟩
abbrev cX0_isReverse : ByteArray := prog_2_method_20_code
def yX0_isReverse : MethodName := ⟨RX0, "isReverse", "(II)Z"⟩
abbrev cX0_countReversible : ByteArray := prog_2_method_21_code
def yX0_countReversible : MethodName := ⟨RX0, "countReversible", "()I"⟩
abbrev cX0_period : ByteArray := prog_2_method_22_code
def yX0_period : MethodName := ⟨RX0, "period", "(I)I"⟩
abbrev cX0_letterSet : ByteArray := prog_2_method_23_code
def yX0_letterSet : MethodName := ⟨RX0, "letterSet", "(I)I"⟩
abbrev cX0_letterSet_ : ByteArray := prog_2_method_24_code
def yX0_letterSet_ : MethodName := ⟨RX0, "letterSet", "()I"⟩
def RX1 : String := "HymnEndings$Changes"
def TX1 : u_T := fun k => match k with
  | _ => ("", "", "", false)
def tyX1 : Nat → FieldType := fun k => match k with
  | _ => .int
abbrev wsX10 : List Cond := u_ws RX1 TX1 0
theorem nmX1 : ∀ a, a < 0 → ∀ b, b < 0 → a ≠ b → (TX1 a).2.1 ≠ (TX1 b).2.1 := by decide +kernel
theorem tyX1_ok : ∀ k, k < 0 → parseFieldDescriptor (TX1 k).2.2.1 = some (tyX1 k) := by decide +kernel
abbrev cX1_addText : ByteArray := prog_3_method_2_code
def yX1_addText : MethodName := ⟨RX1, "addText", "(LHymnEndings$Book;LHymnEndings$Refusal;LHymnEndings$Text;)Z"⟩
abbrev cX1_addWord : ByteArray := prog_3_method_3_code
def yX1_addWord : MethodName := ⟨RX1, "addWord", "(LHymnEndings$Book;LHymnEndings$Refusal;LHymnEndings$Text;II)Z"⟩
abbrev cX1_cutLine : ByteArray := prog_3_method_4_code
def yX1_cutLine : MethodName := ⟨RX1, "cutLine", "(LHymnEndings$Book;LHymnEndings$Refusal;I)Z"⟩
abbrev cX1_changeLetter : ByteArray := prog_3_method_5_code
def yX1_changeLetter : MethodName := ⟨RX1, "changeLetter", "(LHymnEndings$Book;LHymnEndings$Refusal;IIC)Z"⟩
abbrev cX1_swapLines : ByteArray := prog_3_method_6_code
def yX1_swapLines : MethodName := ⟨RX1, "swapLines", "(LHymnEndings$Book;LHymnEndings$Refusal;II)Z"⟩
abbrev cX1_joinLines : ByteArray := prog_3_method_7_code
def yX1_joinLines : MethodName := ⟨RX1, "joinLines", "(LHymnEndings$Book;LHymnEndings$Refusal;II)Z"⟩
abbrev cX1_turnLine : ByteArray := prog_3_method_8_code
def yX1_turnLine : MethodName := ⟨RX1, "turnLine", "(LHymnEndings$Book;LHymnEndings$Refusal;I)Z"⟩
abbrev cX1_isNoPair : ByteArray := prog_3_method_9_code
def yX1_isNoPair : MethodName := ⟨RX1, "isNoPair", "(LHymnEndings$Book;LHymnEndings$Refusal;II)Z"⟩
abbrev cX1_isMissing : ByteArray := prog_3_method_10_code
def yX1_isMissing : MethodName := ⟨RX1, "isMissing", "(LHymnEndings$Book;LHymnEndings$Refusal;I)Z"⟩
def RX2 : String := "HymnEndings$CommandReader"
def TX2 : u_T := fun k => match k with
  | 0 => ("HymnEndings$CommandReader", "starts", "[I", true)
  | 1 => ("HymnEndings$CommandReader", "count", "I", false)
  | 2 => ("HymnEndings$CommandReader", "shape", "Ljava/lang/String;", false)
  | _ => ("HymnEndings$CommandReader", "step", "I", false)
def tyX2 : Nat → FieldType := fun k => match k with
  | 0 => .array .int
  | 1 => .int
  | 2 => .object "java/lang/String"
  | _ => .int
abbrev wsX20 : List Cond := u_ws RX2 TX2 4
theorem nmX2 : ∀ a, a < 4 → ∀ b, b < 4 → a ≠ b → (TX2 a).2.1 ≠ (TX2 b).2.1 := by decide +kernel
theorem tyX2_ok : ∀ k, k < 4 → parseFieldDescriptor (TX2 k).2.2.1 = some (tyX2 k) := by decide +kernel
abbrev cX2_init : ByteArray := prog_4_method_1_code
def yX2_init : MethodName := ⟨RX2, "<init>", "()V"⟩
abbrev cX2_commandCount : ByteArray := prog_4_method_2_code
def yX2_commandCount : MethodName := ⟨RX2, "commandCount", "()I"⟩
abbrev cX2_read : ByteArray := prog_4_method_3_code
def yX2_read : MethodName := ⟨RX2, "read", "(LHymnEndings$Text;)I"⟩
abbrev cX2_startCommand : ByteArray := prog_4_method_4_code
def yX2_startCommand : MethodName := ⟨RX2, "startCommand", "(I)V"⟩
abbrev cX2_takes : ByteArray := prog_4_method_5_code
def yX2_takes : MethodName := ⟨RX2, "takes", "(CI)Z"⟩
abbrev cX2_shapeOf : ByteArray := prog_4_method_6_code
def yX2_shapeOf : MethodName := ⟨RX2, "shapeOf", "(C)Ljava/lang/String;"⟩
abbrev cX2_fits : ByteArray := prog_4_method_7_code
def yX2_fits : MethodName := ⟨RX2, "fits", "(CC)Z"⟩
abbrev cX2_isWhole : ByteArray := prog_4_method_8_code
def yX2_isWhole : MethodName := ⟨RX2, "isWhole", "()Z"⟩
abbrev cX2_carryOut : ByteArray := prog_4_method_9_code
def yX2_carryOut : MethodName := ⟨RX2, "carryOut", "(LHymnEndings$Text;LHymnEndings$Book;LHymnEndings$Refusal;)Z"⟩
abbrev cX2_carryOutOne : ByteArray := prog_4_method_10_code
def yX2_carryOutOne : MethodName := ⟨RX2, "carryOutOne", "(LHymnEndings$Text;ILHymnEndings$Book;LHymnEndings$Refusal;)Z"⟩
abbrev cX2_endOf : ByteArray := prog_4_method_11_code
def yX2_endOf : MethodName := ⟨RX2, "endOf", "(ILHymnEndings$Text;)I"⟩
def RX3 : String := "HymnEndings$EndingOrder"
def TX3 : u_T := fun k => match k with
  | 0 => ("HymnEndings$EndingOrder", "lines", "[I", true)
  | 1 => ("HymnEndings$EndingOrder", "places", "[I", true)
  | 2 => ("HymnEndings$EndingOrder", "commons", "[I", true)
  | _ => ("HymnEndings$EndingOrder", "endings", "I", false)
def tyX3 : Nat → FieldType := fun k => match k with
  | 0 => .array .int
  | 1 => .array .int
  | 2 => .array .int
  | _ => .int
abbrev wsX30 : List Cond := u_ws RX3 TX3 4
theorem nmX3 : ∀ a, a < 4 → ∀ b, b < 4 → a ≠ b → (TX3 a).2.1 ≠ (TX3 b).2.1 := by decide +kernel
theorem tyX3_ok : ∀ k, k < 4 → parseFieldDescriptor (TX3 k).2.2.1 = some (tyX3 k) := by decide +kernel
abbrev cX3_init : ByteArray := prog_5_method_1_code
def yX3_init : MethodName := ⟨RX3, "<init>", "()V"⟩
abbrev cX3_endings : ByteArray := prog_5_method_2_code
def yX3_endings : MethodName := ⟨RX3, "endings", "()I"⟩
abbrev cX3_hasRank : ByteArray := prog_5_method_3_code
def yX3_hasRank : MethodName := ⟨RX3, "hasRank", "(I)Z"⟩
abbrev cX3_lineAt : ByteArray := prog_5_method_4_code
def yX3_lineAt : MethodName := ⟨RX3, "lineAt", "(I)I"⟩
abbrev cX3_placeAt : ByteArray := prog_5_method_5_code
def yX3_placeAt : MethodName := ⟨RX3, "placeAt", "(I)I"⟩
abbrev cX3_commonAt : ByteArray := prog_5_method_6_code
def yX3_commonAt : MethodName := ⟨RX3, "commonAt", "(I)I"⟩
abbrev cX3_sort : ByteArray := prog_5_method_7_code
def yX3_sort : MethodName := ⟨RX3, "sort", "(LHymnEndings$Book;)V"⟩
abbrev cX3_rankToTake : ByteArray := prog_5_method_8_code
def yX3_rankToTake : MethodName := ⟨RX3, "rankToTake", "(LHymnEndings$Book;II)I"⟩
abbrev cX3_insert : ByteArray := prog_5_method_9_code
def yX3_insert : MethodName := ⟨RX3, "insert", "(III)V"⟩
abbrev cX3_rankOf : ByteArray := prog_5_method_10_code
def yX3_rankOf : MethodName := ⟨RX3, "rankOf", "(II)I"⟩
abbrev cX3_longestCommon : ByteArray := prog_5_method_11_code
def yX3_longestCommon : MethodName := ⟨RX3, "longestCommon", "()I"⟩
abbrev cX3_firstLongestRank : ByteArray := prog_5_method_12_code
def yX3_firstLongestRank : MethodName := ⟨RX3, "firstLongestRank", "()I"⟩
abbrev cX3_sumOfCommons : ByteArray := prog_5_method_13_code
def yX3_sumOfCommons : MethodName := ⟨RX3, "sumOfCommons", "()I"⟩
abbrev cX3_countRepeats : ByteArray := prog_5_method_14_code
def yX3_countRepeats : MethodName := ⟨RX3, "countRepeats", "()I"⟩
abbrev cX3_countPieces : ByteArray := prog_5_method_15_code
def yX3_countPieces : MethodName := ⟨RX3, "countPieces", "(LHymnEndings$Book;)I"⟩
abbrev cX3_firstRankNotBefore : ByteArray := prog_5_method_16_code
def yX3_firstRankNotBefore : MethodName := ⟨RX3, "firstRankNotBefore", "(LHymnEndings$Book;LHymnEndings$Text;)I"⟩
abbrev cX3_firstRankBehind : ByteArray := prog_5_method_17_code
def yX3_firstRankBehind : MethodName := ⟨RX3, "firstRankBehind", "(LHymnEndings$Book;LHymnEndings$Text;)I"⟩
abbrev cX3_firstRankAbove : ByteArray := prog_5_method_18_code
def yX3_firstRankAbove : MethodName := ⟨RX3, "firstRankAbove", "(LHymnEndings$Book;LHymnEndings$Text;I)I"⟩
def RX4 : String := "HymnEndings$History"
def TX4 : u_T := fun k => match k with
  | 0 => ("HymnEndings$History", "books", "[LHymnEndings$Book;", true)
  | 1 => ("HymnEndings$History", "oldest", "I", false)
  | _ => ("HymnEndings$History", "size", "I", false)
def tyX4 : Nat → FieldType := fun k => match k with
  | 0 => .array (.object "HymnEndings$Book")
  | 1 => .int
  | _ => .int
abbrev wsX40 : List Cond := u_ws RX4 TX4 3
theorem nmX4 : ∀ a, a < 3 → ∀ b, b < 3 → a ≠ b → (TX4 a).2.1 ≠ (TX4 b).2.1 := by decide +kernel
theorem tyX4_ok : ∀ k, k < 3 → parseFieldDescriptor (TX4 k).2.2.1 = some (tyX4 k) := by decide +kernel
abbrev cX4_init : ByteArray := prog_6_method_1_code
def yX4_init : MethodName := ⟨RX4, "<init>", "()V"⟩
abbrev cX4_size : ByteArray := prog_6_method_2_code
def yX4_size : MethodName := ⟨RX4, "size", "()I"⟩
abbrev cX4_clear : ByteArray := prog_6_method_3_code
def yX4_clear : MethodName := ⟨RX4, "clear", "()V"⟩
abbrev cX4_keep : ByteArray := prog_6_method_4_code
def yX4_keep : MethodName := ⟨RX4, "keep", "(LHymnEndings$Book;)V"⟩
abbrev cX4_takeLatest : ByteArray := prog_6_method_5_code
def yX4_takeLatest : MethodName := ⟨RX4, "takeLatest", "(LHymnEndings$Book;)V"⟩
def RX5 : String := "HymnEndings$Pieces"
def TX5 : u_T := fun k => match k with
  | _ => ("", "", "", false)
def tyX5 : Nat → FieldType := fun k => match k with
  | _ => .int
abbrev wsX50 : List Cond := u_ws RX5 TX5 0
theorem nmX5 : ∀ a, a < 0 → ∀ b, b < 0 → a ≠ b → (TX5 a).2.1 ≠ (TX5 b).2.1 := by decide +kernel
theorem tyX5_ok : ∀ k, k < 0 → parseFieldDescriptor (TX5 k).2.2.1 = some (tyX5 k) := by decide +kernel
abbrev cX5_longestRepeat : ByteArray := prog_7_method_2_code
def yX5_longestRepeat : MethodName := ⟨RX5, "longestRepeat", "(LHymnEndings$Book;I)I"⟩
abbrev cX5_longestShared : ByteArray := prog_7_method_3_code
def yX5_longestShared : MethodName := ⟨RX5, "longestShared", "(LHymnEndings$Book;II)I"⟩
abbrev cX5_shortestAlone : ByteArray := prog_7_method_4_code
def yX5_shortestAlone : MethodName := ⟨RX5, "shortestAlone", "(LHymnEndings$Book;I)I"⟩
abbrev cX5_firstAlonePlace : ByteArray := prog_7_method_5_code
def yX5_firstAlonePlace : MethodName := ⟨RX5, "firstAlonePlace", "(LHymnEndings$Book;II)I"⟩
abbrev cX5_shortestAloneAt : ByteArray := prog_7_method_6_code
def yX5_shortestAloneAt : MethodName := ⟨RX5, "shortestAloneAt", "(LHymnEndings$Book;II)I"⟩
abbrev cX5_countNew : ByteArray := prog_7_method_7_code
def yX5_countNew : MethodName := ⟨RX5, "countNew", "(LHymnEndings$Book;)I"⟩
abbrev cX5_mostFurtherAhead : ByteArray := prog_7_method_8_code
def yX5_mostFurtherAhead : MethodName := ⟨RX5, "mostFurtherAhead", "(LHymnEndings$Book;II)I"⟩
abbrev cX5_mostInLine : ByteArray := prog_7_method_9_code
def yX5_mostInLine : MethodName := ⟨RX5, "mostInLine", "(LHymnEndings$Book;IIII)I"⟩
abbrev cX5_countWord : ByteArray := prog_7_method_10_code
def yX5_countWord : MethodName := ⟨RX5, "countWord", "(LHymnEndings$Book;LHymnEndings$Text;)I"⟩
abbrev cX5_isWordALine : ByteArray := prog_7_method_11_code
def yX5_isWordALine : MethodName := ⟨RX5, "isWordALine", "(LHymnEndings$Book;LHymnEndings$Text;)Z"⟩
abbrev cX5_compareToWord : ByteArray := prog_7_method_12_code
def yX5_compareToWord : MethodName := ⟨RX5, "compareToWord", "(LHymnEndings$Book;IILHymnEndings$Text;)I"⟩
def RX6 : String := "HymnEndings$Refusal"
def TX6 : u_T := fun k => match k with
  | 0 => ("HymnEndings$Refusal", "reasons", "[I", true)
  | 1 => ("HymnEndings$Refusal", "details", "[I", true)
  | _ => ("HymnEndings$Refusal", "count", "I", false)
def tyX6 : Nat → FieldType := fun k => match k with
  | 0 => .array .int
  | 1 => .array .int
  | _ => .int
abbrev wsX60 : List Cond := u_ws RX6 TX6 3
theorem nmX6 : ∀ a, a < 3 → ∀ b, b < 3 → a ≠ b → (TX6 a).2.1 ≠ (TX6 b).2.1 := by decide +kernel
theorem tyX6_ok : ∀ k, k < 3 → parseFieldDescriptor (TX6 k).2.2.1 = some (tyX6 k) := by decide +kernel
abbrev cX6_init : ByteArray := prog_8_method_1_code
def yX6_init : MethodName := ⟨RX6, "<init>", "()V"⟩
abbrev cX6_reasonCount : ByteArray := prog_8_method_2_code
def yX6_reasonCount : MethodName := ⟨RX6, "reasonCount", "()I"⟩
abbrev cX6_reasonAt : ByteArray := prog_8_method_3_code
def yX6_reasonAt : MethodName := ⟨RX6, "reasonAt", "(I)I"⟩
abbrev cX6_detailAt : ByteArray := prog_8_method_4_code
def yX6_detailAt : MethodName := ⟨RX6, "detailAt", "(I)I"⟩
abbrev cX6_keep : ByteArray := prog_8_method_5_code
def yX6_keep : MethodName := ⟨RX6, "keep", "(II)V"⟩
abbrev cX6_keepCause : ByteArray := prog_8_method_6_code
def yX6_keepCause : MethodName := ⟨RX6, "keepCause", "(II)V"⟩
abbrev cX6_keepOnTop : ByteArray := prog_8_method_7_code
def yX6_keepOnTop : MethodName := ⟨RX6, "keepOnTop", "(II)V"⟩
def RX7 : String := "HymnEndings$Text"
def TX7 : u_T := fun k => match k with
  | 0 => ("HymnEndings$Text", "characters", "[C", true)
  | _ => ("HymnEndings$Text", "length", "I", false)
def tyX7 : Nat → FieldType := fun k => match k with
  | 0 => .array .char
  | _ => .int
abbrev wsX70 : List Cond := u_ws RX7 TX7 2
theorem nmX7 : ∀ a, a < 2 → ∀ b, b < 2 → a ≠ b → (TX7 a).2.1 ≠ (TX7 b).2.1 := by decide +kernel
theorem tyX7_ok : ∀ k, k < 2 → parseFieldDescriptor (TX7 k).2.2.1 = some (tyX7 k) := by decide +kernel
abbrev cX7_init : ByteArray := prog_9_method_1_code
def yX7_init : MethodName := ⟨RX7, "<init>", "()V"⟩
abbrev cX7_length : ByteArray := prog_9_method_2_code
def yX7_length : MethodName := ⟨RX7, "length", "()I"⟩
abbrev cX7_isFull : ByteArray := prog_9_method_3_code
def yX7_isFull : MethodName := ⟨RX7, "isFull", "()Z"⟩
abbrev cX7_put : ByteArray := prog_9_method_4_code
def yX7_put : MethodName := ⟨RX7, "put", "(C)V"⟩
abbrev cX7_clear : ByteArray := prog_9_method_5_code
def yX7_clear : MethodName := ⟨RX7, "clear", "()V"⟩
abbrev cX7_characterAt : ByteArray := prog_9_method_6_code
def yX7_characterAt : MethodName := ⟨RX7, "characterAt", "(I)C"⟩
abbrev cX7_putDigit : ByteArray := prog_9_method_7_code
def yX7_putDigit : MethodName := ⟨RX7, "putDigit", "(I)V"⟩
abbrev cX7_digitAt : ByteArray := prog_9_method_8_code
def yX7_digitAt : MethodName := ⟨RX7, "digitAt", "(I)I"⟩
abbrev cX7_putLetters : ByteArray := prog_9_method_9_code
def yX7_putLetters : MethodName := ⟨RX7, "putLetters", "(LHymnEndings$Book;III)V"⟩
abbrev cX7_isWord : ByteArray := prog_9_method_10_code
def yX7_isWord : MethodName := ⟨RX7, "isWord", "()Z"⟩
def RX8 : String := "HymnEndings"
def TX8 : u_T := fun k => match k with
  | 0 => ("HymnEndings", "book", "LHymnEndings$Book;", true)
  | 1 => ("HymnEndings", "before", "LHymnEndings$Book;", true)
  | 2 => ("HymnEndings", "snapshot", "LHymnEndings$Book;", true)
  | 3 => ("HymnEndings", "text", "LHymnEndings$Text;", true)
  | 4 => ("HymnEndings", "reader", "LHymnEndings$CommandReader;", true)
  | 5 => ("HymnEndings", "refusal", "LHymnEndings$Refusal;", true)
  | 6 => ("HymnEndings", "history", "LHymnEndings$History;", true)
  | 7 => ("HymnEndings", "order", "LHymnEndings$EndingOrder;", true)
  | 8 => ("HymnEndings", "written", "LHymnEndings$Text;", true)
  | 9 => ("HymnEndings", "fault", "I", false)
  | _ => ("HymnEndings", "isSaved", "Z", false)
def tyX8 : Nat → FieldType := fun k => match k with
  | 0 => .object "HymnEndings$Book"
  | 1 => .object "HymnEndings$Book"
  | 2 => .object "HymnEndings$Book"
  | 3 => .object "HymnEndings$Text"
  | 4 => .object "HymnEndings$CommandReader"
  | 5 => .object "HymnEndings$Refusal"
  | 6 => .object "HymnEndings$History"
  | 7 => .object "HymnEndings$EndingOrder"
  | 8 => .object "HymnEndings$Text"
  | 9 => .int
  | _ => .boolean
abbrev wsX80 : List Cond := u_ws RX8 TX8 11
theorem nmX8 : ∀ a, a < 11 → ∀ b, b < 11 → a ≠ b → (TX8 a).2.1 ≠ (TX8 b).2.1 := by decide +kernel
theorem tyX8_ok : ∀ k, k < 11 → parseFieldDescriptor (TX8 k).2.2.1 = some (tyX8 k) := by decide +kernel
abbrev cX8_init : ByteArray := prog_1_method_1_code
def yX8_init : MethodName := ⟨RX8, "<init>", "()V"⟩
abbrev cX8_append : ByteArray := prog_1_method_2_code
def yX8_append : MethodName := ⟨RX8, "append", "(C)I"⟩
abbrev cX8_add : ByteArray := prog_1_method_3_code
def yX8_add : MethodName := ⟨RX8, "add", "()I"⟩
abbrev cX8_cut : ByteArray := prog_1_method_4_code
def yX8_cut : MethodName := ⟨RX8, "cut", "(I)I"⟩
abbrev cX8_change : ByteArray := prog_1_method_5_code
def yX8_change : MethodName := ⟨RX8, "change", "(IIC)I"⟩
abbrev cX8_swap : ByteArray := prog_1_method_6_code
def yX8_swap : MethodName := ⟨RX8, "swap", "(II)I"⟩
abbrev cX8_join : ByteArray := prog_1_method_7_code
def yX8_join : MethodName := ⟨RX8, "join", "(II)I"⟩
abbrev cX8_turn : ByteArray := prog_1_method_8_code
def yX8_turn : MethodName := ⟨RX8, "turn", "(I)I"⟩
abbrev cX8_lineOf : ByteArray := prog_1_method_9_code
def yX8_lineOf : MethodName := ⟨RX8, "lineOf", "(II)I"⟩
abbrev cX8_letter : ByteArray := prog_1_method_10_code
def yX8_letter : MethodName := ⟨RX8, "letter", "(II)C"⟩
abbrev cX8_ending : ByteArray := prog_1_method_11_code
def yX8_ending : MethodName := ⟨RX8, "ending", "(IZ)I"⟩
abbrev cX8_rank : ByteArray := prog_1_method_12_code
def yX8_rank : MethodName := ⟨RX8, "rank", "(II)I"⟩
abbrev cX8_rankAgain : ByteArray := prog_1_method_13_code
def yX8_rankAgain : MethodName := ⟨RX8, "rankAgain", "(II)I"⟩
abbrev cX8_common : ByteArray := prog_1_method_14_code
def yX8_common : MethodName := ⟨RX8, "common", "(I)I"⟩
abbrev cX8_commonOf : ByteArray := prog_1_method_15_code
def yX8_commonOf : MethodName := ⟨RX8, "commonOf", "(IIII)I"⟩
abbrev cX8_longest : ByteArray := prog_1_method_16_code
def yX8_longest : MethodName := ⟨RX8, "longest", "()I"⟩
abbrev cX8_longestRank : ByteArray := prog_1_method_17_code
def yX8_longestRank : MethodName := ⟨RX8, "longestRank", "()I"⟩
abbrev cX8_pieces : ByteArray := prog_1_method_18_code
def yX8_pieces : MethodName := ⟨RX8, "pieces", "()I"⟩
abbrev cX8_piecesAgain : ByteArray := prog_1_method_19_code
def yX8_piecesAgain : MethodName := ⟨RX8, "piecesAgain", "()I"⟩
abbrev cX8_kinds : ByteArray := prog_1_method_20_code
def yX8_kinds : MethodName := ⟨RX8, "kinds", "()I"⟩
abbrev cX8_finds : ByteArray := prog_1_method_21_code
def yX8_finds : MethodName := ⟨RX8, "finds", "()I"⟩
abbrev cX8_findsAgain : ByteArray := prog_1_method_22_code
def yX8_findsAgain : MethodName := ⟨RX8, "findsAgain", "()I"⟩
abbrev cX8_firstFind : ByteArray := prog_1_method_23_code
def yX8_firstFind : MethodName := ⟨RX8, "firstFind", "()I"⟩
abbrev cX8_isLine : ByteArray := prog_1_method_24_code
def yX8_isLine : MethodName := ⟨RX8, "isLine", "()Z"⟩
abbrev cX8_shared : ByteArray := prog_1_method_25_code
def yX8_shared : MethodName := ⟨RX8, "shared", "(II)I"⟩
abbrev cX8_alone : ByteArray := prog_1_method_26_code
def yX8_alone : MethodName := ⟨RX8, "alone", "(I)I"⟩
abbrev cX8_alonePlace : ByteArray := prog_1_method_27_code
def yX8_alonePlace : MethodName := ⟨RX8, "alonePlace", "(I)I"⟩
abbrev cX8_isTurned : ByteArray := prog_1_method_28_code
def yX8_isTurned : MethodName := ⟨RX8, "isTurned", "(II)Z"⟩
abbrev cX8_commands : ByteArray := prog_1_method_29_code
def yX8_commands : MethodName := ⟨RX8, "commands", "()I"⟩
abbrev cX8_faultPosition : ByteArray := prog_1_method_30_code
def yX8_faultPosition : MethodName := ⟨RX8, "faultPosition", "()I"⟩
abbrev cX8_reason : ByteArray := prog_1_method_31_code
def yX8_reason : MethodName := ⟨RX8, "reason", "(IZ)I"⟩
abbrev cX8_write : ByteArray := prog_1_method_32_code
def yX8_write : MethodName := ⟨RX8, "write", "(I)I"⟩
abbrev cX8_writeLongest : ByteArray := prog_1_method_33_code
def yX8_writeLongest : MethodName := ⟨RX8, "writeLongest", "()I"⟩
abbrev cX8_character : ByteArray := prog_1_method_34_code
def yX8_character : MethodName := ⟨RX8, "character", "(I)C"⟩
abbrev cX8_meanLetters : ByteArray := prog_1_method_35_code
def yX8_meanLetters : MethodName := ⟨RX8, "meanLetters", "()F"⟩
abbrev cX8_repeatShare : ByteArray := prog_1_method_36_code
def yX8_repeatShare : MethodName := ⟨RX8, "repeatShare", "()D"⟩
abbrev cX8_account : ByteArray := prog_1_method_37_code
def yX8_account : MethodName := ⟨RX8, "account", "(I)I"⟩
abbrev cX8_undo : ByteArray := prog_1_method_38_code
def yX8_undo : MethodName := ⟨RX8, "undo", "()I"⟩
abbrev cX8_save : ByteArray := prog_1_method_39_code
def yX8_save : MethodName := ⟨RX8, "save", "()I"⟩
abbrev cX8_restore : ByteArray := prog_1_method_40_code
def yX8_restore : MethodName := ⟨RX8, "restore", "()I"⟩
abbrev cX8_finishChange : ByteArray := prog_1_method_41_code
def yX8_finishChange : MethodName := ⟨RX8, "finishChange", "(Z)V"⟩
abbrev cX8_checkLine : ByteArray := prog_1_method_42_code
def yX8_checkLine : MethodName := ⟨RX8, "checkLine", "(I)V"⟩
abbrev cX8_checkPlace : ByteArray := prog_1_method_43_code
def yX8_checkPlace : MethodName := ⟨RX8, "checkPlace", "(II)V"⟩
abbrev cX8_checkRank : ByteArray := prog_1_method_44_code
def yX8_checkRank : MethodName := ⟨RX8, "checkRank", "(I)V"⟩
abbrev cX8_checkRepeat : ByteArray := prog_1_method_45_code
def yX8_checkRepeat : MethodName := ⟨RX8, "checkRepeat", "()V"⟩
abbrev cX8_checkWord : ByteArray := prog_1_method_46_code
def yX8_checkWord : MethodName := ⟨RX8, "checkWord", "()V"⟩
abbrev cX8_checkNotEmpty : ByteArray := prog_1_method_47_code
def yX8_checkNotEmpty : MethodName := ⟨RX8, "checkNotEmpty", "()V"⟩
abbrev cX8_checkAlone : ByteArray := prog_1_method_48_code
def yX8_checkAlone : MethodName := ⟨RX8, "checkAlone", "(I)V"⟩
abbrev cX8_isSmallLetter : ByteArray := prog_1_method_49_code
def yX8_isSmallLetter : MethodName := ⟨RX8, "isSmallLetter", "(C)Z"⟩
def RX9 : String := "HymnEndingsModel"
def TX9 : u_T := fun k => match k with
  | 0 => ("HymnEndingsModel", "thrown", "I", false)
  | 1 => ("HymnEndingsModel", "all", "[I", true)
  | 2 => ("HymnEndingsModel", "changes", "I", false)
  | 3 => ("HymnEndingsModel", "isSaved", "Z", false)
  | 4 => ("HymnEndingsModel", "result", "I", false)
  | 5 => ("HymnEndingsModel", "reasons", "[I", true)
  | 6 => ("HymnEndingsModel", "text", "[C", true)
  | 7 => ("HymnEndingsModel", "texted", "I", false)
  | 8 => ("HymnEndingsModel", "word", "[I", true)
  | 9 => ("HymnEndingsModel", "wordSize", "I", false)
  | 10 => ("HymnEndingsModel", "order", "[I", true)
  | 11 => ("HymnEndingsModel", "orderMany", "I", false)
  | 12 => ("HymnEndingsModel", "here", "I", false)
  | 13 => ("HymnEndingsModel", "fault", "I", false)
  | 14 => ("HymnEndingsModel", "faultAt", "I", false)
  | 15 => ("HymnEndingsModel", "rows", "[I", true)
  | 16 => ("HymnEndingsModel", "commandMany", "I", false)
  | 17 => ("HymnEndingsModel", "written", "[C", true)
  | _ => ("HymnEndingsModel", "writtenSize", "I", false)
def tyX9 : Nat → FieldType := fun k => match k with
  | 0 => .int
  | 1 => .array .int
  | 2 => .int
  | 3 => .boolean
  | 4 => .int
  | 5 => .array .int
  | 6 => .array .char
  | 7 => .int
  | 8 => .array .int
  | 9 => .int
  | 10 => .array .int
  | 11 => .int
  | 12 => .int
  | 13 => .int
  | 14 => .int
  | 15 => .array .int
  | 16 => .int
  | 17 => .array .char
  | _ => .int
abbrev wsX90 : List Cond := u_ws RX9 TX9 19
theorem nmX9 : ∀ a, a < 19 → ∀ b, b < 19 → a ≠ b → (TX9 a).2.1 ≠ (TX9 b).2.1 := by decide +kernel
theorem tyX9_ok : ∀ k, k < 19 → parseFieldDescriptor (TX9 k).2.2.1 = some (tyX9 k) := by decide +kernel
abbrev cX9_init : ByteArray := prog_11_method_1_code
def yX9_init : MethodName := ⟨RX9, "<init>", "()V"⟩
abbrev cX9_thrown : ByteArray := prog_11_method_2_code
def yX9_thrown : MethodName := ⟨RX9, "thrown", "()I"⟩
abbrev cX9_in : ByteArray := prog_11_method_3_code
def yX9_in : MethodName := ⟨RX9, "in", "(III)Z"⟩
abbrev cX9_copies : ByteArray := prog_11_method_4_code
def yX9_copies : MethodName := ⟨RX9, "copies", "(II)V"⟩
abbrev cX9_begins : ByteArray := prog_11_method_5_code
def yX9_begins : MethodName := ⟨RX9, "begins", "()V"⟩
abbrev cX9_ends : ByteArray := prog_11_method_6_code
def yX9_ends : MethodName := ⟨RX9, "ends", "(ZI)I"⟩
abbrev cX9_refuses : ByteArray := prog_11_method_7_code
def yX9_refuses : MethodName := ⟨RX9, "refuses", "(ZII)Z"⟩
abbrev cX9_reason : ByteArray := prog_11_method_8_code
def yX9_reason : MethodName := ⟨RX9, "reason", "(IZ)I"⟩
abbrev cX9_many : ByteArray := prog_11_method_9_code
def yX9_many : MethodName := ⟨RX9, "many", "()I"⟩
abbrev cX9_size : ByteArray := prog_11_method_10_code
def yX9_size : MethodName := ⟨RX9, "size", "(I)I"⟩
abbrev cX9_at : ByteArray := prog_11_method_11_code
def yX9_at : MethodName := ⟨RX9, "at", "(II)I"⟩
abbrev cX9_set : ByteArray := prog_11_method_12_code
def yX9_set : MethodName := ⟨RX9, "set", "(III)V"⟩
abbrev cX9_isLineNumber : ByteArray := prog_11_method_13_code
def yX9_isLineNumber : MethodName := ⟨RX9, "isLineNumber", "(I)Z"⟩
abbrev cX9_isPlace : ByteArray := prog_11_method_14_code
def yX9_isPlace : MethodName := ⟨RX9, "isPlace", "(II)Z"⟩
abbrev cX9_isNoLine : ByteArray := prog_11_method_15_code
def yX9_isNoLine : MethodName := ⟨RX9, "isNoLine", "(I)Z"⟩
abbrev cX9_append : ByteArray := prog_11_method_16_code
def yX9_append : MethodName := ⟨RX9, "append", "(C)I"⟩
abbrev cX9_holdsWord : ByteArray := prog_11_method_17_code
def yX9_holdsWord : MethodName := ⟨RX9, "holdsWord", "()Z"⟩
abbrev cX9_adds : ByteArray := prog_11_method_18_code
def yX9_adds : MethodName := ⟨RX9, "adds", "()Z"⟩
abbrev cX9_add : ByteArray := prog_11_method_19_code
def yX9_add : MethodName := ⟨RX9, "add", "()I"⟩
abbrev cX9_goes : ByteArray := prog_11_method_20_code
def yX9_goes : MethodName := ⟨RX9, "goes", "(I)V"⟩
abbrev cX9_cuts : ByteArray := prog_11_method_21_code
def yX9_cuts : MethodName := ⟨RX9, "cuts", "(I)Z"⟩
abbrev cX9_cut : ByteArray := prog_11_method_22_code
def yX9_cut : MethodName := ⟨RX9, "cut", "(I)I"⟩
abbrev cX9_sets : ByteArray := prog_11_method_23_code
def yX9_sets : MethodName := ⟨RX9, "sets", "(III)Z"⟩
abbrev cX9_change : ByteArray := prog_11_method_24_code
def yX9_change : MethodName := ⟨RX9, "change", "(IIC)I"⟩
abbrev cX9_areOne : ByteArray := prog_11_method_25_code
def yX9_areOne : MethodName := ⟨RX9, "areOne", "(II)Z"⟩
abbrev cX9_swaps : ByteArray := prog_11_method_26_code
def yX9_swaps : MethodName := ⟨RX9, "swaps", "(II)Z"⟩
abbrev cX9_swap : ByteArray := prog_11_method_27_code
def yX9_swap : MethodName := ⟨RX9, "swap", "(II)I"⟩
abbrev cX9_joins : ByteArray := prog_11_method_28_code
def yX9_joins : MethodName := ⟨RX9, "joins", "(II)Z"⟩
abbrev cX9_join : ByteArray := prog_11_method_29_code
def yX9_join : MethodName := ⟨RX9, "join", "(II)I"⟩
abbrev cX9_isBack : ByteArray := prog_11_method_30_code
def yX9_isBack : MethodName := ⟨RX9, "isBack", "(II)Z"⟩
abbrev cX9_turns : ByteArray := prog_11_method_31_code
def yX9_turns : MethodName := ⟨RX9, "turns", "(I)Z"⟩
abbrev cX9_turn : ByteArray := prog_11_method_32_code
def yX9_turn : MethodName := ⟨RX9, "turn", "(I)I"⟩
abbrev cX9_left : ByteArray := prog_11_method_33_code
def yX9_left : MethodName := ⟨RX9, "left", "(I)I"⟩
abbrev cX9_letterOf : ByteArray := prog_11_method_34_code
def yX9_letterOf : MethodName := ⟨RX9, "letterOf", "(II)I"⟩
abbrev cX9_front : ByteArray := prog_11_method_35_code
def yX9_front : MethodName := ⟨RX9, "front", "(II)I"⟩
abbrev cX9_isAhead : ByteArray := prog_11_method_36_code
def yX9_isAhead : MethodName := ⟨RX9, "isAhead", "(II)Z"⟩
abbrev cX9_orders : ByteArray := prog_11_method_37_code
def yX9_orders : MethodName := ⟨RX9, "orders", "()V"⟩
abbrev cX9_rankOf : ByteArray := prog_11_method_38_code
def yX9_rankOf : MethodName := ⟨RX9, "rankOf", "(II)I"⟩
abbrev cX9_common1 : ByteArray := prog_11_method_39_code
def yX9_common1 : MethodName := ⟨RX9, "common1", "(I)I"⟩
abbrev cX9_period : ByteArray := prog_11_method_40_code
def yX9_period : MethodName := ⟨RX9, "period", "(I)I"⟩
abbrev cX9_different : ByteArray := prog_11_method_41_code
def yX9_different : MethodName := ⟨RX9, "different", "(II)I"⟩
abbrev cX9_areAlike : ByteArray := prog_11_method_42_code
def yX9_areAlike : MethodName := ⟨RX9, "areAlike", "(II)Z"⟩
abbrev cX9_likes : ByteArray := prog_11_method_43_code
def yX9_likes : MethodName := ⟨RX9, "likes", "(I)I"⟩
abbrev cX9_longestOf : ByteArray := prog_11_method_44_code
def yX9_longestOf : MethodName := ⟨RX9, "longestOf", "(II)I"⟩
abbrev cX9_lineOf : ByteArray := prog_11_method_45_code
def yX9_lineOf : MethodName := ⟨RX9, "lineOf", "(II)I"⟩
abbrev cX9_letter : ByteArray := prog_11_method_46_code
def yX9_letter : MethodName := ⟨RX9, "letter", "(II)C"⟩
abbrev cX9_ending : ByteArray := prog_11_method_47_code
def yX9_ending : MethodName := ⟨RX9, "ending", "(IZ)I"⟩
abbrev cX9_rank : ByteArray := prog_11_method_48_code
def yX9_rank : MethodName := ⟨RX9, "rank", "(II)I"⟩
abbrev cX9_rankAgain : ByteArray := prog_11_method_49_code
def yX9_rankAgain : MethodName := ⟨RX9, "rankAgain", "(II)I"⟩
abbrev cX9_common : ByteArray := prog_11_method_50_code
def yX9_common : MethodName := ⟨RX9, "common", "(I)I"⟩
abbrev cX9_commonOf : ByteArray := prog_11_method_51_code
def yX9_commonOf : MethodName := ⟨RX9, "commonOf", "(IIII)I"⟩
abbrev cX9_commons : ByteArray := prog_11_method_52_code
def yX9_commons : MethodName := ⟨RX9, "commons", "(I)I"⟩
abbrev cX9_longest : ByteArray := prog_11_method_53_code
def yX9_longest : MethodName := ⟨RX9, "longest", "()I"⟩
abbrev cX9_longestRank : ByteArray := prog_11_method_54_code
def yX9_longestRank : MethodName := ⟨RX9, "longestRank", "()I"⟩
abbrev cX9_pieces : ByteArray := prog_11_method_55_code
def yX9_pieces : MethodName := ⟨RX9, "pieces", "()I"⟩
abbrev cX9_piecesAgain : ByteArray := prog_11_method_56_code
def yX9_piecesAgain : MethodName := ⟨RX9, "piecesAgain", "()I"⟩
abbrev cX9_kinds : ByteArray := prog_11_method_57_code
def yX9_kinds : MethodName := ⟨RX9, "kinds", "()I"⟩
abbrev cX9_beginsWith : ByteArray := prog_11_method_58_code
def yX9_beginsWith : MethodName := ⟨RX9, "beginsWith", "(I)Z"⟩
abbrev cX9_finds1 : ByteArray := prog_11_method_59_code
def yX9_finds1 : MethodName := ⟨RX9, "finds1", "()I"⟩
abbrev cX9_finds : ByteArray := prog_11_method_60_code
def yX9_finds : MethodName := ⟨RX9, "finds", "()I"⟩
abbrev cX9_findsAgain : ByteArray := prog_11_method_61_code
def yX9_findsAgain : MethodName := ⟨RX9, "findsAgain", "()I"⟩
abbrev cX9_firstFind : ByteArray := prog_11_method_62_code
def yX9_firstFind : MethodName := ⟨RX9, "firstFind", "()I"⟩
abbrev cX9_isLine : ByteArray := prog_11_method_63_code
def yX9_isLine : MethodName := ⟨RX9, "isLine", "()Z"⟩
abbrev cX9_shared : ByteArray := prog_11_method_64_code
def yX9_shared : MethodName := ⟨RX9, "shared", "(II)I"⟩
abbrev cX9_aloneFrom : ByteArray := prog_11_method_65_code
def yX9_aloneFrom : MethodName := ⟨RX9, "aloneFrom", "(II)I"⟩
abbrev cX9_aloneOf : ByteArray := prog_11_method_66_code
def yX9_aloneOf : MethodName := ⟨RX9, "aloneOf", "(IZ)I"⟩
abbrev cX9_aloneAsked : ByteArray := prog_11_method_67_code
def yX9_aloneAsked : MethodName := ⟨RX9, "aloneAsked", "(IZ)I"⟩
abbrev cX9_alone : ByteArray := prog_11_method_68_code
def yX9_alone : MethodName := ⟨RX9, "alone", "(I)I"⟩
abbrev cX9_alonePlace : ByteArray := prog_11_method_69_code
def yX9_alonePlace : MethodName := ⟨RX9, "alonePlace", "(I)I"⟩
abbrev cX9_isTurned : ByteArray := prog_11_method_70_code
def yX9_isTurned : MethodName := ⟨RX9, "isTurned", "(II)Z"⟩
abbrev cX9_sign : ByteArray := prog_11_method_71_code
def yX9_sign : MethodName := ⟨RX9, "sign", "()I"⟩
abbrev cX9_digit : ByteArray := prog_11_method_72_code
def yX9_digit : MethodName := ⟨RX9, "digit", "()I"⟩
abbrev cX9_letters : ByteArray := prog_11_method_73_code
def yX9_letters : MethodName := ⟨RX9, "letters", "(I)I"⟩
abbrev cX9_command : ByteArray := prog_11_method_74_code
def yX9_command : MethodName := ⟨RX9, "command", "()V"⟩
abbrev cX9_parse : ByteArray := prog_11_method_75_code
def yX9_parse : MethodName := ⟨RX9, "parse", "()V"⟩
abbrev cX9_addsFrom : ByteArray := prog_11_method_76_code
def yX9_addsFrom : MethodName := ⟨RX9, "addsFrom", "(II)Z"⟩
abbrev cX9_does : ByteArray := prog_11_method_77_code
def yX9_does : MethodName := ⟨RX9, "does", "(I)Z"⟩
abbrev cX9_commands : ByteArray := prog_11_method_78_code
def yX9_commands : MethodName := ⟨RX9, "commands", "()I"⟩
abbrev cX9_faultPosition : ByteArray := prog_11_method_79_code
def yX9_faultPosition : MethodName := ⟨RX9, "faultPosition", "()I"⟩
abbrev cX9_writes : ByteArray := prog_11_method_80_code
def yX9_writes : MethodName := ⟨RX9, "writes", "(I)V"⟩
abbrev cX9_write : ByteArray := prog_11_method_81_code
def yX9_write : MethodName := ⟨RX9, "write", "(I)I"⟩
abbrev cX9_writeLongest : ByteArray := prog_11_method_82_code
def yX9_writeLongest : MethodName := ⟨RX9, "writeLongest", "()I"⟩
abbrev cX9_character : ByteArray := prog_11_method_83_code
def yX9_character : MethodName := ⟨RX9, "character", "(I)C"⟩
abbrev cX9_letterMany : ByteArray := prog_11_method_84_code
def yX9_letterMany : MethodName := ⟨RX9, "letterMany", "()I"⟩
abbrev cX9_meanLetters : ByteArray := prog_11_method_85_code
def yX9_meanLetters : MethodName := ⟨RX9, "meanLetters", "()F"⟩
abbrev cX9_repeatShare : ByteArray := prog_11_method_86_code
def yX9_repeatShare : MethodName := ⟨RX9, "repeatShare", "()D"⟩
abbrev cX9_palindromes : ByteArray := prog_11_method_87_code
def yX9_palindromes : MethodName := ⟨RX9, "palindromes", "()I"⟩
abbrev cX9_account : ByteArray := prog_11_method_88_code
def yX9_account : MethodName := ⟨RX9, "account", "(I)I"⟩
abbrev cX9_undo : ByteArray := prog_11_method_89_code
def yX9_undo : MethodName := ⟨RX9, "undo", "()I"⟩
abbrev cX9_save : ByteArray := prog_11_method_90_code
def yX9_save : MethodName := ⟨RX9, "save", "()I"⟩
abbrev cX9_restore : ByteArray := prog_11_method_91_code
def yX9_restore : MethodName := ⟨RX9, "restore", "()I"⟩
def RJx145de : String := "java/io/Serializable"
def TJx145de : u_T := fun k => match k with
  | _ => ("", "", "", false)
def tyJx145de : Nat → FieldType := fun k => match k with
  | _ => .int
abbrev wsJx145de0 : List Cond := u_ws RJx145de TJx145de 0
theorem nmJx145de : ∀ a, a < 0 → ∀ b, b < 0 → a ≠ b → (TJx145de a).2.1 ≠ (TJx145de b).2.1 := by decide +kernel
theorem tyJx145de_ok : ∀ k, k < 0 → parseFieldDescriptor (TJx145de k).2.2.1 = some (tyJx145de k) := by decide +kernel
def RJx00060 : String := "java/lang/ArrayIndexOutOfBoundsException"
def TJx00060 : u_T := fun k => match k with
  | 0 => ("java/lang/Throwable", "backtrace", "Ljava/lang/Object;", false)
  | 1 => ("java/lang/Throwable", "detailMessage", "Ljava/lang/String;", false)
  | 2 => ("java/lang/Throwable", "cause", "Ljava/lang/Throwable;", false)
  | 3 => ("java/lang/Throwable", "stackTrace", "[Ljava/lang/StackTraceElement;", false)
  | 4 => ("java/lang/Throwable", "depth", "I", false)
  | _ => ("java/lang/Throwable", "suppressedExceptions", "Ljava/util/List;", false)
def tyJx00060 : Nat → FieldType := fun k => match k with
  | 0 => .object "java/lang/Object"
  | 1 => .object "java/lang/String"
  | 2 => .object "java/lang/Throwable"
  | 3 => .array (.object "java/lang/StackTraceElement")
  | 4 => .int
  | _ => .object "java/util/List"
abbrev wsJx000600 : List Cond := u_ws RJx00060 TJx00060 6
theorem nmJx00060 : ∀ a, a < 6 → ∀ b, b < 6 → a ≠ b → (TJx00060 a).2.1 ≠ (TJx00060 b).2.1 := by decide +kernel
theorem tyJx00060_ok : ∀ k, k < 6 → parseFieldDescriptor (TJx00060 k).2.2.1 = some (tyJx00060 k) := by decide +kernel
abbrev cJx00060_init_a7421 : ByteArray := prog_14_method_2_code
def yJx00060_init_a7421 : MethodName := ⟨RJx00060, "<init>", "(Ljava/lang/String;)V"⟩
def RJx9f9b0 : String := "java/lang/CharSequence"
def TJx9f9b0 : u_T := fun k => match k with
  | _ => ("", "", "", false)
def tyJx9f9b0 : Nat → FieldType := fun k => match k with
  | _ => .int
abbrev wsJx9f9b00 : List Cond := u_ws RJx9f9b0 TJx9f9b0 0
theorem nmJx9f9b0 : ∀ a, a < 0 → ∀ b, b < 0 → a ≠ b → (TJx9f9b0 a).2.1 ≠ (TJx9f9b0 b).2.1 := by decide +kernel
theorem tyJx9f9b0_ok : ∀ k, k < 0 → parseFieldDescriptor (TJx9f9b0 k).2.2.1 = some (tyJx9f9b0 k) := by decide +kernel
def RJxb160c : String := "java/lang/Comparable"
def TJxb160c : u_T := fun k => match k with
  | _ => ("", "", "", false)
def tyJxb160c : Nat → FieldType := fun k => match k with
  | _ => .int
abbrev wsJxb160c0 : List Cond := u_ws RJxb160c TJxb160c 0
theorem nmJxb160c : ∀ a, a < 0 → ∀ b, b < 0 → a ≠ b → (TJxb160c a).2.1 ≠ (TJxb160c b).2.1 := by decide +kernel
theorem tyJxb160c_ok : ∀ k, k < 0 → parseFieldDescriptor (TJxb160c k).2.2.1 = some (tyJxb160c k) := by decide +kernel
def RJ6 : String := "java/lang/Integer"
def TJ6 : u_T := fun k => match k with
  | _ => ("", "", "", false)
def tyJ6 : Nat → FieldType := fun k => match k with
  | _ => .int
abbrev wsJ60 : List Cond := u_ws RJ6 TJ6 0
theorem nmJ6 : ∀ a, a < 0 → ∀ b, b < 0 → a ≠ b → (TJ6 a).2.1 ≠ (TJ6 b).2.1 := by decide +kernel
theorem tyJ6_ok : ∀ k, k < 0 → parseFieldDescriptor (TJ6 k).2.2.1 = some (tyJ6 k) := by decide +kernel
abbrev cJ6_bitCount_0f7a4 : ByteArray := prog_21_method_49_code
def yJ6_bitCount_0f7a4 : MethodName := ⟨RJ6, "bitCount", "(I)I"⟩
def RJ9 : String := "java/lang/Math"
def TJ9 : u_T := fun k => match k with
  | _ => ("", "", "", false)
def tyJ9 : Nat → FieldType := fun k => match k with
  | _ => .int
abbrev wsJ90 : List Cond := u_ws RJ9 TJ9 0
theorem nmJ9 : ∀ a, a < 0 → ∀ b, b < 0 → a ≠ b → (TJ9 a).2.1 ≠ (TJ9 b).2.1 := by decide +kernel
theorem tyJ9_ok : ∀ k, k < 0 → parseFieldDescriptor (TJ9 k).2.2.1 = some (tyJ9 k) := by decide +kernel
abbrev cJ9_max_7cf53 : ByteArray := prog_22_method_65_code
def yJ9_max_7cf53 : MethodName := ⟨RJ9, "max", "(II)I"⟩
abbrev cJ9_min_7cf53 : ByteArray := prog_22_method_69_code
def yJ9_min_7cf53 : MethodName := ⟨RJ9, "min", "(II)I"⟩
def RJ0 : String := "java/lang/String"
def TJ0 : u_T := fun k => match k with
  | 0 => ("java/lang/String", "value", "[B", true)
  | _ => ("java/lang/String", "coder", "B", true)
def tyJ0 : Nat → FieldType := fun k => match k with
  | 0 => .array .byte
  | _ => .byte
abbrev wsJ00 : List Cond := u_ws RJ0 TJ0 2
theorem nmJ0 : ∀ a, a < 2 → ∀ b, b < 2 → a ≠ b → (TJ0 a).2.1 ≠ (TJ0 b).2.1 := by decide +kernel
theorem tyJ0_ok : ∀ k, k < 2 → parseFieldDescriptor (TJ0 k).2.2.1 = some (tyJ0 k) := by decide +kernel
abbrev cJ0_length_8abf5 : ByteArray := prog_24_method_54_code
def yJ0_length_8abf5 : MethodName := ⟨RJ0, "length", "()I"⟩
abbrev cJ0_isEmpty_aae02 : ByteArray := prog_24_method_55_code
def yJ0_isEmpty_aae02 : MethodName := ⟨RJ0, "isEmpty", "()Z"⟩
abbrev cJ0_charAt_5068e : ByteArray := prog_24_method_56_code
def yJ0_charAt_5068e : MethodName := ⟨RJ0, "charAt", "(I)C"⟩
abbrev cJ0_coder_7d493 : ByteArray := prog_24_method_152_code
def yJ0_coder_7d493 : MethodName := ⟨RJ0, "coder", "()B"⟩
abbrev cJ0_isLatin1_aae02 : ByteArray := prog_24_method_154_code
def yJ0_isLatin1_aae02 : MethodName := ⟨RJ0, "isLatin1", "()Z"⟩
abbrev cJ0_checkIndex_df160 : ByteArray := prog_24_method_155_code
def yJ0_checkIndex_df160 : MethodName := ⟨RJ0, "checkIndex", "(II)V"⟩
def RJ1 : String := "java/lang/StringLatin1"
def TJ1 : u_T := fun k => match k with
  | _ => ("", "", "", false)
def tyJ1 : Nat → FieldType := fun k => match k with
  | _ => .int
abbrev wsJ10 : List Cond := u_ws RJ1 TJ1 0
theorem nmJ1 : ∀ a, a < 0 → ∀ b, b < 0 → a ≠ b → (TJ1 a).2.1 ≠ (TJ1 b).2.1 := by decide +kernel
theorem tyJ1_ok : ∀ k, k < 0 → parseFieldDescriptor (TJ1 k).2.2.1 = some (tyJ1 k) := by decide +kernel
abbrev cJ1_charAt_3b067 : ByteArray := prog_25_method_2_code
def yJ1_charAt_3b067 : MethodName := ⟨RJ1, "charAt", "([BI)C"⟩
def RJ2 : String := "java/lang/StringUTF16"
def TJ2 : u_T := fun k => match k with
  | _ => ("", "", "", false)
def tyJ2 : Nat → FieldType := fun k => match k with
  | _ => .int
abbrev wsJ20 : List Cond := u_ws RJ2 TJ2 0
theorem nmJ2 : ∀ a, a < 0 → ∀ b, b < 0 → a ≠ b → (TJ2 a).2.1 ≠ (TJ2 b).2.1 := by decide +kernel
theorem tyJ2_ok : ∀ k, k < 0 → parseFieldDescriptor (TJ2 k).2.2.1 = some (tyJ2 k) := by decide +kernel
abbrev cJ2_getChar_3b067 : ByteArray := prog_26_method_5_code
def yJ2_getChar_3b067 : MethodName := ⟨RJ2, "getChar", "([BI)C"⟩
abbrev cJ2_length_9d52b : ByteArray := prog_26_method_6_code
def yJ2_length_9d52b : MethodName := ⟨RJ2, "length", "([B)I"⟩
abbrev cJ2_charAt_3b067 : ByteArray := prog_26_method_83_code
def yJ2_charAt_3b067 : MethodName := ⟨RJ2, "charAt", "([BI)C"⟩
abbrev cJ2_checkIndex_2214a : ByteArray := prog_26_method_91_code
def yJ2_checkIndex_2214a : MethodName := ⟨RJ2, "checkIndex", "(I[B)V"⟩
def RJ10 : String := "java/lang/System"
def TJ10 : u_T := fun k => match k with
  | _ => ("", "", "", false)
def tyJ10 : Nat → FieldType := fun k => match k with
  | _ => .int
abbrev wsJ100 : List Cond := u_ws RJ10 TJ10 0
theorem nmJ10 : ∀ a, a < 0 → ∀ b, b < 0 → a ≠ b → (TJ10 a).2.1 ≠ (TJ10 b).2.1 := by decide +kernel
theorem tyJ10_ok : ∀ k, k < 0 → parseFieldDescriptor (TJ10 k).2.2.1 = some (tyJ10 k) := by decide +kernel
def RJxfd54e : String := "java/lang/constant/Constable"
def TJxfd54e : u_T := fun k => match k with
  | _ => ("", "", "", false)
def tyJxfd54e : Nat → FieldType := fun k => match k with
  | _ => .int
abbrev wsJxfd54e0 : List Cond := u_ws RJxfd54e TJxfd54e 0
theorem nmJxfd54e : ∀ a, a < 0 → ∀ b, b < 0 → a ≠ b → (TJxfd54e a).2.1 ≠ (TJxfd54e b).2.1 := by decide +kernel
theorem tyJxfd54e_ok : ∀ k, k < 0 → parseFieldDescriptor (TJxfd54e k).2.2.1 = some (tyJxfd54e k) := by decide +kernel
def RJx3cf43 : String := "java/lang/constant/ConstantDesc"
def TJx3cf43 : u_T := fun k => match k with
  | _ => ("", "", "", false)
def tyJx3cf43 : Nat → FieldType := fun k => match k with
  | _ => .int
abbrev wsJx3cf430 : List Cond := u_ws RJx3cf43 TJx3cf43 0
theorem nmJx3cf43 : ∀ a, a < 0 → ∀ b, b < 0 → a ≠ b → (TJx3cf43 a).2.1 ≠ (TJx3cf43 b).2.1 := by decide +kernel
theorem tyJx3cf43_ok : ∀ k, k < 0 → parseFieldDescriptor (TJx3cf43 k).2.2.1 = some (tyJx3cf43 k) := by decide +kernel
def RJ3 : String := "jdk/internal/util/Preconditions"
def TJ3 : u_T := fun k => match k with
  | _ => ("", "", "", false)
def tyJ3 : Nat → FieldType := fun k => match k with
  | _ => .int
abbrev wsJ30 : List Cond := u_ws RJ3 TJ3 0
theorem nmJ3 : ∀ a, a < 0 → ∀ b, b < 0 → a ≠ b → (TJ3 a).2.1 ≠ (TJ3 b).2.1 := by decide +kernel
theorem tyJ3_ok : ∀ k, k < 0 → parseFieldDescriptor (TJ3 k).2.2.1 = some (tyJ3 k) := by decide +kernel
abbrev cJ3_checkIndex_8e157 : ByteArray := prog_33_method_11_code
def yJ3_checkIndex_8e157 : MethodName := ⟨RJ3, "checkIndex", "(IILjava/util/function/BiFunction;)I"⟩
def RL : String := "HymnEndingsLaw"
abbrev cL_append : ByteArray := method_3_code
def yL_append : MethodName := ⟨RL, "append", "(LHymnEndings;C[J)I"⟩
abbrev cL_add : ByteArray := method_4_code
def yL_add : MethodName := ⟨RL, "add", "(LHymnEndings;[J)I"⟩
abbrev cL_cut : ByteArray := method_5_code
def yL_cut : MethodName := ⟨RL, "cut", "(LHymnEndings;I[J)I"⟩
abbrev cL_change : ByteArray := method_6_code
def yL_change : MethodName := ⟨RL, "change", "(LHymnEndings;IIC[J)I"⟩
abbrev cL_swap : ByteArray := method_7_code
def yL_swap : MethodName := ⟨RL, "swap", "(LHymnEndings;II[J)I"⟩
abbrev cL_join : ByteArray := method_8_code
def yL_join : MethodName := ⟨RL, "join", "(LHymnEndings;II[J)I"⟩
abbrev cL_turn : ByteArray := method_9_code
def yL_turn : MethodName := ⟨RL, "turn", "(LHymnEndings;I[J)I"⟩
abbrev cL_lineOf : ByteArray := method_10_code
def yL_lineOf : MethodName := ⟨RL, "lineOf", "(LHymnEndings;II[J)I"⟩
abbrev cL_letter : ByteArray := method_11_code
def yL_letter : MethodName := ⟨RL, "letter", "(LHymnEndings;II[J)I"⟩
abbrev cL_ending : ByteArray := method_12_code
def yL_ending : MethodName := ⟨RL, "ending", "(LHymnEndings;IZ[J)I"⟩
abbrev cL_rank : ByteArray := method_13_code
def yL_rank : MethodName := ⟨RL, "rank", "(LHymnEndings;II[J)I"⟩
abbrev cL_rankAgain : ByteArray := method_14_code
def yL_rankAgain : MethodName := ⟨RL, "rankAgain", "(LHymnEndings;II[J)I"⟩
abbrev cL_common : ByteArray := method_15_code
def yL_common : MethodName := ⟨RL, "common", "(LHymnEndings;I[J)I"⟩
abbrev cL_commonOf : ByteArray := method_16_code
def yL_commonOf : MethodName := ⟨RL, "commonOf", "(LHymnEndings;IIII[J)I"⟩
abbrev cL_longestRank : ByteArray := method_17_code
def yL_longestRank : MethodName := ⟨RL, "longestRank", "(LHymnEndings;[J)I"⟩
abbrev cL_finds : ByteArray := method_18_code
def yL_finds : MethodName := ⟨RL, "finds", "(LHymnEndings;[J)I"⟩
abbrev cL_findsAgain : ByteArray := method_19_code
def yL_findsAgain : MethodName := ⟨RL, "findsAgain", "(LHymnEndings;[J)I"⟩
abbrev cL_firstFind : ByteArray := method_20_code
def yL_firstFind : MethodName := ⟨RL, "firstFind", "(LHymnEndings;[J)I"⟩
abbrev cL_isLine : ByteArray := method_21_code
def yL_isLine : MethodName := ⟨RL, "isLine", "(LHymnEndings;[J)I"⟩
abbrev cL_shared : ByteArray := method_22_code
def yL_shared : MethodName := ⟨RL, "shared", "(LHymnEndings;II[J)I"⟩
abbrev cL_alone : ByteArray := method_23_code
def yL_alone : MethodName := ⟨RL, "alone", "(LHymnEndings;I[J)I"⟩
abbrev cL_alonePlace : ByteArray := method_24_code
def yL_alonePlace : MethodName := ⟨RL, "alonePlace", "(LHymnEndings;I[J)I"⟩
abbrev cL_isTurned : ByteArray := method_25_code
def yL_isTurned : MethodName := ⟨RL, "isTurned", "(LHymnEndings;II[J)I"⟩
abbrev cL_commands : ByteArray := method_26_code
def yL_commands : MethodName := ⟨RL, "commands", "(LHymnEndings;[J)I"⟩
abbrev cL_reason : ByteArray := method_27_code
def yL_reason : MethodName := ⟨RL, "reason", "(LHymnEndings;IZ[J)I"⟩
abbrev cL_write : ByteArray := method_28_code
def yL_write : MethodName := ⟨RL, "write", "(LHymnEndings;I[J)I"⟩
abbrev cL_writeLongest : ByteArray := method_29_code
def yL_writeLongest : MethodName := ⟨RL, "writeLongest", "(LHymnEndings;[J)I"⟩
abbrev cL_character : ByteArray := method_30_code
def yL_character : MethodName := ⟨RL, "character", "(LHymnEndings;I[J)I"⟩
abbrev cL_meanLetters : ByteArray := method_31_code
def yL_meanLetters : MethodName := ⟨RL, "meanLetters", "(LHymnEndings;[D)I"⟩
abbrev cL_repeatShare : ByteArray := method_32_code
def yL_repeatShare : MethodName := ⟨RL, "repeatShare", "(LHymnEndings;[D)I"⟩
abbrev cL_account : ByteArray := method_33_code
def yL_account : MethodName := ⟨RL, "account", "(LHymnEndings;I[J)I"⟩
abbrev cL_undo : ByteArray := method_34_code
def yL_undo : MethodName := ⟨RL, "undo", "(LHymnEndings;[J)I"⟩
abbrev cL_restore : ByteArray := method_35_code
def yL_restore : MethodName := ⟨RL, "restore", "(LHymnEndings;[J)I"⟩
abbrev cL_law : ByteArray := code
def yL_law : MethodName := ⟨RL, "law", "([I)Z"⟩
abbrev vwCl : List vw_C := [(RX0, TX0, 3), (RX2, TX2, 4), (RX3, TX3, 4), (RX4, TX4, 3), (RX6, TX6, 3), (RX7, TX7, 2), (RX8, TX8, 11), (RX9, TX9, 19)]
/-- the words that every contract asks for: the tables' good ones -/
def WW : List Cond := lw_tbl.filter goodWord
theorem WW_good : ∀ w ∈ WW, goodWord w = true := fun _ h => (List.mem_filter.mp h).2
theorem WW_tbl : ∀ w ∈ WW, w ∈ lw_tbl := fun _ h => (List.mem_filter.mp h).1
theorem inT {w : Cond} (h : w ∈ tables_1) (hg : goodWord w = true) : w ∈ WW := List.mem_filter.mpr ⟨List.mem_append_right _ h, hg⟩
theorem inP {w : Cond} (h : w ∈ k2_sels lw_privs) (hg : goodWord w = true) : w ∈ WW := List.mem_filter.mpr ⟨List.mem_append_left _ h, hg⟩
def aW (y : MethodName) (b : ByteArray) (n : Nat) (ret : Option FieldType) : List Cond := .code y b n ret :: WW
theorem in1 {w : Cond} (i : Nat) (h : tables_1_1[i]? = some w) (hg : goodWord w = true) : w ∈ WW := inT (List.mem_append_left _ (List.mem_of_getElem? h)) hg
theorem in2 {w : Cond} (i : Nat) (h : tables_1_2[i]? = some w) (hg : goodWord w = true) : w ∈ WW := inT (List.mem_append_right _ (List.mem_append_left _ (List.mem_of_getElem? h))) hg
theorem in3 {w : Cond} (i : Nat) (h : tables_1_3[i]? = some w) (hg : goodWord w = true) : w ∈ WW := inT (List.mem_append_right _ (List.mem_append_right _ (List.mem_append_left _ (List.mem_of_getElem? h)))) hg
theorem in4 {w : Cond} (i : Nat) (h : tables_1_4[i]? = some w) (hg : goodWord w = true) : w ∈ WW := inT (List.mem_append_right _ (List.mem_append_right _ (List.mem_append_right _ (List.mem_append_left _ (List.mem_of_getElem? h))))) hg
theorem in5 {w : Cond} (i : Nat) (h : tables_1_5[i]? = some w) (hg : goodWord w = true) : w ∈ WW := inT (List.mem_append_right _ (List.mem_append_right _ (List.mem_append_right _ (List.mem_append_right _ (List.mem_append_left _ (List.mem_of_getElem? h)))))) hg
theorem in6 {w : Cond} (i : Nat) (h : tables_1_6[i]? = some w) (hg : goodWord w = true) : w ∈ WW := inT (List.mem_append_right _ (List.mem_append_right _ (List.mem_append_right _ (List.mem_append_right _ (List.mem_append_right _ (List.mem_append_left _ (List.mem_of_getElem? h))))))) hg
theorem in7 {w : Cond} (i : Nat) (h : tables_1_7[i]? = some w) (hg : goodWord w = true) : w ∈ WW := inT (List.mem_append_right _ (List.mem_append_right _ (List.mem_append_right _ (List.mem_append_right _ (List.mem_append_right _ (List.mem_append_right _ (List.mem_of_getElem? h))))))) hg
theorem kn_L : Cond.initialized RL ∈ WW := in1 0 (by decide +kernel) rfl
theorem kn_X8 : Cond.initialized RX8 ∈ WW := in1 1 (by decide +kernel) rfl
theorem kn_X0 : Cond.initialized RX0 ∈ WW := in1 2 (by decide +kernel) rfl
theorem kn_X7 : Cond.initialized RX7 ∈ WW := in1 3 (by decide +kernel) rfl
theorem kn_X2 : Cond.initialized RX2 ∈ WW := in1 4 (by decide +kernel) rfl
theorem kn_X6 : Cond.initialized RX6 ∈ WW := in1 5 (by decide +kernel) rfl
theorem kn_X4 : Cond.initialized RX4 ∈ WW := in1 6 (by decide +kernel) rfl
theorem kn_X3 : Cond.initialized RX3 ∈ WW := in1 7 (by decide +kernel) rfl
theorem kn_X9 : Cond.initialized RX9 ∈ WW := in1 8 (by decide +kernel) rfl
theorem kn_J10 : Cond.initialized RJ10 ∈ WW := in1 13 (by decide +kernel) rfl
theorem kn_X1 : Cond.initialized RX1 ∈ WW := in1 14 (by decide +kernel) rfl
theorem kn_J9 : Cond.initialized RJ9 ∈ WW := in1 16 (by decide +kernel) rfl
theorem kn_Jx00060 : Cond.initialized RJx00060 ∈ WW := in1 18 (by decide +kernel) rfl
theorem kn_J0 : Cond.initialized RJ0 ∈ WW := in1 19 (by decide +kernel) rfl
theorem kn_J6 : Cond.initialized RJ6 ∈ WW := in1 20 (by decide +kernel) rfl
theorem kn_X5 : Cond.initialized RX5 ∈ WW := in1 21 (by decide +kernel) rfl
theorem kn_J1 : Cond.initialized RJ1 ∈ WW := in1 24 (by decide +kernel) rfl
theorem kn_J3 : Cond.initialized RJ3 ∈ WW := in1 25 (by decide +kernel) rfl
theorem kn_J2 : Cond.initialized RJ2 ∈ WW := in1 26 (by decide +kernel) rfl
theorem kk_L_8 : Cond.classLink RL 8 RX8 ∈ WW := in1 28 (by decide +kernel) rfl
theorem ka_X8 : Cond.instantiable RX8 11 ∈ WW := in1 29 (by decide +kernel) rfl
theorem kl_L_133 : Cond.methodLink RL 133 yX8_init ∈ WW := in1 30 (by decide +kernel) rfl
theorem ki_X8_init : Cond.instanceMethod yX8_init ∈ WW := in1 31 (by decide +kernel) rfl
theorem kc_X8_init : Cond.code yX8_init cX8_init 1 none ∈ WW := in1 32 (by decide +kernel) rfl
theorem kl_X8_1 : Cond.methodLink RX8 1 objectInit ∈ WW := in1 33 (by decide +kernel) rfl
theorem ki_obj : Cond.instanceMethod objectInit ∈ WW := in1 34 (by decide +kernel) rfl
theorem kc_obj : Cond.code objectInit ⟨#[0xb1]⟩ 1 none ∈ WW := in1 35 (by decide +kernel) rfl
theorem kk_X8_7 : Cond.classLink RX8 7 RX0 ∈ WW := in1 36 (by decide +kernel) rfl
theorem ka_X0 : Cond.instantiable RX0 3 ∈ WW := in1 37 (by decide +kernel) rfl
theorem kl_X8_9 : Cond.methodLink RX8 9 yX0_init ∈ WW := in1 38 (by decide +kernel) rfl
theorem ki_X0_init : Cond.instanceMethod yX0_init ∈ WW := in1 39 (by decide +kernel) rfl
theorem kc_X0_init : Cond.code yX0_init cX0_init 1 none ∈ WW := in1 40 (by decide +kernel) rfl
theorem kl_X0_3 : Cond.methodLink RX0 3 objectInit ∈ WW := in1 41 (by decide +kernel) rfl
theorem kf_X0_9 : Cond.fieldLink RX0 9 "HymnEndings$Book" "letters" "[C" ∈ WW := in1 42 (by decide +kernel) rfl
theorem kf_X0_15 : Cond.fieldLink RX0 15 "HymnEndings$Book" "sizes" "[I" ∈ WW := in1 43 (by decide +kernel) rfl
theorem kf_X0_19 : Cond.fieldLink RX0 19 "HymnEndings$Book" "lines" "I" ∈ WW := in1 44 (by decide +kernel) rfl
theorem kr_char : Cond.arrayClass .char ∈ WW := in1 52 (by decide +kernel) rfl
theorem kr_int : Cond.arrayClass .int ∈ WW := in1 53 (by decide +kernel) rfl
theorem kk_X8_22 : Cond.classLink RX8 22 RX7 ∈ WW := in1 54 (by decide +kernel) rfl
theorem ka_X7 : Cond.instantiable RX7 2 ∈ WW := in1 55 (by decide +kernel) rfl
theorem kl_X8_24 : Cond.methodLink RX8 24 yX7_init ∈ WW := in1 56 (by decide +kernel) rfl
theorem ki_X7_init : Cond.instanceMethod yX7_init ∈ WW := in1 57 (by decide +kernel) rfl
theorem kc_X7_init : Cond.code yX7_init cX7_init 1 none ∈ WW := in1 58 (by decide +kernel) rfl
theorem kl_X7_3 : Cond.methodLink RX7 3 objectInit ∈ WW := in1 59 (by decide +kernel) rfl
theorem kf_X7_9 : Cond.fieldLink RX7 9 "HymnEndings$Text" "characters" "[C" ∈ WW := in1 60 (by decide +kernel) rfl
theorem kf_X7_15 : Cond.fieldLink RX7 15 "HymnEndings$Text" "length" "I" ∈ WW := in1 61 (by decide +kernel) rfl
theorem kk_X8_29 : Cond.classLink RX8 29 RX2 ∈ WW := in1 67 (by decide +kernel) rfl
theorem ka_X2 : Cond.instantiable RX2 4 ∈ WW := in1 68 (by decide +kernel) rfl
theorem kl_X8_31 : Cond.methodLink RX8 31 yX2_init ∈ WW := in1 69 (by decide +kernel) rfl
theorem ki_X2_init : Cond.instanceMethod yX2_init ∈ WW := in1 70 (by decide +kernel) rfl
theorem kc_X2_init : Cond.code yX2_init cX2_init 1 none ∈ WW := in1 71 (by decide +kernel) rfl
theorem kl_X2_3 : Cond.methodLink RX2 3 objectInit ∈ WW := in1 72 (by decide +kernel) rfl
theorem kf_X2_9 : Cond.fieldLink RX2 9 "HymnEndings$CommandReader" "starts" "[I" ∈ WW := in1 74 (by decide +kernel) rfl
theorem kf_X2_15 : Cond.fieldLink RX2 15 "HymnEndings$CommandReader" "count" "I" ∈ WW := in1 75 (by decide +kernel) rfl
theorem kf_X2_21 : Cond.fieldLink RX2 21 "HymnEndings$CommandReader" "shape" "Ljava/lang/String;" ∈ WW := in1 76 (by decide +kernel) rfl
theorem kf_X2_25 : Cond.fieldLink RX2 25 "HymnEndings$CommandReader" "step" "I" ∈ WW := in1 77 (by decide +kernel) rfl
theorem kr_byte : Cond.arrayClass .byte ∈ WW := in1 87 (by decide +kernel) rfl
theorem kk_X8_36 : Cond.classLink RX8 36 RX6 ∈ WW := in1 88 (by decide +kernel) rfl
theorem ka_X6 : Cond.instantiable RX6 3 ∈ WW := in1 89 (by decide +kernel) rfl
theorem kl_X8_38 : Cond.methodLink RX8 38 yX6_init ∈ WW := in1 90 (by decide +kernel) rfl
theorem ki_X6_init : Cond.instanceMethod yX6_init ∈ WW := in1 91 (by decide +kernel) rfl
theorem kc_X6_init : Cond.code yX6_init cX6_init 1 none ∈ WW := in1 92 (by decide +kernel) rfl
theorem kl_X6_3 : Cond.methodLink RX6 3 objectInit ∈ WW := in1 93 (by decide +kernel) rfl
theorem kf_X6_9 : Cond.fieldLink RX6 9 "HymnEndings$Refusal" "reasons" "[I" ∈ WW := in1 94 (by decide +kernel) rfl
theorem kf_X6_15 : Cond.fieldLink RX6 15 "HymnEndings$Refusal" "details" "[I" ∈ WW := in1 95 (by decide +kernel) rfl
theorem kf_X6_18 : Cond.fieldLink RX6 18 "HymnEndings$Refusal" "count" "I" ∈ WW := in1 96 (by decide +kernel) rfl
theorem kk_X8_43 : Cond.classLink RX8 43 RX4 ∈ WW := in1 104 (by decide +kernel) rfl
theorem ka_X4 : Cond.instantiable RX4 3 ∈ WW := in1 105 (by decide +kernel) rfl
theorem kl_X8_45 : Cond.methodLink RX8 45 yX4_init ∈ WW := in1 106 (by decide +kernel) rfl
theorem ki_X4_init : Cond.instanceMethod yX4_init ∈ WW := in1 107 (by decide +kernel) rfl
theorem kc_X4_init : Cond.code yX4_init cX4_init 2 none ∈ WW := in1 108 (by decide +kernel) rfl
theorem kl_X4_3 : Cond.methodLink RX4 3 objectInit ∈ WW := in1 109 (by decide +kernel) rfl
theorem kk_X4_9 : Cond.classLink RX4 9 RX0 ∈ WW := in1 110 (by decide +kernel) rfl
theorem kl_X4_17 : Cond.methodLink RX4 17 yX0_init ∈ WW := in1 112 (by decide +kernel) rfl
theorem kf_X4_11 : Cond.fieldLink RX4 11 "HymnEndings$History" "books" "[LHymnEndings$Book;" ∈ WW := in1 113 (by decide +kernel) rfl
theorem kf_X4_18 : Cond.fieldLink RX4 18 "HymnEndings$History" "oldest" "I" ∈ WW := in1 114 (by decide +kernel) rfl
theorem kf_X4_22 : Cond.fieldLink RX4 22 "HymnEndings$History" "size" "I" ∈ WW := in1 115 (by decide +kernel) rfl
theorem kk_X8_50 : Cond.classLink RX8 50 RX3 ∈ WW := in1 123 (by decide +kernel) rfl
theorem ka_X3 : Cond.instantiable RX3 4 ∈ WW := in1 124 (by decide +kernel) rfl
theorem kl_X8_52 : Cond.methodLink RX8 52 yX3_init ∈ WW := in1 125 (by decide +kernel) rfl
theorem ki_X3_init : Cond.instanceMethod yX3_init ∈ WW := in1 126 (by decide +kernel) rfl
theorem kc_X3_init : Cond.code yX3_init cX3_init 1 none ∈ WW := in1 127 (by decide +kernel) rfl
theorem kl_X3_3 : Cond.methodLink RX3 3 objectInit ∈ WW := in1 128 (by decide +kernel) rfl
theorem kf_X3_9 : Cond.fieldLink RX3 9 "HymnEndings$EndingOrder" "lines" "[I" ∈ WW := in1 129 (by decide +kernel) rfl
theorem kf_X3_15 : Cond.fieldLink RX3 15 "HymnEndings$EndingOrder" "places" "[I" ∈ WW := in1 130 (by decide +kernel) rfl
theorem kf_X3_18 : Cond.fieldLink RX3 18 "HymnEndings$EndingOrder" "commons" "[I" ∈ WW := in1 131 (by decide +kernel) rfl
theorem kf_X3_21 : Cond.fieldLink RX3 21 "HymnEndings$EndingOrder" "endings" "I" ∈ WW := in1 132 (by decide +kernel) rfl
theorem kf_X8_10 : Cond.fieldLink RX8 10 "HymnEndings" "book" "LHymnEndings$Book;" ∈ WW := in1 142 (by decide +kernel) rfl
theorem kf_X8_16 : Cond.fieldLink RX8 16 "HymnEndings" "before" "LHymnEndings$Book;" ∈ WW := in1 143 (by decide +kernel) rfl
theorem kf_X8_19 : Cond.fieldLink RX8 19 "HymnEndings" "snapshot" "LHymnEndings$Book;" ∈ WW := in1 144 (by decide +kernel) rfl
theorem kf_X8_25 : Cond.fieldLink RX8 25 "HymnEndings" "text" "LHymnEndings$Text;" ∈ WW := in1 145 (by decide +kernel) rfl
theorem kf_X8_32 : Cond.fieldLink RX8 32 "HymnEndings" "reader" "LHymnEndings$CommandReader;" ∈ WW := in1 146 (by decide +kernel) rfl
theorem kf_X8_39 : Cond.fieldLink RX8 39 "HymnEndings" "refusal" "LHymnEndings$Refusal;" ∈ WW := in1 147 (by decide +kernel) rfl
theorem kf_X8_46 : Cond.fieldLink RX8 46 "HymnEndings" "history" "LHymnEndings$History;" ∈ WW := in1 148 (by decide +kernel) rfl
theorem kf_X8_53 : Cond.fieldLink RX8 53 "HymnEndings" "order" "LHymnEndings$EndingOrder;" ∈ WW := in1 149 (by decide +kernel) rfl
theorem kf_X8_57 : Cond.fieldLink RX8 57 "HymnEndings" "written" "LHymnEndings$Text;" ∈ WW := in1 150 (by decide +kernel) rfl
theorem kf_X8_60 : Cond.fieldLink RX8 60 "HymnEndings" "fault" "I" ∈ WW := in1 151 (by decide +kernel) rfl
theorem kf_X8_64 : Cond.fieldLink RX8 64 "HymnEndings" "isSaved" "Z" ∈ WW := in1 152 (by decide +kernel) rfl
theorem kl_L_191 : Cond.methodLink RL 191 yX8_longest ∈ WW := in1 176 (by decide +kernel) rfl
theorem ki_X8_longest : Cond.instanceMethod yX8_longest ∈ WW := in1 177 (by decide +kernel) rfl
theorem kv_X8_longest : Cond.selects RX8 yX8_longest yX8_longest ∈ WW := in1 178 (by decide +kernel) rfl
theorem kc_X8_longest : Cond.code yX8_longest cX8_longest 1 (some .int) ∈ WW := in1 179 (by decide +kernel) rfl
theorem kl_X8_199 : Cond.methodLink RX8 199 yX3_longestCommon ∈ WW := in1 180 (by decide +kernel) rfl
theorem ki_X3_longestCommon : Cond.instanceMethod yX3_longestCommon ∈ WW := in1 181 (by decide +kernel) rfl
theorem kv_X3_longestCommon : Cond.selects RX3 yX3_longestCommon yX3_longestCommon ∈ WW := in1 182 (by decide +kernel) rfl
theorem kc_X3_longestCommon : Cond.code yX3_longestCommon cX3_longestCommon 3 (some .int) ∈ WW := in1 183 (by decide +kernel) rfl
theorem kl_X3_60 : Cond.methodLink RX3 60 yJ9_max_7cf53 ∈ WW := in1 184 (by decide +kernel) rfl
theorem ks_J9_max_7cf53 : Cond.static yJ9_max_7cf53 ∈ WW := in1 185 (by decide +kernel) rfl
theorem kc_J9_max_7cf53 : Cond.code yJ9_max_7cf53 cJ9_max_7cf53 2 (some .int) ∈ WW := in1 186 (by decide +kernel) rfl
theorem kl_L_198 : Cond.methodLink RL 198 yX8_pieces ∈ WW := in1 187 (by decide +kernel) rfl
theorem ki_X8_pieces : Cond.instanceMethod yX8_pieces ∈ WW := in1 188 (by decide +kernel) rfl
theorem kv_X8_pieces : Cond.selects RX8 yX8_pieces yX8_pieces ∈ WW := in1 189 (by decide +kernel) rfl
theorem kc_X8_pieces : Cond.code yX8_pieces cX8_pieces 1 (some .int) ∈ WW := in1 190 (by decide +kernel) rfl
theorem kl_X8_208 : Cond.methodLink RX8 208 yX3_countPieces ∈ WW := in1 191 (by decide +kernel) rfl
theorem ki_X3_countPieces : Cond.instanceMethod yX3_countPieces ∈ WW := in1 192 (by decide +kernel) rfl
theorem kv_X3_countPieces : Cond.selects RX3 yX3_countPieces yX3_countPieces ∈ WW := in1 193 (by decide +kernel) rfl
theorem kc_X3_countPieces : Cond.code yX3_countPieces cX3_countPieces 4 (some .int) ∈ WW := in1 194 (by decide +kernel) rfl
theorem kl_X3_34 : Cond.methodLink RX3 34 yX0_size ∈ WW := in1 195 (by decide +kernel) rfl
theorem ki_X0_size : Cond.instanceMethod yX0_size ∈ WW := in1 196 (by decide +kernel) rfl
theorem kv_X0_size : Cond.selects RX0 yX0_size yX0_size ∈ WW := in1 197 (by decide +kernel) rfl
theorem kc_X0_size : Cond.code yX0_size cX0_size 2 (some .int) ∈ WW := in1 198 (by decide +kernel) rfl
theorem kl_X0_23 : Cond.methodLink RX0 23 yX0_hasLine ∈ WW := in1 199 (by decide +kernel) rfl
theorem ki_X0_hasLine : Cond.instanceMethod yX0_hasLine ∈ WW := in1 200 (by decide +kernel) rfl
theorem kv_X0_hasLine : Cond.selects RX0 yX0_hasLine yX0_hasLine ∈ WW := in1 201 (by decide +kernel) rfl
theorem kc_X0_hasLine : Cond.code yX0_hasLine cX0_hasLine 2 (some .boolean) ∈ WW := in1 202 (by decide +kernel) rfl
theorem kl_X3_69 : Cond.methodLink RX3 69 yX3_commonAt ∈ WW := in1 203 (by decide +kernel) rfl
theorem ki_X3_commonAt : Cond.instanceMethod yX3_commonAt ∈ WW := in1 204 (by decide +kernel) rfl
theorem kv_X3_commonAt : Cond.selects RX3 yX3_commonAt yX3_commonAt ∈ WW := in1 205 (by decide +kernel) rfl
theorem kc_X3_commonAt : Cond.code yX3_commonAt cX3_commonAt 2 (some .int) ∈ WW := in1 206 (by decide +kernel) rfl
theorem kl_X3_25 : Cond.methodLink RX3 25 yX3_hasRank ∈ WW := in1 207 (by decide +kernel) rfl
theorem ki_X3_hasRank : Cond.instanceMethod yX3_hasRank ∈ WW := in1 208 (by decide +kernel) rfl
theorem kv_X3_hasRank : Cond.selects RX3 yX3_hasRank yX3_hasRank ∈ WW := in1 209 (by decide +kernel) rfl
theorem kc_X3_hasRank : Cond.code yX3_hasRank cX3_hasRank 2 (some .boolean) ∈ WW := in1 210 (by decide +kernel) rfl
theorem kl_L_202 : Cond.methodLink RL 202 yX8_piecesAgain ∈ WW := in1 211 (by decide +kernel) rfl
theorem ki_X8_piecesAgain : Cond.instanceMethod yX8_piecesAgain ∈ WW := in1 212 (by decide +kernel) rfl
theorem kv_X8_piecesAgain : Cond.selects RX8 yX8_piecesAgain yX8_piecesAgain ∈ WW := in1 213 (by decide +kernel) rfl
theorem kc_X8_piecesAgain : Cond.code yX8_piecesAgain cX8_piecesAgain 1 (some .int) ∈ WW := in1 214 (by decide +kernel) rfl
theorem kl_X8_212 : Cond.methodLink RX8 212 yX5_countNew ∈ WW := in1 215 (by decide +kernel) rfl
theorem ks_X5_countNew : Cond.static yX5_countNew ∈ WW := in1 216 (by decide +kernel) rfl
theorem kc_X5_countNew : Cond.code yX5_countNew cX5_countNew 4 (some .int) ∈ WW := in1 217 (by decide +kernel) rfl
theorem kl_X5_34 : Cond.methodLink RX5 34 yX0_lines ∈ WW := in1 218 (by decide +kernel) rfl
theorem ki_X0_lines : Cond.instanceMethod yX0_lines ∈ WW := in1 219 (by decide +kernel) rfl
theorem kv_X0_lines : Cond.selects RX0 yX0_lines yX0_lines ∈ WW := in1 220 (by decide +kernel) rfl
theorem kc_X0_lines : Cond.code yX0_lines cX0_lines 1 (some .int) ∈ WW := in1 221 (by decide +kernel) rfl
theorem kl_X5_9 : Cond.methodLink RX5 9 yX0_size ∈ WW := in1 222 (by decide +kernel) rfl
theorem kl_X5_38 : Cond.methodLink RX5 38 yX5_mostFurtherAhead ∈ WW := in1 223 (by decide +kernel) rfl
theorem ks_X5_mostFurtherAhead : Cond.static yX5_mostFurtherAhead ∈ WW := in1 224 (by decide +kernel) rfl
theorem kc_X5_mostFurtherAhead : Cond.code yX5_mostFurtherAhead cX5_mostFurtherAhead 5 (some .int) ∈ WW := in1 225 (by decide +kernel) rfl
theorem kl_X5_15 : Cond.methodLink RX5 15 yX5_mostInLine ∈ WW := in1 226 (by decide +kernel) rfl
theorem ks_X5_mostInLine : Cond.static yX5_mostInLine ∈ WW := in1 227 (by decide +kernel) rfl
theorem kc_X5_mostInLine : Cond.code yX5_mostInLine cX5_mostInLine 7 (some .int) ∈ WW := in1 228 (by decide +kernel) rfl
theorem kl_X5_41 : Cond.methodLink RX5 41 yX0_sameLetters ∈ WW := in1 229 (by decide +kernel) rfl
theorem ki_X0_sameLetters : Cond.instanceMethod yX0_sameLetters ∈ WW := in1 230 (by decide +kernel) rfl
theorem kv_X0_sameLetters : Cond.selects RX0 yX0_sameLetters yX0_sameLetters ∈ WW := in1 231 (by decide +kernel) rfl
theorem kc_X0_sameLetters : Cond.code yX0_sameLetters cX0_sameLetters 7 (some .int) ∈ WW := in1 232 (by decide +kernel) rfl
theorem kl_X0_43 : Cond.methodLink RX0 43 yX0_letterAt ∈ WW := in1 233 (by decide +kernel) rfl
theorem ki_X0_letterAt : Cond.instanceMethod yX0_letterAt ∈ WW := in1 234 (by decide +kernel) rfl
theorem kv_X0_letterAt : Cond.selects RX0 yX0_letterAt yX0_letterAt ∈ WW := in1 235 (by decide +kernel) rfl
theorem kc_X0_letterAt : Cond.code yX0_letterAt cX0_letterAt 3 (some .char) ∈ WW := in1 236 (by decide +kernel) rfl
theorem kl_X0_27 : Cond.methodLink RX0 27 yX0_hasPlace ∈ WW := in1 237 (by decide +kernel) rfl
theorem ki_X0_hasPlace : Cond.instanceMethod yX0_hasPlace ∈ WW := in1 238 (by decide +kernel) rfl
theorem kv_X0_hasPlace : Cond.selects RX0 yX0_hasPlace yX0_hasPlace ∈ WW := in1 239 (by decide +kernel) rfl
theorem kc_X0_hasPlace : Cond.code yX0_hasPlace cX0_hasPlace 3 (some .boolean) ∈ WW := in2 0 (by decide +kernel) rfl
theorem kl_X5_21 : Cond.methodLink RX5 21 yJ9_max_7cf53 ∈ WW := in2 1 (by decide +kernel) rfl
theorem kl_L_206 : Cond.methodLink RL 206 yX8_kinds ∈ WW := in2 2 (by decide +kernel) rfl
theorem ki_X8_kinds : Cond.instanceMethod yX8_kinds ∈ WW := in2 3 (by decide +kernel) rfl
theorem kv_X8_kinds : Cond.selects RX8 yX8_kinds yX8_kinds ∈ WW := in2 4 (by decide +kernel) rfl
theorem kc_X8_kinds : Cond.code yX8_kinds cX8_kinds 1 (some .int) ∈ WW := in2 5 (by decide +kernel) rfl
theorem kl_X8_215 : Cond.methodLink RX8 215 yX0_countKinds ∈ WW := in2 6 (by decide +kernel) rfl
theorem ki_X0_countKinds : Cond.instanceMethod yX0_countKinds ∈ WW := in2 7 (by decide +kernel) rfl
theorem kv_X0_countKinds : Cond.selects RX0 yX0_countKinds yX0_countKinds ∈ WW := in2 8 (by decide +kernel) rfl
theorem kc_X0_countKinds : Cond.code yX0_countKinds cX0_countKinds 4 (some .int) ∈ WW := in2 9 (by decide +kernel) rfl
theorem kl_X0_61 : Cond.methodLink RX0 61 yX0_isSame ∈ WW := in2 10 (by decide +kernel) rfl
theorem ki_X0_isSame : Cond.instanceMethod yX0_isSame ∈ WW := in2 11 (by decide +kernel) rfl
theorem kv_X0_isSame : Cond.selects RX0 yX0_isSame yX0_isSame ∈ WW := in2 12 (by decide +kernel) rfl
theorem kc_X0_isSame : Cond.code yX0_isSame cX0_isSame 4 (some .boolean) ∈ WW := in2 13 (by decide +kernel) rfl
theorem kl_X0_39 : Cond.methodLink RX0 39 yX0_size ∈ WW := in2 14 (by decide +kernel) rfl
theorem kl_X0_57 : Cond.methodLink RX0 57 yX0_sameLetters ∈ WW := in2 15 (by decide +kernel) rfl
theorem kl_L_237 : Cond.methodLink RL 237 yX8_faultPosition ∈ WW := in2 16 (by decide +kernel) rfl
theorem ki_X8_faultPosition : Cond.instanceMethod yX8_faultPosition ∈ WW := in2 17 (by decide +kernel) rfl
theorem kv_X8_faultPosition : Cond.selects RX8 yX8_faultPosition yX8_faultPosition ∈ WW := in2 18 (by decide +kernel) rfl
theorem kc_X8_faultPosition : Cond.code yX8_faultPosition cX8_faultPosition 1 (some .int) ∈ WW := in2 19 (by decide +kernel) rfl
theorem kl_L_266 : Cond.methodLink RL 266 yX8_save ∈ WW := in2 20 (by decide +kernel) rfl
theorem ki_X8_save : Cond.instanceMethod yX8_save ∈ WW := in2 21 (by decide +kernel) rfl
theorem kv_X8_save : Cond.selects RX8 yX8_save yX8_save ∈ WW := in2 22 (by decide +kernel) rfl
theorem kc_X8_save : Cond.code yX8_save cX8_save 1 (some .int) ∈ WW := in2 23 (by decide +kernel) rfl
theorem kl_X8_87 : Cond.methodLink RX8 87 yX0_copyFrom ∈ WW := in2 24 (by decide +kernel) rfl
theorem ki_X0_copyFrom : Cond.instanceMethod yX0_copyFrom ∈ WW := in2 25 (by decide +kernel) rfl
theorem kv_X0_copyFrom : Cond.selects RX0 yX0_copyFrom yX0_copyFrom ∈ WW := in2 26 (by decide +kernel) rfl
theorem kc_X0_copyFrom : Cond.code yX0_copyFrom cX0_copyFrom 2 none ∈ WW := in2 27 (by decide +kernel) rfl
theorem kl_X0_47 : Cond.methodLink RX0 47 arraycopyName ∈ WW := in2 28 (by decide +kernel) rfl
theorem ks_arraycopy : Cond.static arraycopyName ∈ WW := in2 29 (by decide +kernel) rfl
theorem kt_arraycopy : Cond.native arraycopyName ∈ WW := in2 30 (by decide +kernel) rfl
theorem kl_X8_104 : Cond.methodLink RX8 104 yX0_lines ∈ WW := in2 31 (by decide +kernel) rfl
theorem kl_L_137 : Cond.methodLink RL 137 yL_append ∈ WW := in2 32 (by decide +kernel) rfl
theorem ks_L_append : Cond.static yL_append ∈ WW := in2 33 (by decide +kernel) rfl
theorem kk_L_13 : Cond.classLink RL 13 "java/lang/IllegalStateException" ∈ WW := in2 35 (by decide +kernel) rfl
theorem kl_L_7 : Cond.methodLink RL 7 yX8_append ∈ WW := in2 36 (by decide +kernel) rfl
theorem ki_X8_append : Cond.instanceMethod yX8_append ∈ WW := in2 37 (by decide +kernel) rfl
theorem kv_X8_append : Cond.selects RX8 yX8_append yX8_append ∈ WW := in2 38 (by decide +kernel) rfl
theorem kc_X8_append : Cond.code yX8_append cX8_append 2 (some .int) ∈ WW := in2 39 (by decide +kernel) rfl
theorem kl_X8_68 : Cond.methodLink RX8 68 yX7_isFull ∈ WW := in2 40 (by decide +kernel) rfl
theorem ki_X7_isFull : Cond.instanceMethod yX7_isFull ∈ WW := in2 41 (by decide +kernel) rfl
theorem kv_X7_isFull : Cond.selects RX7 yX7_isFull yX7_isFull ∈ WW := in2 42 (by decide +kernel) rfl
theorem kc_X7_isFull : Cond.code yX7_isFull cX7_isFull 1 (some .boolean) ∈ WW := in2 43 (by decide +kernel) rfl
theorem kk_X8_72 : Cond.classLink RX8 72 "java/lang/IllegalStateException" ∈ WW := in2 44 (by decide +kernel) rfl
theorem kl_X8_79 : Cond.methodLink RX8 79 yX7_put ∈ WW := in2 115 (by decide +kernel) rfl
theorem ki_X7_put : Cond.instanceMethod yX7_put ∈ WW := in2 116 (by decide +kernel) rfl
theorem kv_X7_put : Cond.selects RX7 yX7_put yX7_put ∈ WW := in2 117 (by decide +kernel) rfl
theorem kc_X7_put : Cond.code yX7_put cX7_put 2 none ∈ WW := in2 118 (by decide +kernel) rfl
theorem kl_X8_83 : Cond.methodLink RX8 83 yX7_length ∈ WW := in2 119 (by decide +kernel) rfl
theorem ki_X7_length : Cond.instanceMethod yX7_length ∈ WW := in2 120 (by decide +kernel) rfl
theorem kv_X7_length : Cond.selects RX7 yX7_length yX7_length ∈ WW := in2 121 (by decide +kernel) rfl
theorem kc_X7_length : Cond.code yX7_length cX7_length 1 (some .int) ∈ WW := in2 122 (by decide +kernel) rfl
theorem kl_L_146 : Cond.methodLink RL 146 yL_add ∈ WW := in2 123 (by decide +kernel) rfl
theorem ks_L_add : Cond.static yL_add ∈ WW := in2 124 (by decide +kernel) rfl
theorem kk_L_19 : Cond.classLink RL 19 "java/lang/UnsupportedOperationException" ∈ WW := in2 126 (by decide +kernel) rfl
theorem kl_L_15 : Cond.methodLink RL 15 yX8_add ∈ WW := in2 127 (by decide +kernel) rfl
theorem ki_X8_add : Cond.instanceMethod yX8_add ∈ WW := in2 128 (by decide +kernel) rfl
theorem kv_X8_add : Cond.selects RX8 yX8_add yX8_add ∈ WW := in2 129 (by decide +kernel) rfl
theorem kc_X8_add : Cond.code yX8_add cX8_add 2 (some .int) ∈ WW := in2 130 (by decide +kernel) rfl
theorem kl_X8_91 : Cond.methodLink RX8 91 yX1_addText ∈ WW := in2 131 (by decide +kernel) rfl
theorem ks_X1_addText : Cond.static yX1_addText ∈ WW := in2 132 (by decide +kernel) rfl
theorem kc_X1_addText : Cond.code yX1_addText cX1_addText 3 (some .boolean) ∈ WW := in2 133 (by decide +kernel) rfl
theorem kl_X1_9 : Cond.methodLink RX1 9 yX7_isWord ∈ WW := in2 134 (by decide +kernel) rfl
theorem ki_X7_isWord : Cond.instanceMethod yX7_isWord ∈ WW := in2 135 (by decide +kernel) rfl
theorem kv_X7_isWord : Cond.selects RX7 yX7_isWord yX7_isWord ∈ WW := in2 136 (by decide +kernel) rfl
theorem kc_X7_isWord : Cond.code yX7_isWord cX7_isWord 2 (some .boolean) ∈ WW := in2 137 (by decide +kernel) rfl
theorem ks_X8_isSmallLetter : Cond.static yX8_isSmallLetter ∈ WW := in2 139 (by decide +kernel) rfl
theorem kc_X8_isSmallLetter : Cond.code yX8_isSmallLetter cX8_isSmallLetter 1 (some .boolean) ∈ WW := in2 140 (by decide +kernel) rfl
theorem kl_X1_15 : Cond.methodLink RX1 15 yX7_length ∈ WW := in2 141 (by decide +kernel) rfl
theorem kl_X1_19 : Cond.methodLink RX1 19 yX6_keep ∈ WW := in2 142 (by decide +kernel) rfl
theorem ki_X6_keep : Cond.instanceMethod yX6_keep ∈ WW := in2 143 (by decide +kernel) rfl
theorem kv_X6_keep : Cond.selects RX6 yX6_keep yX6_keep ∈ WW := in2 144 (by decide +kernel) rfl
theorem kc_X6_keep : Cond.code yX6_keep cX6_keep 3 none ∈ WW := in2 145 (by decide +kernel) rfl
theorem kl_X1_25 : Cond.methodLink RX1 25 yX1_addWord ∈ WW := in2 146 (by decide +kernel) rfl
theorem ks_X1_addWord : Cond.static yX1_addWord ∈ WW := in2 147 (by decide +kernel) rfl
theorem kc_X1_addWord : Cond.code yX1_addWord cX1_addWord 7 (some .boolean) ∈ WW := in2 148 (by decide +kernel) rfl
theorem kl_X1_31 : Cond.methodLink RX1 31 yX0_lines ∈ WW := in2 149 (by decide +kernel) rfl
theorem kl_X1_36 : Cond.methodLink RX1 36 yX0_openLine ∈ WW := in2 150 (by decide +kernel) rfl
theorem ki_X0_openLine : Cond.instanceMethod yX0_openLine ∈ WW := in2 151 (by decide +kernel) rfl
theorem kv_X0_openLine : Cond.selects RX0 yX0_openLine yX0_openLine ∈ WW := in2 152 (by decide +kernel) rfl
theorem kc_X0_openLine : Cond.code yX0_openLine cX0_openLine 1 none ∈ WW := in2 153 (by decide +kernel) rfl
theorem kl_X1_39 : Cond.methodLink RX1 39 yX7_characterAt ∈ WW := in2 154 (by decide +kernel) rfl
theorem ki_X7_characterAt : Cond.instanceMethod yX7_characterAt ∈ WW := in2 155 (by decide +kernel) rfl
theorem kv_X7_characterAt : Cond.selects RX7 yX7_characterAt yX7_characterAt ∈ WW := in2 156 (by decide +kernel) rfl
theorem kc_X7_characterAt : Cond.code yX7_characterAt cX7_characterAt 2 (some .char) ∈ WW := in2 157 (by decide +kernel) rfl
theorem kl_X1_43 : Cond.methodLink RX1 43 yX0_putLetter ∈ WW := in2 158 (by decide +kernel) rfl
theorem ki_X0_putLetter : Cond.instanceMethod yX0_putLetter ∈ WW := in2 159 (by decide +kernel) rfl
theorem kv_X0_putLetter : Cond.selects RX0 yX0_putLetter yX0_putLetter ∈ WW := in2 160 (by decide +kernel) rfl
theorem kc_X0_putLetter : Cond.code yX0_putLetter cX0_putLetter 3 none ∈ WW := in2 161 (by decide +kernel) rfl
theorem kl_X0_31 : Cond.methodLink RX0 31 yX0_setLetter ∈ WW := in2 162 (by decide +kernel) rfl
theorem ki_X0_setLetter : Cond.instanceMethod yX0_setLetter ∈ WW := in2 163 (by decide +kernel) rfl
theorem kv_X0_setLetter : Cond.selects RX0 yX0_setLetter yX0_setLetter ∈ WW := in2 164 (by decide +kernel) rfl
theorem kc_X0_setLetter : Cond.code yX0_setLetter cX0_setLetter 4 none ∈ WW := in2 165 (by decide +kernel) rfl
theorem kl_X8_97 : Cond.methodLink RX8 97 yX7_clear ∈ WW := in2 166 (by decide +kernel) rfl
theorem ki_X7_clear : Cond.instanceMethod yX7_clear ∈ WW := in2 167 (by decide +kernel) rfl
theorem kv_X7_clear : Cond.selects RX7 yX7_clear yX7_clear ∈ WW := in2 168 (by decide +kernel) rfl
theorem kc_X7_clear : Cond.code yX7_clear cX7_clear 1 none ∈ WW := in2 169 (by decide +kernel) rfl
theorem kl_X8_100 : Cond.methodLink RX8 100 yX8_finishChange ∈ WW := in2 170 (by decide +kernel) rfl
theorem ki_X8_finishChange : Cond.instanceMethod yX8_finishChange ∈ WW := in2 172 (by decide +kernel) rfl
theorem kc_X8_finishChange : Cond.code yX8_finishChange cX8_finishChange 2 none ∈ WW := in2 173 (by decide +kernel) rfl
theorem kk_X8_328 : Cond.classLink RX8 328 "java/lang/UnsupportedOperationException" ∈ WW := in2 174 (by decide +kernel) rfl
theorem kl_X8_333 : Cond.methodLink RX8 333 yX4_keep ∈ WW := in2 190 (by decide +kernel) rfl
theorem ki_X4_keep : Cond.instanceMethod yX4_keep ∈ WW := in2 191 (by decide +kernel) rfl
theorem kv_X4_keep : Cond.selects RX4 yX4_keep yX4_keep ∈ WW := in2 192 (by decide +kernel) rfl
theorem kc_X4_keep : Cond.code yX4_keep cX4_keep 2 none ∈ WW := in2 193 (by decide +kernel) rfl
theorem kl_X4_25 : Cond.methodLink RX4 25 yX0_copyFrom ∈ WW := in2 194 (by decide +kernel) rfl
theorem kl_X8_322 : Cond.methodLink RX8 322 yX3_sort ∈ WW := in2 195 (by decide +kernel) rfl
theorem ki_X3_sort : Cond.instanceMethod yX3_sort ∈ WW := in2 196 (by decide +kernel) rfl
theorem kv_X3_sort : Cond.selects RX3 yX3_sort yX3_sort ∈ WW := in2 197 (by decide +kernel) rfl
theorem kc_X3_sort : Cond.code yX3_sort cX3_sort 4 none ∈ WW := in2 198 (by decide +kernel) rfl
theorem kl_X3_29 : Cond.methodLink RX3 29 yX0_lines ∈ WW := in2 199 (by decide +kernel) rfl
theorem kl_X3_38 : Cond.methodLink RX3 38 yX3_rankToTake ∈ WW := in2 200 (by decide +kernel) rfl
theorem ki_X3_rankToTake : Cond.instanceMethod yX3_rankToTake ∈ WW := in2 202 (by decide +kernel) rfl
theorem kc_X3_rankToTake : Cond.code yX3_rankToTake cX3_rankToTake 8 (some .int) ∈ WW := in2 203 (by decide +kernel) rfl
theorem kl_X3_50 : Cond.methodLink RX3 50 yX3_lineAt ∈ WW := in2 204 (by decide +kernel) rfl
theorem ki_X3_lineAt : Cond.instanceMethod yX3_lineAt ∈ WW := in2 205 (by decide +kernel) rfl
theorem kv_X3_lineAt : Cond.selects RX3 yX3_lineAt yX3_lineAt ∈ WW := in2 206 (by decide +kernel) rfl
theorem kc_X3_lineAt : Cond.code yX3_lineAt cX3_lineAt 2 (some .int) ∈ WW := in2 207 (by decide +kernel) rfl
theorem kl_X3_53 : Cond.methodLink RX3 53 yX3_placeAt ∈ WW := in2 208 (by decide +kernel) rfl
theorem ki_X3_placeAt : Cond.instanceMethod yX3_placeAt ∈ WW := in2 209 (by decide +kernel) rfl
theorem kv_X3_placeAt : Cond.selects RX3 yX3_placeAt yX3_placeAt ∈ WW := in2 210 (by decide +kernel) rfl
theorem kc_X3_placeAt : Cond.code yX3_placeAt cX3_placeAt 2 (some .int) ∈ WW := in2 211 (by decide +kernel) rfl
theorem kl_X3_56 : Cond.methodLink RX3 56 yX0_comesBefore ∈ WW := in2 212 (by decide +kernel) rfl
theorem ki_X0_comesBefore : Cond.instanceMethod yX0_comesBefore ∈ WW := in2 213 (by decide +kernel) rfl
theorem kv_X0_comesBefore : Cond.selects RX0 yX0_comesBefore yX0_comesBefore ∈ WW := in2 214 (by decide +kernel) rfl
theorem kc_X0_comesBefore : Cond.code yX0_comesBefore cX0_comesBefore 8 (some .boolean) ∈ WW := in2 215 (by decide +kernel) rfl
theorem kl_X3_42 : Cond.methodLink RX3 42 yX3_insert ∈ WW := in2 216 (by decide +kernel) rfl
theorem ki_X3_insert : Cond.instanceMethod yX3_insert ∈ WW := in2 218 (by decide +kernel) rfl
theorem kc_X3_insert : Cond.code yX3_insert cX3_insert 5 none ∈ WW := in2 219 (by decide +kernel) rfl
theorem kl_X3_46 : Cond.methodLink RX3 46 yX0_sameLetters ∈ WW := in2 220 (by decide +kernel) rfl
theorem kl_L_150 : Cond.methodLink RL 150 yL_cut ∈ WW := in2 221 (by decide +kernel) rfl
theorem ks_L_cut : Cond.static yL_cut ∈ WW := in2 222 (by decide +kernel) rfl
theorem kl_L_21 : Cond.methodLink RL 21 yX8_cut ∈ WW := in2 224 (by decide +kernel) rfl
theorem ki_X8_cut : Cond.instanceMethod yX8_cut ∈ WW := in2 225 (by decide +kernel) rfl
theorem kv_X8_cut : Cond.selects RX8 yX8_cut yX8_cut ∈ WW := in2 226 (by decide +kernel) rfl
theorem kc_X8_cut : Cond.code yX8_cut cX8_cut 2 (some .int) ∈ WW := in2 227 (by decide +kernel) rfl
theorem kl_X8_107 : Cond.methodLink RX8 107 yX1_cutLine ∈ WW := in2 228 (by decide +kernel) rfl
theorem ks_X1_cutLine : Cond.static yX1_cutLine ∈ WW := in2 229 (by decide +kernel) rfl
theorem kc_X1_cutLine : Cond.code yX1_cutLine cX1_cutLine 3 (some .boolean) ∈ WW := in2 230 (by decide +kernel) rfl
theorem kl_X1_47 : Cond.methodLink RX1 47 yX1_isMissing ∈ WW := in2 231 (by decide +kernel) rfl
theorem ks_X1_isMissing : Cond.static yX1_isMissing ∈ WW := in2 232 (by decide +kernel) rfl
theorem kc_X1_isMissing : Cond.code yX1_isMissing cX1_isMissing 3 (some .boolean) ∈ WW := in2 233 (by decide +kernel) rfl
theorem kl_X1_91 : Cond.methodLink RX1 91 yX0_hasLine ∈ WW := in2 234 (by decide +kernel) rfl
theorem kl_X1_51 : Cond.methodLink RX1 51 yX0_removeLine ∈ WW := in2 235 (by decide +kernel) rfl
theorem ki_X0_removeLine : Cond.instanceMethod yX0_removeLine ∈ WW := in2 236 (by decide +kernel) rfl
theorem kv_X0_removeLine : Cond.selects RX0 yX0_removeLine yX0_removeLine ∈ WW := in2 237 (by decide +kernel) rfl
theorem kc_X0_removeLine : Cond.code yX0_removeLine cX0_removeLine 3 none ∈ WW := in2 238 (by decide +kernel) rfl
theorem kl_X0_35 : Cond.methodLink RX0 35 yX0_exchangeLines ∈ WW := in2 239 (by decide +kernel) rfl
theorem ki_X0_exchangeLines : Cond.instanceMethod yX0_exchangeLines ∈ WW := in3 0 (by decide +kernel) rfl
theorem kv_X0_exchangeLines : Cond.selects RX0 yX0_exchangeLines yX0_exchangeLines ∈ WW := in3 1 (by decide +kernel) rfl
theorem kc_X0_exchangeLines : Cond.code yX0_exchangeLines cX0_exchangeLines 5 none ∈ WW := in3 2 (by decide +kernel) rfl
theorem kl_L_154 : Cond.methodLink RL 154 yL_change ∈ WW := in3 3 (by decide +kernel) rfl
theorem ks_L_change : Cond.static yL_change ∈ WW := in3 4 (by decide +kernel) rfl
theorem kl_L_25 : Cond.methodLink RL 25 yX8_change ∈ WW := in3 6 (by decide +kernel) rfl
theorem ki_X8_change : Cond.instanceMethod yX8_change ∈ WW := in3 7 (by decide +kernel) rfl
theorem kv_X8_change : Cond.selects RX8 yX8_change yX8_change ∈ WW := in3 8 (by decide +kernel) rfl
theorem kc_X8_change : Cond.code yX8_change cX8_change 4 (some .int) ∈ WW := in3 9 (by decide +kernel) rfl
theorem kl_X8_111 : Cond.methodLink RX8 111 yX1_changeLetter ∈ WW := in3 10 (by decide +kernel) rfl
theorem ks_X1_changeLetter : Cond.static yX1_changeLetter ∈ WW := in3 11 (by decide +kernel) rfl
theorem kc_X1_changeLetter : Cond.code yX1_changeLetter cX1_changeLetter 5 (some .boolean) ∈ WW := in3 12 (by decide +kernel) rfl
theorem kl_X1_55 : Cond.methodLink RX1 55 yX0_hasPlace ∈ WW := in3 13 (by decide +kernel) rfl
theorem kl_X1_63 : Cond.methodLink RX1 63 yX0_letterAt ∈ WW := in3 15 (by decide +kernel) rfl
theorem kl_X1_67 : Cond.methodLink RX1 67 yX0_setLetter ∈ WW := in3 16 (by decide +kernel) rfl
theorem kl_X8_115 : Cond.methodLink RX8 115 yX3_rankOf ∈ WW := in3 17 (by decide +kernel) rfl
theorem ki_X3_rankOf : Cond.instanceMethod yX3_rankOf ∈ WW := in3 18 (by decide +kernel) rfl
theorem kv_X3_rankOf : Cond.selects RX3 yX3_rankOf yX3_rankOf ∈ WW := in3 19 (by decide +kernel) rfl
theorem kc_X3_rankOf : Cond.code yX3_rankOf cX3_rankOf 4 (some .int) ∈ WW := in3 20 (by decide +kernel) rfl
theorem kl_L_158 : Cond.methodLink RL 158 yL_swap ∈ WW := in3 21 (by decide +kernel) rfl
theorem ks_L_swap : Cond.static yL_swap ∈ WW := in3 22 (by decide +kernel) rfl
theorem kl_L_29 : Cond.methodLink RL 29 yX8_swap ∈ WW := in3 24 (by decide +kernel) rfl
theorem ki_X8_swap : Cond.instanceMethod yX8_swap ∈ WW := in3 25 (by decide +kernel) rfl
theorem kv_X8_swap : Cond.selects RX8 yX8_swap yX8_swap ∈ WW := in3 26 (by decide +kernel) rfl
theorem kc_X8_swap : Cond.code yX8_swap cX8_swap 3 (some .int) ∈ WW := in3 27 (by decide +kernel) rfl
theorem kl_X8_119 : Cond.methodLink RX8 119 yX1_swapLines ∈ WW := in3 28 (by decide +kernel) rfl
theorem ks_X1_swapLines : Cond.static yX1_swapLines ∈ WW := in3 29 (by decide +kernel) rfl
theorem kc_X1_swapLines : Cond.code yX1_swapLines cX1_swapLines 4 (some .boolean) ∈ WW := in3 30 (by decide +kernel) rfl
theorem kl_X1_71 : Cond.methodLink RX1 71 yX1_isNoPair ∈ WW := in3 31 (by decide +kernel) rfl
theorem ks_X1_isNoPair : Cond.static yX1_isNoPair ∈ WW := in3 32 (by decide +kernel) rfl
theorem kc_X1_isNoPair : Cond.code yX1_isNoPair cX1_isNoPair 4 (some .boolean) ∈ WW := in3 33 (by decide +kernel) rfl
theorem kl_X1_75 : Cond.methodLink RX1 75 yX0_exchangeLines ∈ WW := in3 34 (by decide +kernel) rfl
theorem kl_X8_123 : Cond.methodLink RX8 123 yX0_size ∈ WW := in3 35 (by decide +kernel) rfl
theorem kl_X8_127 : Cond.methodLink RX8 127 yJ9_max_7cf53 ∈ WW := in3 36 (by decide +kernel) rfl
theorem kl_L_162 : Cond.methodLink RL 162 yL_join ∈ WW := in3 37 (by decide +kernel) rfl
theorem ks_L_join : Cond.static yL_join ∈ WW := in3 38 (by decide +kernel) rfl
theorem kl_L_33 : Cond.methodLink RL 33 yX8_join ∈ WW := in3 40 (by decide +kernel) rfl
theorem ki_X8_join : Cond.instanceMethod yX8_join ∈ WW := in3 41 (by decide +kernel) rfl
theorem kv_X8_join : Cond.selects RX8 yX8_join yX8_join ∈ WW := in3 42 (by decide +kernel) rfl
theorem kc_X8_join : Cond.code yX8_join cX8_join 3 (some .int) ∈ WW := in3 43 (by decide +kernel) rfl
theorem kl_X8_132 : Cond.methodLink RX8 132 yX1_joinLines ∈ WW := in3 44 (by decide +kernel) rfl
theorem ks_X1_joinLines : Cond.static yX1_joinLines ∈ WW := in3 45 (by decide +kernel) rfl
theorem kc_X1_joinLines : Cond.code yX1_joinLines cX1_joinLines 6 (some .boolean) ∈ WW := in3 46 (by decide +kernel) rfl
theorem kl_X1_78 : Cond.methodLink RX1 78 yX0_size ∈ WW := in3 47 (by decide +kernel) rfl
theorem kl_X1_82 : Cond.methodLink RX1 82 yX6_keepCause ∈ WW := in3 48 (by decide +kernel) rfl
theorem ki_X6_keepCause : Cond.instanceMethod yX6_keepCause ∈ WW := in3 49 (by decide +kernel) rfl
theorem kv_X6_keepCause : Cond.selects RX6 yX6_keepCause yX6_keepCause ∈ WW := in3 50 (by decide +kernel) rfl
theorem kc_X6_keepCause : Cond.code yX6_keepCause cX6_keepCause 3 none ∈ WW := in3 51 (by decide +kernel) rfl
theorem kl_L_165 : Cond.methodLink RL 165 yL_turn ∈ WW := in3 52 (by decide +kernel) rfl
theorem ks_L_turn : Cond.static yL_turn ∈ WW := in3 53 (by decide +kernel) rfl
theorem kl_L_36 : Cond.methodLink RL 36 yX8_turn ∈ WW := in3 55 (by decide +kernel) rfl
theorem ki_X8_turn : Cond.instanceMethod yX8_turn ∈ WW := in3 56 (by decide +kernel) rfl
theorem kv_X8_turn : Cond.selects RX8 yX8_turn yX8_turn ∈ WW := in3 57 (by decide +kernel) rfl
theorem kc_X8_turn : Cond.code yX8_turn cX8_turn 2 (some .int) ∈ WW := in3 58 (by decide +kernel) rfl
theorem kl_X8_135 : Cond.methodLink RX8 135 yX1_turnLine ∈ WW := in3 59 (by decide +kernel) rfl
theorem ks_X1_turnLine : Cond.static yX1_turnLine ∈ WW := in3 60 (by decide +kernel) rfl
theorem kc_X1_turnLine : Cond.code yX1_turnLine cX1_turnLine 3 (some .boolean) ∈ WW := in3 61 (by decide +kernel) rfl
theorem kl_X1_85 : Cond.methodLink RX1 85 yX0_isReverse ∈ WW := in3 62 (by decide +kernel) rfl
theorem ki_X0_isReverse : Cond.instanceMethod yX0_isReverse ∈ WW := in3 63 (by decide +kernel) rfl
theorem kv_X0_isReverse : Cond.selects RX0 yX0_isReverse yX0_isReverse ∈ WW := in3 64 (by decide +kernel) rfl
theorem kc_X0_isReverse : Cond.code yX0_isReverse cX0_isReverse 5 (some .boolean) ∈ WW := in3 65 (by decide +kernel) rfl
theorem kl_X1_88 : Cond.methodLink RX1 88 yX0_reverseLine ∈ WW := in3 66 (by decide +kernel) rfl
theorem ki_X0_reverseLine : Cond.instanceMethod yX0_reverseLine ∈ WW := in3 67 (by decide +kernel) rfl
theorem kv_X0_reverseLine : Cond.selects RX0 yX0_reverseLine yX0_reverseLine ∈ WW := in3 68 (by decide +kernel) rfl
theorem kc_X0_reverseLine : Cond.code yX0_reverseLine cX0_reverseLine 5 none ∈ WW := in3 69 (by decide +kernel) rfl
theorem kl_L_168 : Cond.methodLink RL 168 yL_lineOf ∈ WW := in3 70 (by decide +kernel) rfl
theorem ks_L_lineOf : Cond.static yL_lineOf ∈ WW := in3 71 (by decide +kernel) rfl
theorem kk_L_42 : Cond.classLink RL 42 "java/lang/IndexOutOfBoundsException" ∈ WW := in3 73 (by decide +kernel) rfl
theorem ka_Jx00060 : Cond.instantiable RJx00060 6 ∈ WW := in3 74 (by decide +kernel) rfl
theorem ki_Jx00060_init_a7421 : Cond.instanceMethod yJx00060_init_a7421 ∈ WW := in3 75 (by decide +kernel) rfl
theorem kc_Jx00060_init_a7421 : Cond.code yJx00060_init_a7421 cJx00060_init_a7421 2 none ∈ WW := in3 76 (by decide +kernel) rfl
theorem ka_J0 : Cond.instantiable RJ0 4 ∈ WW := in3 92 (by decide +kernel) rfl
theorem kk_L_44 : Cond.classLink RL 44 "java/lang/IllegalArgumentException" ∈ WW := in3 97 (by decide +kernel) rfl
theorem kl_L_39 : Cond.methodLink RL 39 yX8_lineOf ∈ WW := in3 98 (by decide +kernel) rfl
theorem ki_X8_lineOf : Cond.instanceMethod yX8_lineOf ∈ WW := in3 99 (by decide +kernel) rfl
theorem kv_X8_lineOf : Cond.selects RX8 yX8_lineOf yX8_lineOf ∈ WW := in3 100 (by decide +kernel) rfl
theorem kc_X8_lineOf : Cond.code yX8_lineOf cX8_lineOf 3 (some .int) ∈ WW := in3 101 (by decide +kernel) rfl
theorem kl_X8_138 : Cond.methodLink RX8 138 yX8_checkLine ∈ WW := in3 102 (by decide +kernel) rfl
theorem ki_X8_checkLine : Cond.instanceMethod yX8_checkLine ∈ WW := in3 104 (by decide +kernel) rfl
theorem kc_X8_checkLine : Cond.code yX8_checkLine cX8_checkLine 2 none ∈ WW := in3 105 (by decide +kernel) rfl
theorem kl_X8_336 : Cond.methodLink RX8 336 yX0_hasLine ∈ WW := in3 106 (by decide +kernel) rfl
theorem kk_X8_287 : Cond.classLink RX8 287 "java/lang/IndexOutOfBoundsException" ∈ WW := in3 107 (by decide +kernel) rfl
theorem kl_X8_142 : Cond.methodLink RX8 142 yX0_letterSet ∈ WW := in3 120 (by decide +kernel) rfl
theorem ki_X0_letterSet : Cond.instanceMethod yX0_letterSet ∈ WW := in3 121 (by decide +kernel) rfl
theorem kv_X0_letterSet : Cond.selects RX0 yX0_letterSet yX0_letterSet ∈ WW := in3 122 (by decide +kernel) rfl
theorem kc_X0_letterSet : Cond.code yX0_letterSet cX0_letterSet 4 (some .int) ∈ WW := in3 123 (by decide +kernel) rfl
theorem kl_X8_145 : Cond.methodLink RX8 145 yJ6_bitCount_0f7a4 ∈ WW := in3 124 (by decide +kernel) rfl
theorem ks_J6_bitCount_0f7a4 : Cond.static yJ6_bitCount_0f7a4 ∈ WW := in3 125 (by decide +kernel) rfl
theorem kc_J6_bitCount_0f7a4 : Cond.code yJ6_bitCount_0f7a4 cJ6_bitCount_0f7a4 1 (some .int) ∈ WW := in3 126 (by decide +kernel) rfl
theorem kl_X8_150 : Cond.methodLink RX8 150 yX0_countSameLines ∈ WW := in3 130 (by decide +kernel) rfl
theorem ki_X0_countSameLines : Cond.instanceMethod yX0_countSameLines ∈ WW := in3 131 (by decide +kernel) rfl
theorem kv_X0_countSameLines : Cond.selects RX0 yX0_countSameLines yX0_countSameLines ∈ WW := in3 132 (by decide +kernel) rfl
theorem kc_X0_countSameLines : Cond.code yX0_countSameLines cX0_countSameLines 4 (some .int) ∈ WW := in3 133 (by decide +kernel) rfl
theorem kl_X8_153 : Cond.methodLink RX8 153 yX0_period ∈ WW := in3 134 (by decide +kernel) rfl
theorem ki_X0_period : Cond.instanceMethod yX0_period ∈ WW := in3 135 (by decide +kernel) rfl
theorem kv_X0_period : Cond.selects RX0 yX0_period yX0_period ∈ WW := in3 136 (by decide +kernel) rfl
theorem kc_X0_period : Cond.code yX0_period cX0_period 4 (some .int) ∈ WW := in3 137 (by decide +kernel) rfl
theorem kl_X8_156 : Cond.methodLink RX8 156 yX5_longestRepeat ∈ WW := in3 138 (by decide +kernel) rfl
theorem ks_X5_longestRepeat : Cond.static yX5_longestRepeat ∈ WW := in3 139 (by decide +kernel) rfl
theorem kc_X5_longestRepeat : Cond.code yX5_longestRepeat cX5_longestRepeat 4 (some .int) ∈ WW := in3 140 (by decide +kernel) rfl
theorem kk_X8_162 : Cond.classLink RX8 162 "java/lang/IllegalArgumentException" ∈ WW := in3 141 (by decide +kernel) rfl
theorem kl_L_171 : Cond.methodLink RL 171 yL_letter ∈ WW := in3 157 (by decide +kernel) rfl
theorem ks_L_letter : Cond.static yL_letter ∈ WW := in3 158 (by decide +kernel) rfl
theorem kl_L_46 : Cond.methodLink RL 46 yX8_letter ∈ WW := in3 160 (by decide +kernel) rfl
theorem ki_X8_letter : Cond.instanceMethod yX8_letter ∈ WW := in3 161 (by decide +kernel) rfl
theorem kv_X8_letter : Cond.selects RX8 yX8_letter yX8_letter ∈ WW := in3 162 (by decide +kernel) rfl
theorem kc_X8_letter : Cond.code yX8_letter cX8_letter 3 (some .char) ∈ WW := in3 163 (by decide +kernel) rfl
theorem kl_X8_167 : Cond.methodLink RX8 167 yX8_checkPlace ∈ WW := in3 164 (by decide +kernel) rfl
theorem ki_X8_checkPlace : Cond.instanceMethod yX8_checkPlace ∈ WW := in3 166 (by decide +kernel) rfl
theorem kc_X8_checkPlace : Cond.code yX8_checkPlace cX8_checkPlace 3 none ∈ WW := in3 167 (by decide +kernel) rfl
theorem kl_X8_342 : Cond.methodLink RX8 342 yX0_hasPlace ∈ WW := in3 168 (by decide +kernel) rfl
theorem kl_X8_171 : Cond.methodLink RX8 171 yX0_letterAt ∈ WW := in3 170 (by decide +kernel) rfl
theorem kl_L_174 : Cond.methodLink RL 174 yL_ending ∈ WW := in3 171 (by decide +kernel) rfl
theorem ks_L_ending : Cond.static yL_ending ∈ WW := in3 172 (by decide +kernel) rfl
theorem kk_L_54 : Cond.classLink RL 54 "java/util/NoSuchElementException" ∈ WW := in3 174 (by decide +kernel) rfl
theorem kl_L_50 : Cond.methodLink RL 50 yX8_ending ∈ WW := in3 175 (by decide +kernel) rfl
theorem ki_X8_ending : Cond.instanceMethod yX8_ending ∈ WW := in3 176 (by decide +kernel) rfl
theorem kv_X8_ending : Cond.selects RX8 yX8_ending yX8_ending ∈ WW := in3 177 (by decide +kernel) rfl
theorem kc_X8_ending : Cond.code yX8_ending cX8_ending 3 (some .int) ∈ WW := in3 178 (by decide +kernel) rfl
theorem kl_X8_175 : Cond.methodLink RX8 175 yX8_checkRank ∈ WW := in3 179 (by decide +kernel) rfl
theorem ki_X8_checkRank : Cond.instanceMethod yX8_checkRank ∈ WW := in3 181 (by decide +kernel) rfl
theorem kc_X8_checkRank : Cond.code yX8_checkRank cX8_checkRank 2 none ∈ WW := in3 182 (by decide +kernel) rfl
theorem kl_X8_347 : Cond.methodLink RX8 347 yX3_hasRank ∈ WW := in3 183 (by decide +kernel) rfl
theorem kk_X8_187 : Cond.classLink RX8 187 "java/util/NoSuchElementException" ∈ WW := in3 184 (by decide +kernel) rfl
theorem kl_X8_178 : Cond.methodLink RX8 178 yX3_placeAt ∈ WW := in3 200 (by decide +kernel) rfl
theorem kl_X8_181 : Cond.methodLink RX8 181 yX3_lineAt ∈ WW := in3 201 (by decide +kernel) rfl
theorem kl_L_178 : Cond.methodLink RL 178 yL_rank ∈ WW := in3 202 (by decide +kernel) rfl
theorem ks_L_rank : Cond.static yL_rank ∈ WW := in3 203 (by decide +kernel) rfl
theorem kl_L_56 : Cond.methodLink RL 56 yX8_rank ∈ WW := in3 205 (by decide +kernel) rfl
theorem ki_X8_rank : Cond.instanceMethod yX8_rank ∈ WW := in3 206 (by decide +kernel) rfl
theorem kv_X8_rank : Cond.selects RX8 yX8_rank yX8_rank ∈ WW := in3 207 (by decide +kernel) rfl
theorem kc_X8_rank : Cond.code yX8_rank cX8_rank 3 (some .int) ∈ WW := in3 208 (by decide +kernel) rfl
theorem kl_L_181 : Cond.methodLink RL 181 yL_rankAgain ∈ WW := in3 209 (by decide +kernel) rfl
theorem ks_L_rankAgain : Cond.static yL_rankAgain ∈ WW := in3 210 (by decide +kernel) rfl
theorem kl_L_59 : Cond.methodLink RL 59 yX8_rankAgain ∈ WW := in3 212 (by decide +kernel) rfl
theorem ki_X8_rankAgain : Cond.instanceMethod yX8_rankAgain ∈ WW := in3 213 (by decide +kernel) rfl
theorem kv_X8_rankAgain : Cond.selects RX8 yX8_rankAgain yX8_rankAgain ∈ WW := in3 214 (by decide +kernel) rfl
theorem kc_X8_rankAgain : Cond.code yX8_rankAgain cX8_rankAgain 3 (some .int) ∈ WW := in3 215 (by decide +kernel) rfl
theorem kl_X8_184 : Cond.methodLink RX8 184 yX0_countEndingsBefore ∈ WW := in3 216 (by decide +kernel) rfl
theorem ki_X0_countEndingsBefore : Cond.instanceMethod yX0_countEndingsBefore ∈ WW := in3 217 (by decide +kernel) rfl
theorem kv_X0_countEndingsBefore : Cond.selects RX0 yX0_countEndingsBefore yX0_countEndingsBefore ∈ WW := in3 218 (by decide +kernel) rfl
theorem kc_X0_countEndingsBefore : Cond.code yX0_countEndingsBefore cX0_countEndingsBefore 6 (some .int) ∈ WW := in3 219 (by decide +kernel) rfl
theorem kl_X0_53 : Cond.methodLink RX0 53 yX0_comesBefore ∈ WW := in3 220 (by decide +kernel) rfl
theorem kl_L_184 : Cond.methodLink RL 184 yL_common ∈ WW := in3 221 (by decide +kernel) rfl
theorem ks_L_common : Cond.static yL_common ∈ WW := in3 222 (by decide +kernel) rfl
theorem kl_L_62 : Cond.methodLink RL 62 yX8_common ∈ WW := in3 224 (by decide +kernel) rfl
theorem ki_X8_common : Cond.instanceMethod yX8_common ∈ WW := in3 225 (by decide +kernel) rfl
theorem kv_X8_common : Cond.selects RX8 yX8_common yX8_common ∈ WW := in3 226 (by decide +kernel) rfl
theorem kc_X8_common : Cond.code yX8_common cX8_common 2 (some .int) ∈ WW := in3 227 (by decide +kernel) rfl
theorem kl_X8_192 : Cond.methodLink RX8 192 yX3_commonAt ∈ WW := in3 229 (by decide +kernel) rfl
theorem kl_L_187 : Cond.methodLink RL 187 yL_commonOf ∈ WW := in3 230 (by decide +kernel) rfl
theorem ks_L_commonOf : Cond.static yL_commonOf ∈ WW := in3 231 (by decide +kernel) rfl
theorem kl_L_65 : Cond.methodLink RL 65 yX8_commonOf ∈ WW := in3 233 (by decide +kernel) rfl
theorem ki_X8_commonOf : Cond.instanceMethod yX8_commonOf ∈ WW := in3 234 (by decide +kernel) rfl
theorem kv_X8_commonOf : Cond.selects RX8 yX8_commonOf yX8_commonOf ∈ WW := in3 235 (by decide +kernel) rfl
theorem kc_X8_commonOf : Cond.code yX8_commonOf cX8_commonOf 5 (some .int) ∈ WW := in3 236 (by decide +kernel) rfl
theorem kl_X8_195 : Cond.methodLink RX8 195 yX0_sameLetters ∈ WW := in3 237 (by decide +kernel) rfl
theorem kl_L_195 : Cond.methodLink RL 195 yL_longestRank ∈ WW := in3 238 (by decide +kernel) rfl
theorem ks_L_longestRank : Cond.static yL_longestRank ∈ WW := in3 239 (by decide +kernel) rfl
theorem kl_L_69 : Cond.methodLink RL 69 yX8_longestRank ∈ WW := in4 1 (by decide +kernel) rfl
theorem ki_X8_longestRank : Cond.instanceMethod yX8_longestRank ∈ WW := in4 2 (by decide +kernel) rfl
theorem kv_X8_longestRank : Cond.selects RX8 yX8_longestRank yX8_longestRank ∈ WW := in4 3 (by decide +kernel) rfl
theorem kc_X8_longestRank : Cond.code yX8_longestRank cX8_longestRank 1 (some .int) ∈ WW := in4 4 (by decide +kernel) rfl
theorem kl_X8_202 : Cond.methodLink RX8 202 yX8_checkRepeat ∈ WW := in4 5 (by decide +kernel) rfl
theorem ki_X8_checkRepeat : Cond.instanceMethod yX8_checkRepeat ∈ WW := in4 7 (by decide +kernel) rfl
theorem kc_X8_checkRepeat : Cond.code yX8_checkRepeat cX8_checkRepeat 1 none ∈ WW := in4 8 (by decide +kernel) rfl
theorem kl_X8_205 : Cond.methodLink RX8 205 yX3_firstLongestRank ∈ WW := in4 10 (by decide +kernel) rfl
theorem ki_X3_firstLongestRank : Cond.instanceMethod yX3_firstLongestRank ∈ WW := in4 11 (by decide +kernel) rfl
theorem kv_X3_firstLongestRank : Cond.selects RX3 yX3_firstLongestRank yX3_firstLongestRank ∈ WW := in4 12 (by decide +kernel) rfl
theorem kc_X3_firstLongestRank : Cond.code yX3_firstLongestRank cX3_firstLongestRank 3 (some .int) ∈ WW := in4 13 (by decide +kernel) rfl
theorem kl_X3_66 : Cond.methodLink RX3 66 yX3_longestCommon ∈ WW := in4 14 (by decide +kernel) rfl
theorem kl_L_210 : Cond.methodLink RL 210 yL_finds ∈ WW := in4 15 (by decide +kernel) rfl
theorem ks_L_finds : Cond.static yL_finds ∈ WW := in4 16 (by decide +kernel) rfl
theorem kl_L_72 : Cond.methodLink RL 72 yX8_finds ∈ WW := in4 18 (by decide +kernel) rfl
theorem ki_X8_finds : Cond.instanceMethod yX8_finds ∈ WW := in4 19 (by decide +kernel) rfl
theorem kv_X8_finds : Cond.selects RX8 yX8_finds yX8_finds ∈ WW := in4 20 (by decide +kernel) rfl
theorem kc_X8_finds : Cond.code yX8_finds cX8_finds 1 (some .int) ∈ WW := in4 21 (by decide +kernel) rfl
theorem kl_X8_218 : Cond.methodLink RX8 218 yX8_checkWord ∈ WW := in4 22 (by decide +kernel) rfl
theorem ki_X8_checkWord : Cond.instanceMethod yX8_checkWord ∈ WW := in4 24 (by decide +kernel) rfl
theorem kc_X8_checkWord : Cond.code yX8_checkWord cX8_checkWord 1 none ∈ WW := in4 25 (by decide +kernel) rfl
theorem kl_X8_354 : Cond.methodLink RX8 354 yX7_isWord ∈ WW := in4 26 (by decide +kernel) rfl
theorem kl_X8_221 : Cond.methodLink RX8 221 yX3_firstRankBehind ∈ WW := in4 28 (by decide +kernel) rfl
theorem ki_X3_firstRankBehind : Cond.instanceMethod yX3_firstRankBehind ∈ WW := in4 29 (by decide +kernel) rfl
theorem kv_X3_firstRankBehind : Cond.selects RX3 yX3_firstRankBehind yX3_firstRankBehind ∈ WW := in4 30 (by decide +kernel) rfl
theorem kc_X3_firstRankBehind : Cond.code yX3_firstRankBehind cX3_firstRankBehind 3 (some .int) ∈ WW := in4 31 (by decide +kernel) rfl
theorem kl_X3_72 : Cond.methodLink RX3 72 yX3_firstRankAbove ∈ WW := in4 32 (by decide +kernel) rfl
theorem ki_X3_firstRankAbove : Cond.instanceMethod yX3_firstRankAbove ∈ WW := in4 34 (by decide +kernel) rfl
theorem kc_X3_firstRankAbove : Cond.code yX3_firstRankAbove cX3_firstRankAbove 8 (some .int) ∈ WW := in4 35 (by decide +kernel) rfl
theorem kl_X3_76 : Cond.methodLink RX3 76 yX5_compareToWord ∈ WW := in4 36 (by decide +kernel) rfl
theorem ks_X5_compareToWord : Cond.static yX5_compareToWord ∈ WW := in4 37 (by decide +kernel) rfl
theorem kc_X5_compareToWord : Cond.code yX5_compareToWord cX5_compareToWord 6 (some .int) ∈ WW := in4 38 (by decide +kernel) rfl
theorem kl_X5_49 : Cond.methodLink RX5 49 yX7_length ∈ WW := in4 39 (by decide +kernel) rfl
theorem kl_X5_54 : Cond.methodLink RX5 54 yX0_letterAt ∈ WW := in4 40 (by decide +kernel) rfl
theorem kl_X5_58 : Cond.methodLink RX5 58 yX7_characterAt ∈ WW := in4 41 (by decide +kernel) rfl
theorem kl_X8_225 : Cond.methodLink RX8 225 yX3_firstRankNotBefore ∈ WW := in4 42 (by decide +kernel) rfl
theorem ki_X3_firstRankNotBefore : Cond.instanceMethod yX3_firstRankNotBefore ∈ WW := in4 43 (by decide +kernel) rfl
theorem kv_X3_firstRankNotBefore : Cond.selects RX3 yX3_firstRankNotBefore yX3_firstRankNotBefore ∈ WW := in4 44 (by decide +kernel) rfl
theorem kc_X3_firstRankNotBefore : Cond.code yX3_firstRankNotBefore cX3_firstRankNotBefore 3 (some .int) ∈ WW := in4 45 (by decide +kernel) rfl
theorem kl_L_213 : Cond.methodLink RL 213 yL_findsAgain ∈ WW := in4 46 (by decide +kernel) rfl
theorem ks_L_findsAgain : Cond.static yL_findsAgain ∈ WW := in4 47 (by decide +kernel) rfl
theorem kl_L_75 : Cond.methodLink RL 75 yX8_findsAgain ∈ WW := in4 49 (by decide +kernel) rfl
theorem ki_X8_findsAgain : Cond.instanceMethod yX8_findsAgain ∈ WW := in4 50 (by decide +kernel) rfl
theorem kv_X8_findsAgain : Cond.selects RX8 yX8_findsAgain yX8_findsAgain ∈ WW := in4 51 (by decide +kernel) rfl
theorem kc_X8_findsAgain : Cond.code yX8_findsAgain cX8_findsAgain 1 (some .int) ∈ WW := in4 52 (by decide +kernel) rfl
theorem kl_X8_228 : Cond.methodLink RX8 228 yX5_countWord ∈ WW := in4 53 (by decide +kernel) rfl
theorem ks_X5_countWord : Cond.static yX5_countWord ∈ WW := in4 54 (by decide +kernel) rfl
theorem kc_X5_countWord : Cond.code yX5_countWord cX5_countWord 5 (some .int) ∈ WW := in4 55 (by decide +kernel) rfl
theorem kl_X5_45 : Cond.methodLink RX5 45 yX5_compareToWord ∈ WW := in4 56 (by decide +kernel) rfl
theorem kl_L_216 : Cond.methodLink RL 216 yL_firstFind ∈ WW := in4 57 (by decide +kernel) rfl
theorem ks_L_firstFind : Cond.static yL_firstFind ∈ WW := in4 58 (by decide +kernel) rfl
theorem kl_L_78 : Cond.methodLink RL 78 yX8_firstFind ∈ WW := in4 60 (by decide +kernel) rfl
theorem ki_X8_firstFind : Cond.instanceMethod yX8_firstFind ∈ WW := in4 61 (by decide +kernel) rfl
theorem kv_X8_firstFind : Cond.selects RX8 yX8_firstFind yX8_firstFind ∈ WW := in4 62 (by decide +kernel) rfl
theorem kc_X8_firstFind : Cond.code yX8_firstFind cX8_firstFind 2 (some .int) ∈ WW := in4 63 (by decide +kernel) rfl
theorem kl_L_219 : Cond.methodLink RL 219 yL_isLine ∈ WW := in4 65 (by decide +kernel) rfl
theorem ks_L_isLine : Cond.static yL_isLine ∈ WW := in4 66 (by decide +kernel) rfl
theorem kl_L_81 : Cond.methodLink RL 81 yX8_isLine ∈ WW := in4 68 (by decide +kernel) rfl
theorem ki_X8_isLine : Cond.instanceMethod yX8_isLine ∈ WW := in4 69 (by decide +kernel) rfl
theorem kv_X8_isLine : Cond.selects RX8 yX8_isLine yX8_isLine ∈ WW := in4 70 (by decide +kernel) rfl
theorem kc_X8_isLine : Cond.code yX8_isLine cX8_isLine 1 (some .boolean) ∈ WW := in4 71 (by decide +kernel) rfl
theorem kl_X8_233 : Cond.methodLink RX8 233 yX5_isWordALine ∈ WW := in4 72 (by decide +kernel) rfl
theorem ks_X5_isWordALine : Cond.static yX5_isWordALine ∈ WW := in4 73 (by decide +kernel) rfl
theorem kc_X5_isWordALine : Cond.code yX5_isWordALine cX5_isWordALine 3 (some .boolean) ∈ WW := in4 74 (by decide +kernel) rfl
theorem kl_L_222 : Cond.methodLink RL 222 yL_shared ∈ WW := in4 75 (by decide +kernel) rfl
theorem ks_L_shared : Cond.static yL_shared ∈ WW := in4 76 (by decide +kernel) rfl
theorem kl_L_85 : Cond.methodLink RL 85 yX8_shared ∈ WW := in4 78 (by decide +kernel) rfl
theorem ki_X8_shared : Cond.instanceMethod yX8_shared ∈ WW := in4 79 (by decide +kernel) rfl
theorem kv_X8_shared : Cond.selects RX8 yX8_shared yX8_shared ∈ WW := in4 80 (by decide +kernel) rfl
theorem kc_X8_shared : Cond.code yX8_shared cX8_shared 3 (some .int) ∈ WW := in4 81 (by decide +kernel) rfl
theorem kl_X8_237 : Cond.methodLink RX8 237 yX5_longestShared ∈ WW := in4 82 (by decide +kernel) rfl
theorem ks_X5_longestShared : Cond.static yX5_longestShared ∈ WW := in4 83 (by decide +kernel) rfl
theorem kc_X5_longestShared : Cond.code yX5_longestShared cX5_longestShared 5 (some .int) ∈ WW := in4 84 (by decide +kernel) rfl
theorem kl_L_225 : Cond.methodLink RL 225 yL_alone ∈ WW := in4 85 (by decide +kernel) rfl
theorem ks_L_alone : Cond.static yL_alone ∈ WW := in4 86 (by decide +kernel) rfl
theorem kl_L_88 : Cond.methodLink RL 88 yX8_alone ∈ WW := in4 88 (by decide +kernel) rfl
theorem ki_X8_alone : Cond.instanceMethod yX8_alone ∈ WW := in4 89 (by decide +kernel) rfl
theorem kv_X8_alone : Cond.selects RX8 yX8_alone yX8_alone ∈ WW := in4 90 (by decide +kernel) rfl
theorem kc_X8_alone : Cond.code yX8_alone cX8_alone 3 (some .int) ∈ WW := in4 91 (by decide +kernel) rfl
theorem kl_X8_241 : Cond.methodLink RX8 241 yX5_shortestAlone ∈ WW := in4 92 (by decide +kernel) rfl
theorem ks_X5_shortestAlone : Cond.static yX5_shortestAlone ∈ WW := in4 93 (by decide +kernel) rfl
theorem kc_X5_shortestAlone : Cond.code yX5_shortestAlone cX5_shortestAlone 4 (some .int) ∈ WW := in4 94 (by decide +kernel) rfl
theorem kl_X5_27 : Cond.methodLink RX5 27 yX5_shortestAloneAt ∈ WW := in4 95 (by decide +kernel) rfl
theorem ks_X5_shortestAloneAt : Cond.static yX5_shortestAloneAt ∈ WW := in4 96 (by decide +kernel) rfl
theorem kc_X5_shortestAloneAt : Cond.code yX5_shortestAloneAt cX5_shortestAloneAt 5 (some .int) ∈ WW := in4 97 (by decide +kernel) rfl
theorem kl_X5_31 : Cond.methodLink RX5 31 yJ9_min_7cf53 ∈ WW := in4 98 (by decide +kernel) rfl
theorem ks_J9_min_7cf53 : Cond.static yJ9_min_7cf53 ∈ WW := in4 99 (by decide +kernel) rfl
theorem kc_J9_min_7cf53 : Cond.code yJ9_min_7cf53 cJ9_min_7cf53 2 (some .int) ∈ WW := in4 100 (by decide +kernel) rfl
theorem kl_X8_244 : Cond.methodLink RX8 244 yX8_checkAlone ∈ WW := in4 101 (by decide +kernel) rfl
theorem ki_X8_checkAlone : Cond.instanceMethod yX8_checkAlone ∈ WW := in4 103 (by decide +kernel) rfl
theorem kc_X8_checkAlone : Cond.code yX8_checkAlone cX8_checkAlone 2 none ∈ WW := in4 104 (by decide +kernel) rfl
theorem kl_L_228 : Cond.methodLink RL 228 yL_alonePlace ∈ WW := in4 106 (by decide +kernel) rfl
theorem ks_L_alonePlace : Cond.static yL_alonePlace ∈ WW := in4 107 (by decide +kernel) rfl
theorem kl_L_91 : Cond.methodLink RL 91 yX8_alonePlace ∈ WW := in4 109 (by decide +kernel) rfl
theorem ki_X8_alonePlace : Cond.instanceMethod yX8_alonePlace ∈ WW := in4 110 (by decide +kernel) rfl
theorem kv_X8_alonePlace : Cond.selects RX8 yX8_alonePlace yX8_alonePlace ∈ WW := in4 111 (by decide +kernel) rfl
theorem kc_X8_alonePlace : Cond.code yX8_alonePlace cX8_alonePlace 3 (some .int) ∈ WW := in4 112 (by decide +kernel) rfl
theorem kl_X8_247 : Cond.methodLink RX8 247 yX5_firstAlonePlace ∈ WW := in4 113 (by decide +kernel) rfl
theorem ks_X5_firstAlonePlace : Cond.static yX5_firstAlonePlace ∈ WW := in4 114 (by decide +kernel) rfl
theorem kc_X5_firstAlonePlace : Cond.code yX5_firstAlonePlace cX5_firstAlonePlace 4 (some .int) ∈ WW := in4 115 (by decide +kernel) rfl
theorem kl_L_231 : Cond.methodLink RL 231 yL_isTurned ∈ WW := in4 116 (by decide +kernel) rfl
theorem ks_L_isTurned : Cond.static yL_isTurned ∈ WW := in4 117 (by decide +kernel) rfl
theorem kl_L_94 : Cond.methodLink RL 94 yX8_isTurned ∈ WW := in4 119 (by decide +kernel) rfl
theorem ki_X8_isTurned : Cond.instanceMethod yX8_isTurned ∈ WW := in4 120 (by decide +kernel) rfl
theorem kv_X8_isTurned : Cond.selects RX8 yX8_isTurned yX8_isTurned ∈ WW := in4 121 (by decide +kernel) rfl
theorem kc_X8_isTurned : Cond.code yX8_isTurned cX8_isTurned 3 (some .boolean) ∈ WW := in4 122 (by decide +kernel) rfl
theorem kl_X8_250 : Cond.methodLink RX8 250 yX0_isReverse ∈ WW := in4 123 (by decide +kernel) rfl
theorem kl_L_234 : Cond.methodLink RL 234 yL_commands ∈ WW := in4 124 (by decide +kernel) rfl
theorem ks_L_commands : Cond.static yL_commands ∈ WW := in4 125 (by decide +kernel) rfl
theorem kl_L_98 : Cond.methodLink RL 98 yX8_commands ∈ WW := in4 127 (by decide +kernel) rfl
theorem ki_X8_commands : Cond.instanceMethod yX8_commands ∈ WW := in4 128 (by decide +kernel) rfl
theorem kv_X8_commands : Cond.selects RX8 yX8_commands yX8_commands ∈ WW := in4 129 (by decide +kernel) rfl
theorem kc_X8_commands : Cond.code yX8_commands cX8_commands 2 (some .int) ∈ WW := in4 130 (by decide +kernel) rfl
theorem kl_X8_254 : Cond.methodLink RX8 254 yX2_read ∈ WW := in4 131 (by decide +kernel) rfl
theorem ki_X2_read : Cond.instanceMethod yX2_read ∈ WW := in4 132 (by decide +kernel) rfl
theorem kv_X2_read : Cond.selects RX2 yX2_read yX2_read ∈ WW := in4 133 (by decide +kernel) rfl
theorem kc_X2_read : Cond.code yX2_read cX2_read 3 (some .int) ∈ WW := in4 134 (by decide +kernel) rfl
theorem kl_X2_28 : Cond.methodLink RX2 28 yX2_startCommand ∈ WW := in4 135 (by decide +kernel) rfl
theorem ki_X2_startCommand : Cond.instanceMethod yX2_startCommand ∈ WW := in4 137 (by decide +kernel) rfl
theorem kc_X2_startCommand : Cond.code yX2_startCommand cX2_startCommand 2 none ∈ WW := in4 138 (by decide +kernel) rfl
theorem kl_X2_32 : Cond.methodLink RX2 32 yX7_length ∈ WW := in4 139 (by decide +kernel) rfl
theorem kl_X2_38 : Cond.methodLink RX2 38 yX7_characterAt ∈ WW := in4 140 (by decide +kernel) rfl
theorem kl_X2_42 : Cond.methodLink RX2 42 yX2_takes ∈ WW := in4 141 (by decide +kernel) rfl
theorem ki_X2_takes : Cond.instanceMethod yX2_takes ∈ WW := in4 143 (by decide +kernel) rfl
theorem kc_X2_takes : Cond.code yX2_takes cX2_takes 3 (some .boolean) ∈ WW := in4 144 (by decide +kernel) rfl
theorem kl_X2_46 : Cond.methodLink RX2 46 yX2_isWhole ∈ WW := in4 145 (by decide +kernel) rfl
theorem ki_X2_isWhole : Cond.instanceMethod yX2_isWhole ∈ WW := in4 147 (by decide +kernel) rfl
theorem kc_X2_isWhole : Cond.code yX2_isWhole cX2_isWhole 1 (some .boolean) ∈ WW := in4 148 (by decide +kernel) rfl
theorem kl_X2_59 : Cond.methodLink RX2 59 yJ0_length_8abf5 ∈ WW := in4 149 (by decide +kernel) rfl
theorem ki_J0_length_8abf5 : Cond.instanceMethod yJ0_length_8abf5 ∈ WW := in4 150 (by decide +kernel) rfl
theorem kv_J0_length_8abf5 : Cond.selects RJ0 yJ0_length_8abf5 yJ0_length_8abf5 ∈ WW := in4 151 (by decide +kernel) rfl
theorem kc_J0_length_8abf5 : Cond.code yJ0_length_8abf5 cJ0_length_8abf5 1 (some .int) ∈ WW := in4 152 (by decide +kernel) rfl
theorem kl_J0_335 : Cond.methodLink RJ0 335 yJ0_coder_7d493 ∈ WW := in4 153 (by decide +kernel) rfl
theorem ki_J0_coder_7d493 : Cond.instanceMethod yJ0_coder_7d493 ∈ WW := in4 154 (by decide +kernel) rfl
theorem kv_J0_coder_7d493 : Cond.selects RJ0 yJ0_coder_7d493 yJ0_coder_7d493 ∈ WW := in4 155 (by decide +kernel) rfl
theorem kc_J0_coder_7d493 : Cond.code yJ0_coder_7d493 cJ0_coder_7d493 1 (some .byte) ∈ WW := in4 156 (by decide +kernel) rfl
theorem kf_J0_38 : Cond.fieldLink RJ0 38 "java/lang/String" "COMPACT_STRINGS" "Z" ∈ WW := in4 157 (by decide +kernel) rfl
theorem kl_X2_60 : Cond.methodLink RX2 60 yJ0_charAt_5068e ∈ WW := in4 159 (by decide +kernel) rfl
theorem ki_J0_charAt_5068e : Cond.instanceMethod yJ0_charAt_5068e ∈ WW := in4 160 (by decide +kernel) rfl
theorem kv_J0_charAt_5068e : Cond.selects RJ0 yJ0_charAt_5068e yJ0_charAt_5068e ∈ WW := in4 161 (by decide +kernel) rfl
theorem kc_J0_charAt_5068e : Cond.code yJ0_charAt_5068e cJ0_charAt_5068e 2 (some .char) ∈ WW := in4 162 (by decide +kernel) rfl
theorem kl_J0_492 : Cond.methodLink RJ0 492 yJ0_isLatin1_aae02 ∈ WW := in4 163 (by decide +kernel) rfl
theorem ki_J0_isLatin1_aae02 : Cond.instanceMethod yJ0_isLatin1_aae02 ∈ WW := in4 164 (by decide +kernel) rfl
theorem kv_J0_isLatin1_aae02 : Cond.selects RJ0 yJ0_isLatin1_aae02 yJ0_isLatin1_aae02 ∈ WW := in4 165 (by decide +kernel) rfl
theorem kc_J0_isLatin1_aae02 : Cond.code yJ0_isLatin1_aae02 cJ0_isLatin1_aae02 1 (some .boolean) ∈ WW := in4 166 (by decide +kernel) rfl
theorem kl_J0_495 : Cond.methodLink RJ0 495 yJ1_charAt_3b067 ∈ WW := in4 167 (by decide +kernel) rfl
theorem ks_J1_charAt_3b067 : Cond.static yJ1_charAt_3b067 ∈ WW := in4 168 (by decide +kernel) rfl
theorem kc_J1_charAt_3b067 : Cond.code yJ1_charAt_3b067 cJ1_charAt_3b067 2 (some .char) ∈ WW := in4 169 (by decide +kernel) rfl
theorem kl_J1_9 : Cond.methodLink RJ1 9 yJ0_checkIndex_df160 ∈ WW := in4 170 (by decide +kernel) rfl
theorem ks_J0_checkIndex_df160 : Cond.static yJ0_checkIndex_df160 ∈ WW := in4 171 (by decide +kernel) rfl
theorem kc_J0_checkIndex_df160 : Cond.code yJ0_checkIndex_df160 cJ0_checkIndex_df160 2 none ∈ WW := in4 172 (by decide +kernel) rfl
theorem kf_J0_1053 : Cond.fieldLink RJ0 1053 "jdk/internal/util/Preconditions" "SIOOBE_FORMATTER" "Ljava/util/function/BiFunction;" ∈ WW := in4 173 (by decide +kernel) rfl
theorem kl_J0_1059 : Cond.methodLink RJ0 1059 yJ3_checkIndex_8e157 ∈ WW := in4 175 (by decide +kernel) rfl
theorem ks_J3_checkIndex_8e157 : Cond.static yJ3_checkIndex_8e157 ∈ WW := in4 176 (by decide +kernel) rfl
theorem kc_J3_checkIndex_8e157 : Cond.code yJ3_checkIndex_8e157 cJ3_checkIndex_8e157 3 (some .int) ∈ WW := in4 177 (by decide +kernel) rfl
theorem kl_J0_498 : Cond.methodLink RJ0 498 yJ2_charAt_3b067 ∈ WW := in4 178 (by decide +kernel) rfl
theorem ks_J2_charAt_3b067 : Cond.static yJ2_charAt_3b067 ∈ WW := in4 179 (by decide +kernel) rfl
theorem kc_J2_charAt_3b067 : Cond.code yJ2_charAt_3b067 cJ2_charAt_3b067 2 (some .char) ∈ WW := in4 180 (by decide +kernel) rfl
theorem kl_J2_67 : Cond.methodLink RJ2 67 yJ2_checkIndex_2214a ∈ WW := in4 181 (by decide +kernel) rfl
theorem ks_J2_checkIndex_2214a : Cond.static yJ2_checkIndex_2214a ∈ WW := in4 182 (by decide +kernel) rfl
theorem kc_J2_checkIndex_2214a : Cond.code yJ2_checkIndex_2214a cJ2_checkIndex_2214a 2 none ∈ WW := in4 183 (by decide +kernel) rfl
theorem kl_J2_48 : Cond.methodLink RJ2 48 yJ2_length_9d52b ∈ WW := in4 184 (by decide +kernel) rfl
theorem ks_J2_length_9d52b : Cond.static yJ2_length_9d52b ∈ WW := in4 185 (by decide +kernel) rfl
theorem kc_J2_length_9d52b : Cond.code yJ2_length_9d52b cJ2_length_9d52b 1 (some .int) ∈ WW := in4 186 (by decide +kernel) rfl
theorem kl_J2_414 : Cond.methodLink RJ2 414 yJ0_checkIndex_df160 ∈ WW := in4 187 (by decide +kernel) rfl
theorem kl_J2_71 : Cond.methodLink RJ2 71 yJ2_getChar_3b067 ∈ WW := in4 188 (by decide +kernel) rfl
theorem ks_J2_getChar_3b067 : Cond.static yJ2_getChar_3b067 ∈ WW := in4 189 (by decide +kernel) rfl
theorem kc_J2_getChar_3b067 : Cond.code yJ2_getChar_3b067 cJ2_getChar_3b067 2 (some .char) ∈ WW := in4 190 (by decide +kernel) rfl
theorem kf_J2_44 : Cond.fieldLink RJ2 44 "java/lang/StringUTF16" "$assertionsDisabled" "Z" ∈ WW := in4 191 (by decide +kernel) rfl
theorem kf_J2_59 : Cond.fieldLink RJ2 59 "java/lang/StringUTF16" "HI_BYTE_SHIFT" "I" ∈ WW := in4 193 (by decide +kernel) rfl
theorem kf_J2_63 : Cond.fieldLink RJ2 63 "java/lang/StringUTF16" "LO_BYTE_SHIFT" "I" ∈ WW := in4 195 (by decide +kernel) rfl
theorem kl_X2_50 : Cond.methodLink RX2 50 yX2_shapeOf ∈ WW := in4 197 (by decide +kernel) rfl
theorem ks_X2_shapeOf : Cond.static yX2_shapeOf ∈ WW := in4 198 (by decide +kernel) rfl
theorem kc_X2_shapeOf : Cond.code yX2_shapeOf cX2_shapeOf 1 (some (.object "java/lang/String")) ∈ WW := in4 199 (by decide +kernel) rfl
theorem kl_X2_54 : Cond.methodLink RX2 54 yJ0_isEmpty_aae02 ∈ WW := in4 204 (by decide +kernel) rfl
theorem ki_J0_isEmpty_aae02 : Cond.instanceMethod yJ0_isEmpty_aae02 ∈ WW := in4 205 (by decide +kernel) rfl
theorem kv_J0_isEmpty_aae02 : Cond.selects RJ0 yJ0_isEmpty_aae02 yJ0_isEmpty_aae02 ∈ WW := in4 206 (by decide +kernel) rfl
theorem kc_J0_isEmpty_aae02 : Cond.code yJ0_isEmpty_aae02 cJ0_isEmpty_aae02 1 (some .boolean) ∈ WW := in4 207 (by decide +kernel) rfl
theorem kl_X2_63 : Cond.methodLink RX2 63 yX2_fits ∈ WW := in4 208 (by decide +kernel) rfl
theorem ks_X2_fits : Cond.static yX2_fits ∈ WW := in4 209 (by decide +kernel) rfl
theorem kc_X2_fits : Cond.code yX2_fits cX2_fits 2 (some .boolean) ∈ WW := in4 210 (by decide +kernel) rfl
theorem kl_X8_258 : Cond.methodLink RX8 258 yX2_carryOut ∈ WW := in4 212 (by decide +kernel) rfl
theorem ki_X2_carryOut : Cond.instanceMethod yX2_carryOut ∈ WW := in4 213 (by decide +kernel) rfl
theorem kv_X2_carryOut : Cond.selects RX2 yX2_carryOut yX2_carryOut ∈ WW := in4 214 (by decide +kernel) rfl
theorem kc_X2_carryOut : Cond.code yX2_carryOut cX2_carryOut 5 (some .boolean) ∈ WW := in4 215 (by decide +kernel) rfl
theorem kl_X2_79 : Cond.methodLink RX2 79 yX2_carryOutOne ∈ WW := in4 216 (by decide +kernel) rfl
theorem ki_X2_carryOutOne : Cond.instanceMethod yX2_carryOutOne ∈ WW := in4 218 (by decide +kernel) rfl
theorem kc_X2_carryOutOne : Cond.code yX2_carryOutOne cX2_carryOutOne 8 (some .boolean) ∈ WW := in4 219 (by decide +kernel) rfl
theorem kl_X2_89 : Cond.methodLink RX2 89 yX7_digitAt ∈ WW := in4 220 (by decide +kernel) rfl
theorem ki_X7_digitAt : Cond.instanceMethod yX7_digitAt ∈ WW := in4 221 (by decide +kernel) rfl
theorem kv_X7_digitAt : Cond.selects RX7 yX7_digitAt yX7_digitAt ∈ WW := in4 222 (by decide +kernel) rfl
theorem kc_X7_digitAt : Cond.code yX7_digitAt cX7_digitAt 2 (some .int) ∈ WW := in4 223 (by decide +kernel) rfl
theorem kl_X7_23 : Cond.methodLink RX7 23 yX7_characterAt ∈ WW := in4 224 (by decide +kernel) rfl
theorem kl_X2_93 : Cond.methodLink RX2 93 yX2_endOf ∈ WW := in4 225 (by decide +kernel) rfl
theorem ki_X2_endOf : Cond.instanceMethod yX2_endOf ∈ WW := in4 227 (by decide +kernel) rfl
theorem kc_X2_endOf : Cond.code yX2_endOf cX2_endOf 3 (some .int) ∈ WW := in4 228 (by decide +kernel) rfl
theorem kl_X2_97 : Cond.methodLink RX2 97 yX1_addWord ∈ WW := in4 229 (by decide +kernel) rfl
theorem kl_X2_103 : Cond.methodLink RX2 103 yX1_cutLine ∈ WW := in4 230 (by decide +kernel) rfl
theorem kl_X2_107 : Cond.methodLink RX2 107 yX1_changeLetter ∈ WW := in4 231 (by decide +kernel) rfl
theorem kl_X2_111 : Cond.methodLink RX2 111 yX1_swapLines ∈ WW := in4 232 (by decide +kernel) rfl
theorem kl_X2_115 : Cond.methodLink RX2 115 yX1_joinLines ∈ WW := in4 233 (by decide +kernel) rfl
theorem kl_X2_118 : Cond.methodLink RX2 118 yX1_turnLine ∈ WW := in4 234 (by decide +kernel) rfl
theorem kl_X2_83 : Cond.methodLink RX2 83 yX6_keepOnTop ∈ WW := in4 235 (by decide +kernel) rfl
theorem ki_X6_keepOnTop : Cond.instanceMethod yX6_keepOnTop ∈ WW := in4 236 (by decide +kernel) rfl
theorem kv_X6_keepOnTop : Cond.selects RX6 yX6_keepOnTop yX6_keepOnTop ∈ WW := in4 237 (by decide +kernel) rfl
theorem kc_X6_keepOnTop : Cond.code yX6_keepOnTop cX6_keepOnTop 4 none ∈ WW := in4 238 (by decide +kernel) rfl
theorem kl_X6_22 : Cond.methodLink RX6 22 yJ9_min_7cf53 ∈ WW := in4 239 (by decide +kernel) rfl
theorem kl_X8_264 : Cond.methodLink RX8 264 yX2_commandCount ∈ WW := in5 1 (by decide +kernel) rfl
theorem ki_X2_commandCount : Cond.instanceMethod yX2_commandCount ∈ WW := in5 2 (by decide +kernel) rfl
theorem kv_X2_commandCount : Cond.selects RX2 yX2_commandCount yX2_commandCount ∈ WW := in5 3 (by decide +kernel) rfl
theorem kc_X2_commandCount : Cond.code yX2_commandCount cX2_commandCount 1 (some .int) ∈ WW := in5 4 (by decide +kernel) rfl
theorem kl_L_241 : Cond.methodLink RL 241 yL_reason ∈ WW := in5 5 (by decide +kernel) rfl
theorem ks_L_reason : Cond.static yL_reason ∈ WW := in5 6 (by decide +kernel) rfl
theorem kl_L_101 : Cond.methodLink RL 101 yX8_reason ∈ WW := in5 8 (by decide +kernel) rfl
theorem ki_X8_reason : Cond.instanceMethod yX8_reason ∈ WW := in5 9 (by decide +kernel) rfl
theorem kv_X8_reason : Cond.selects RX8 yX8_reason yX8_reason ∈ WW := in5 10 (by decide +kernel) rfl
theorem kc_X8_reason : Cond.code yX8_reason cX8_reason 3 (some .int) ∈ WW := in5 11 (by decide +kernel) rfl
theorem kl_X8_269 : Cond.methodLink RX8 269 yX6_reasonCount ∈ WW := in5 13 (by decide +kernel) rfl
theorem ki_X6_reasonCount : Cond.instanceMethod yX6_reasonCount ∈ WW := in5 14 (by decide +kernel) rfl
theorem kv_X6_reasonCount : Cond.selects RX6 yX6_reasonCount yX6_reasonCount ∈ WW := in5 15 (by decide +kernel) rfl
theorem kc_X6_reasonCount : Cond.code yX6_reasonCount cX6_reasonCount 1 (some .int) ∈ WW := in5 16 (by decide +kernel) rfl
theorem kl_X8_274 : Cond.methodLink RX8 274 yX6_detailAt ∈ WW := in5 18 (by decide +kernel) rfl
theorem ki_X6_detailAt : Cond.instanceMethod yX6_detailAt ∈ WW := in5 19 (by decide +kernel) rfl
theorem kv_X6_detailAt : Cond.selects RX6 yX6_detailAt yX6_detailAt ∈ WW := in5 20 (by decide +kernel) rfl
theorem kc_X6_detailAt : Cond.code yX6_detailAt cX6_detailAt 2 (some .int) ∈ WW := in5 21 (by decide +kernel) rfl
theorem kl_X8_277 : Cond.methodLink RX8 277 yX6_reasonAt ∈ WW := in5 22 (by decide +kernel) rfl
theorem ki_X6_reasonAt : Cond.instanceMethod yX6_reasonAt ∈ WW := in5 23 (by decide +kernel) rfl
theorem kv_X6_reasonAt : Cond.selects RX6 yX6_reasonAt yX6_reasonAt ∈ WW := in5 24 (by decide +kernel) rfl
theorem kc_X6_reasonAt : Cond.code yX6_reasonAt cX6_reasonAt 2 (some .int) ∈ WW := in5 25 (by decide +kernel) rfl
theorem kl_L_244 : Cond.methodLink RL 244 yL_write ∈ WW := in5 26 (by decide +kernel) rfl
theorem ks_L_write : Cond.static yL_write ∈ WW := in5 27 (by decide +kernel) rfl
theorem kl_L_104 : Cond.methodLink RL 104 yX8_write ∈ WW := in5 29 (by decide +kernel) rfl
theorem ki_X8_write : Cond.instanceMethod yX8_write ∈ WW := in5 30 (by decide +kernel) rfl
theorem kv_X8_write : Cond.selects RX8 yX8_write yX8_write ∈ WW := in5 31 (by decide +kernel) rfl
theorem kc_X8_write : Cond.code yX8_write cX8_write 4 (some .int) ∈ WW := in5 32 (by decide +kernel) rfl
theorem kl_X8_280 : Cond.methodLink RX8 280 yX7_putDigit ∈ WW := in5 33 (by decide +kernel) rfl
theorem ki_X7_putDigit : Cond.instanceMethod yX7_putDigit ∈ WW := in5 34 (by decide +kernel) rfl
theorem kv_X7_putDigit : Cond.selects RX7 yX7_putDigit yX7_putDigit ∈ WW := in5 35 (by decide +kernel) rfl
theorem kc_X7_putDigit : Cond.code yX7_putDigit cX7_putDigit 2 none ∈ WW := in5 36 (by decide +kernel) rfl
theorem kl_X7_19 : Cond.methodLink RX7 19 yX7_put ∈ WW := in5 37 (by decide +kernel) rfl
theorem kl_X8_283 : Cond.methodLink RX8 283 yX7_putLetters ∈ WW := in5 38 (by decide +kernel) rfl
theorem ki_X7_putLetters : Cond.instanceMethod yX7_putLetters ∈ WW := in5 39 (by decide +kernel) rfl
theorem kv_X7_putLetters : Cond.selects RX7 yX7_putLetters yX7_putLetters ∈ WW := in5 40 (by decide +kernel) rfl
theorem kc_X7_putLetters : Cond.code yX7_putLetters cX7_putLetters 6 none ∈ WW := in5 41 (by decide +kernel) rfl
theorem kl_X7_27 : Cond.methodLink RX7 27 yX0_letterAt ∈ WW := in5 42 (by decide +kernel) rfl
theorem kl_L_247 : Cond.methodLink RL 247 yL_writeLongest ∈ WW := in5 43 (by decide +kernel) rfl
theorem ks_L_writeLongest : Cond.static yL_writeLongest ∈ WW := in5 44 (by decide +kernel) rfl
theorem kl_L_107 : Cond.methodLink RL 107 yX8_writeLongest ∈ WW := in5 46 (by decide +kernel) rfl
theorem ki_X8_writeLongest : Cond.instanceMethod yX8_writeLongest ∈ WW := in5 47 (by decide +kernel) rfl
theorem kv_X8_writeLongest : Cond.selects RX8 yX8_writeLongest yX8_writeLongest ∈ WW := in5 48 (by decide +kernel) rfl
theorem kc_X8_writeLongest : Cond.code yX8_writeLongest cX8_writeLongest 2 (some .int) ∈ WW := in5 49 (by decide +kernel) rfl
theorem kl_L_250 : Cond.methodLink RL 250 yL_character ∈ WW := in5 50 (by decide +kernel) rfl
theorem ks_L_character : Cond.static yL_character ∈ WW := in5 51 (by decide +kernel) rfl
theorem kl_L_110 : Cond.methodLink RL 110 yX8_character ∈ WW := in5 53 (by decide +kernel) rfl
theorem ki_X8_character : Cond.instanceMethod yX8_character ∈ WW := in5 54 (by decide +kernel) rfl
theorem kv_X8_character : Cond.selects RX8 yX8_character yX8_character ∈ WW := in5 55 (by decide +kernel) rfl
theorem kc_X8_character : Cond.code yX8_character cX8_character 2 (some .char) ∈ WW := in5 56 (by decide +kernel) rfl
theorem kl_X8_292 : Cond.methodLink RX8 292 yX7_characterAt ∈ WW := in5 58 (by decide +kernel) rfl
theorem kl_L_253 : Cond.methodLink RL 253 yL_meanLetters ∈ WW := in5 59 (by decide +kernel) rfl
theorem ks_L_meanLetters : Cond.static yL_meanLetters ∈ WW := in5 60 (by decide +kernel) rfl
theorem kk_L_118 : Cond.classLink RL 118 "java/lang/ArithmeticException" ∈ WW := in5 62 (by decide +kernel) rfl
theorem kl_L_114 : Cond.methodLink RL 114 yX8_meanLetters ∈ WW := in5 76 (by decide +kernel) rfl
theorem ki_X8_meanLetters : Cond.instanceMethod yX8_meanLetters ∈ WW := in5 77 (by decide +kernel) rfl
theorem kv_X8_meanLetters : Cond.selects RX8 yX8_meanLetters yX8_meanLetters ∈ WW := in5 78 (by decide +kernel) rfl
theorem kc_X8_meanLetters : Cond.code yX8_meanLetters cX8_meanLetters 1 (some .float) ∈ WW := in5 79 (by decide +kernel) rfl
theorem kl_X8_296 : Cond.methodLink RX8 296 yX8_checkNotEmpty ∈ WW := in5 80 (by decide +kernel) rfl
theorem ki_X8_checkNotEmpty : Cond.instanceMethod yX8_checkNotEmpty ∈ WW := in5 82 (by decide +kernel) rfl
theorem kc_X8_checkNotEmpty : Cond.code yX8_checkNotEmpty cX8_checkNotEmpty 1 none ∈ WW := in5 83 (by decide +kernel) rfl
theorem kl_X8_299 : Cond.methodLink RX8 299 yX3_endings ∈ WW := in5 84 (by decide +kernel) rfl
theorem ki_X3_endings : Cond.instanceMethod yX3_endings ∈ WW := in5 85 (by decide +kernel) rfl
theorem kv_X3_endings : Cond.selects RX3 yX3_endings yX3_endings ∈ WW := in5 86 (by decide +kernel) rfl
theorem kc_X3_endings : Cond.code yX3_endings cX3_endings 1 (some .int) ∈ WW := in5 87 (by decide +kernel) rfl
theorem kk_X8_359 : Cond.classLink RX8 359 "java/lang/ArithmeticException" ∈ WW := in5 88 (by decide +kernel) rfl
theorem kl_L_257 : Cond.methodLink RL 257 yL_repeatShare ∈ WW := in5 91 (by decide +kernel) rfl
theorem ks_L_repeatShare : Cond.static yL_repeatShare ∈ WW := in5 92 (by decide +kernel) rfl
theorem kl_L_120 : Cond.methodLink RL 120 yX8_repeatShare ∈ WW := in5 94 (by decide +kernel) rfl
theorem ki_X8_repeatShare : Cond.instanceMethod yX8_repeatShare ∈ WW := in5 95 (by decide +kernel) rfl
theorem kv_X8_repeatShare : Cond.selects RX8 yX8_repeatShare yX8_repeatShare ∈ WW := in5 96 (by decide +kernel) rfl
theorem kc_X8_repeatShare : Cond.code yX8_repeatShare cX8_repeatShare 1 (some .double) ∈ WW := in5 97 (by decide +kernel) rfl
theorem kl_X8_302 : Cond.methodLink RX8 302 yX3_countRepeats ∈ WW := in5 98 (by decide +kernel) rfl
theorem ki_X3_countRepeats : Cond.instanceMethod yX3_countRepeats ∈ WW := in5 99 (by decide +kernel) rfl
theorem kv_X3_countRepeats : Cond.selects RX3 yX3_countRepeats yX3_countRepeats ∈ WW := in5 100 (by decide +kernel) rfl
theorem kc_X3_countRepeats : Cond.code yX3_countRepeats cX3_countRepeats 3 (some .int) ∈ WW := in5 101 (by decide +kernel) rfl
theorem kl_L_260 : Cond.methodLink RL 260 yL_account ∈ WW := in5 102 (by decide +kernel) rfl
theorem ks_L_account : Cond.static yL_account ∈ WW := in5 103 (by decide +kernel) rfl
theorem kl_L_124 : Cond.methodLink RL 124 yX8_account ∈ WW := in5 105 (by decide +kernel) rfl
theorem ki_X8_account : Cond.instanceMethod yX8_account ∈ WW := in5 106 (by decide +kernel) rfl
theorem kv_X8_account : Cond.selects RX8 yX8_account yX8_account ∈ WW := in5 107 (by decide +kernel) rfl
theorem kc_X8_account : Cond.code yX8_account cX8_account 2 (some .int) ∈ WW := in5 108 (by decide +kernel) rfl
theorem kl_X8_305 : Cond.methodLink RX8 305 yX0_letterSet_ ∈ WW := in5 109 (by decide +kernel) rfl
theorem ki_X0_letterSet_ : Cond.instanceMethod yX0_letterSet_ ∈ WW := in5 110 (by decide +kernel) rfl
theorem kv_X0_letterSet_ : Cond.selects RX0 yX0_letterSet_ yX0_letterSet_ ∈ WW := in5 111 (by decide +kernel) rfl
theorem kc_X0_letterSet_ : Cond.code yX0_letterSet_ cX0_letterSet_ 3 (some .int) ∈ WW := in5 112 (by decide +kernel) rfl
theorem kl_X0_67 : Cond.methodLink RX0 67 yX0_letterSet ∈ WW := in5 113 (by decide +kernel) rfl
theorem kl_X8_307 : Cond.methodLink RX8 307 yX3_sumOfCommons ∈ WW := in5 114 (by decide +kernel) rfl
theorem ki_X3_sumOfCommons : Cond.instanceMethod yX3_sumOfCommons ∈ WW := in5 115 (by decide +kernel) rfl
theorem kv_X3_sumOfCommons : Cond.selects RX3 yX3_sumOfCommons yX3_sumOfCommons ∈ WW := in5 116 (by decide +kernel) rfl
theorem kc_X3_sumOfCommons : Cond.code yX3_sumOfCommons cX3_sumOfCommons 3 (some .int) ∈ WW := in5 117 (by decide +kernel) rfl
theorem kl_X8_310 : Cond.methodLink RX8 310 yX0_countReversible ∈ WW := in5 118 (by decide +kernel) rfl
theorem ki_X0_countReversible : Cond.instanceMethod yX0_countReversible ∈ WW := in5 119 (by decide +kernel) rfl
theorem kv_X0_countReversible : Cond.selects RX0 yX0_countReversible yX0_countReversible ∈ WW := in5 120 (by decide +kernel) rfl
theorem kc_X0_countReversible : Cond.code yX0_countReversible cX0_countReversible 3 (some .int) ∈ WW := in5 121 (by decide +kernel) rfl
theorem kl_X0_64 : Cond.methodLink RX0 64 yX0_isReverse ∈ WW := in5 122 (by decide +kernel) rfl
theorem kl_X8_313 : Cond.methodLink RX8 313 yX4_size ∈ WW := in5 123 (by decide +kernel) rfl
theorem ki_X4_size : Cond.instanceMethod yX4_size ∈ WW := in5 124 (by decide +kernel) rfl
theorem kv_X4_size : Cond.selects RX4 yX4_size yX4_size ∈ WW := in5 125 (by decide +kernel) rfl
theorem kc_X4_size : Cond.code yX4_size cX4_size 1 (some .int) ∈ WW := in5 126 (by decide +kernel) rfl
theorem kl_L_263 : Cond.methodLink RL 263 yL_undo ∈ WW := in5 128 (by decide +kernel) rfl
theorem ks_L_undo : Cond.static yL_undo ∈ WW := in5 129 (by decide +kernel) rfl
theorem kl_L_127 : Cond.methodLink RL 127 yX8_undo ∈ WW := in5 131 (by decide +kernel) rfl
theorem ki_X8_undo : Cond.instanceMethod yX8_undo ∈ WW := in5 132 (by decide +kernel) rfl
theorem kv_X8_undo : Cond.selects RX8 yX8_undo yX8_undo ∈ WW := in5 133 (by decide +kernel) rfl
theorem kc_X8_undo : Cond.code yX8_undo cX8_undo 1 (some .int) ∈ WW := in5 134 (by decide +kernel) rfl
theorem kl_X8_319 : Cond.methodLink RX8 319 yX4_takeLatest ∈ WW := in5 136 (by decide +kernel) rfl
theorem ki_X4_takeLatest : Cond.instanceMethod yX4_takeLatest ∈ WW := in5 137 (by decide +kernel) rfl
theorem kv_X4_takeLatest : Cond.selects RX4 yX4_takeLatest yX4_takeLatest ∈ WW := in5 138 (by decide +kernel) rfl
theorem kc_X4_takeLatest : Cond.code yX4_takeLatest cX4_takeLatest 2 none ∈ WW := in5 139 (by decide +kernel) rfl
theorem kl_L_270 : Cond.methodLink RL 270 yL_restore ∈ WW := in5 140 (by decide +kernel) rfl
theorem ks_L_restore : Cond.static yL_restore ∈ WW := in5 141 (by decide +kernel) rfl
theorem kl_L_130 : Cond.methodLink RL 130 yX8_restore ∈ WW := in5 143 (by decide +kernel) rfl
theorem ki_X8_restore : Cond.instanceMethod yX8_restore ∈ WW := in5 144 (by decide +kernel) rfl
theorem kv_X8_restore : Cond.selects RX8 yX8_restore yX8_restore ∈ WW := in5 145 (by decide +kernel) rfl
theorem kc_X8_restore : Cond.code yX8_restore cX8_restore 1 (some .int) ∈ WW := in5 146 (by decide +kernel) rfl
theorem kl_X8_327 : Cond.methodLink RX8 327 yX4_clear ∈ WW := in5 148 (by decide +kernel) rfl
theorem ki_X4_clear : Cond.instanceMethod yX4_clear ∈ WW := in5 149 (by decide +kernel) rfl
theorem kv_X4_clear : Cond.selects RX4 yX4_clear yX4_clear ∈ WW := in5 150 (by decide +kernel) rfl
theorem kc_X4_clear : Cond.code yX4_clear cX4_clear 1 none ∈ WW := in5 151 (by decide +kernel) rfl
theorem kk_L_134 : Cond.classLink RL 134 RX9 ∈ WW := in5 152 (by decide +kernel) rfl
theorem ka_X9 : Cond.instantiable RX9 19 ∈ WW := in5 153 (by decide +kernel) rfl
theorem kl_L_136 : Cond.methodLink RL 136 yX9_init ∈ WW := in5 154 (by decide +kernel) rfl
theorem ki_X9_init : Cond.instanceMethod yX9_init ∈ WW := in5 155 (by decide +kernel) rfl
theorem kc_X9_init : Cond.code yX9_init cX9_init 1 none ∈ WW := in5 156 (by decide +kernel) rfl
theorem kl_X9_1 : Cond.methodLink RX9 1 objectInit ∈ WW := in5 157 (by decide +kernel) rfl
theorem kf_X9_36 : Cond.fieldLink RX9 36 "HymnEndingsModel" "thrown" "I" ∈ WW := in5 158 (by decide +kernel) rfl
theorem kf_X9_9 : Cond.fieldLink RX9 9 "HymnEndingsModel" "all" "[I" ∈ WW := in5 159 (by decide +kernel) rfl
theorem kf_X9_43 : Cond.fieldLink RX9 43 "HymnEndingsModel" "changes" "I" ∈ WW := in5 160 (by decide +kernel) rfl
theorem kf_X9_238 : Cond.fieldLink RX9 238 "HymnEndingsModel" "isSaved" "Z" ∈ WW := in5 161 (by decide +kernel) rfl
theorem kf_X9_46 : Cond.fieldLink RX9 46 "HymnEndingsModel" "result" "I" ∈ WW := in5 162 (by decide +kernel) rfl
theorem kf_X9_13 : Cond.fieldLink RX9 13 "HymnEndingsModel" "reasons" "[I" ∈ WW := in5 163 (by decide +kernel) rfl
theorem kf_X9_16 : Cond.fieldLink RX9 16 "HymnEndingsModel" "text" "[C" ∈ WW := in5 164 (by decide +kernel) rfl
theorem kf_X9_69 : Cond.fieldLink RX9 69 "HymnEndingsModel" "texted" "I" ∈ WW := in5 165 (by decide +kernel) rfl
theorem kf_X9_20 : Cond.fieldLink RX9 20 "HymnEndingsModel" "word" "[I" ∈ WW := in5 166 (by decide +kernel) rfl
theorem kf_X9_72 : Cond.fieldLink RX9 72 "HymnEndingsModel" "wordSize" "I" ∈ WW := in5 167 (by decide +kernel) rfl
theorem kf_X9_23 : Cond.fieldLink RX9 23 "HymnEndingsModel" "order" "[I" ∈ WW := in5 168 (by decide +kernel) rfl
theorem kf_X9_141 : Cond.fieldLink RX9 141 "HymnEndingsModel" "orderMany" "I" ∈ WW := in5 169 (by decide +kernel) rfl
theorem kf_X9_196 : Cond.fieldLink RX9 196 "HymnEndingsModel" "here" "I" ∈ WW := in5 170 (by decide +kernel) rfl
theorem kf_X9_199 : Cond.fieldLink RX9 199 "HymnEndingsModel" "fault" "I" ∈ WW := in5 171 (by decide +kernel) rfl
theorem kf_X9_26 : Cond.fieldLink RX9 26 "HymnEndingsModel" "faultAt" "I" ∈ WW := in5 172 (by decide +kernel) rfl
theorem kf_X9_30 : Cond.fieldLink RX9 30 "HymnEndingsModel" "rows" "[I" ∈ WW := in5 173 (by decide +kernel) rfl
theorem kf_X9_205 : Cond.fieldLink RX9 205 "HymnEndingsModel" "commandMany" "I" ∈ WW := in5 174 (by decide +kernel) rfl
theorem kf_X9_33 : Cond.fieldLink RX9 33 "HymnEndingsModel" "written" "[C" ∈ WW := in5 175 (by decide +kernel) rfl
theorem kf_X9_226 : Cond.fieldLink RX9 226 "HymnEndingsModel" "writtenSize" "I" ∈ WW := in5 176 (by decide +kernel) rfl
theorem kl_L_143 : Cond.methodLink RL 143 yX9_thrown ∈ WW := in5 216 (by decide +kernel) rfl
theorem ki_X9_thrown : Cond.instanceMethod yX9_thrown ∈ WW := in5 217 (by decide +kernel) rfl
theorem kv_X9_thrown : Cond.selects RX9 yX9_thrown yX9_thrown ∈ WW := in5 218 (by decide +kernel) rfl
theorem kc_X9_thrown : Cond.code yX9_thrown cX9_thrown 1 (some .int) ∈ WW := in5 219 (by decide +kernel) rfl
theorem kl_L_243 : Cond.methodLink RL 243 yX9_reason ∈ WW := in5 220 (by decide +kernel) rfl
theorem ki_X9_reason : Cond.instanceMethod yX9_reason ∈ WW := in5 221 (by decide +kernel) rfl
theorem kv_X9_reason : Cond.selects RX9 yX9_reason yX9_reason ∈ WW := in5 222 (by decide +kernel) rfl
theorem kc_X9_reason : Cond.code yX9_reason cX9_reason 3 (some .int) ∈ WW := in5 223 (by decide +kernel) rfl
theorem kl_X9_49 : Cond.methodLink RX9 49 yX9_in ∈ WW := in5 224 (by decide +kernel) rfl
theorem ks_X9_in : Cond.static yX9_in ∈ WW := in5 225 (by decide +kernel) rfl
theorem kc_X9_in : Cond.code yX9_in cX9_in 3 (some .boolean) ∈ WW := in5 226 (by decide +kernel) rfl
theorem kl_L_142 : Cond.methodLink RL 142 yX9_append ∈ WW := in5 227 (by decide +kernel) rfl
theorem ki_X9_append : Cond.instanceMethod yX9_append ∈ WW := in5 228 (by decide +kernel) rfl
theorem kv_X9_append : Cond.selects RX9 yX9_append yX9_append ∈ WW := in5 229 (by decide +kernel) rfl
theorem kc_X9_append : Cond.code yX9_append cX9_append 2 (some .int) ∈ WW := in5 230 (by decide +kernel) rfl
theorem kl_L_149 : Cond.methodLink RL 149 yX9_add ∈ WW := in5 231 (by decide +kernel) rfl
theorem ki_X9_add : Cond.instanceMethod yX9_add ∈ WW := in5 232 (by decide +kernel) rfl
theorem kv_X9_add : Cond.selects RX9 yX9_add yX9_add ∈ WW := in5 233 (by decide +kernel) rfl
theorem kc_X9_add : Cond.code yX9_add cX9_add 3 (some .int) ∈ WW := in5 234 (by decide +kernel) rfl
theorem kl_X9_79 : Cond.methodLink RX9 79 yX9_holdsWord ∈ WW := in5 235 (by decide +kernel) rfl
theorem ki_X9_holdsWord : Cond.instanceMethod yX9_holdsWord ∈ WW := in5 237 (by decide +kernel) rfl
theorem kc_X9_holdsWord : Cond.code yX9_holdsWord cX9_holdsWord 2 (some .boolean) ∈ WW := in5 238 (by decide +kernel) rfl
theorem kl_X9_83 : Cond.methodLink RX9 83 yX9_begins ∈ WW := in5 239 (by decide +kernel) rfl
theorem ki_X9_begins : Cond.instanceMethod yX9_begins ∈ WW := in6 1 (by decide +kernel) rfl
theorem kc_X9_begins : Cond.code yX9_begins cX9_begins 1 none ∈ WW := in6 2 (by decide +kernel) rfl
theorem kl_X9_39 : Cond.methodLink RX9 39 yX9_copies ∈ WW := in6 3 (by decide +kernel) rfl
theorem ki_X9_copies : Cond.instanceMethod yX9_copies ∈ WW := in6 5 (by decide +kernel) rfl
theorem kc_X9_copies : Cond.code yX9_copies cX9_copies 4 none ∈ WW := in6 6 (by decide +kernel) rfl
theorem kl_X9_65 : Cond.methodLink RX9 65 yX9_refuses ∈ WW := in6 7 (by decide +kernel) rfl
theorem ki_X9_refuses : Cond.instanceMethod yX9_refuses ∈ WW := in6 9 (by decide +kernel) rfl
theorem kc_X9_refuses : Cond.code yX9_refuses cX9_refuses 4 (some .boolean) ∈ WW := in6 10 (by decide +kernel) rfl
theorem kl_X9_86 : Cond.methodLink RX9 86 yX9_adds ∈ WW := in6 11 (by decide +kernel) rfl
theorem ki_X9_adds : Cond.instanceMethod yX9_adds ∈ WW := in6 13 (by decide +kernel) rfl
theorem kc_X9_adds : Cond.code yX9_adds cX9_adds 3 (some .boolean) ∈ WW := in6 14 (by decide +kernel) rfl
theorem kl_X9_53 : Cond.methodLink RX9 53 yX9_many ∈ WW := in6 15 (by decide +kernel) rfl
theorem ki_X9_many : Cond.instanceMethod yX9_many ∈ WW := in6 17 (by decide +kernel) rfl
theorem kc_X9_many : Cond.code yX9_many cX9_many 1 (some .int) ∈ WW := in6 18 (by decide +kernel) rfl
theorem kl_X9_75 : Cond.methodLink RX9 75 yX9_set ∈ WW := in6 19 (by decide +kernel) rfl
theorem ki_X9_set : Cond.instanceMethod yX9_set ∈ WW := in6 21 (by decide +kernel) rfl
theorem kc_X9_set : Cond.code yX9_set cX9_set 4 none ∈ WW := in6 22 (by decide +kernel) rfl
theorem kl_X9_89 : Cond.methodLink RX9 89 yX9_ends ∈ WW := in6 23 (by decide +kernel) rfl
theorem ki_X9_ends : Cond.instanceMethod yX9_ends ∈ WW := in6 25 (by decide +kernel) rfl
theorem kc_X9_ends : Cond.code yX9_ends cX9_ends 4 (some .int) ∈ WW := in6 26 (by decide +kernel) rfl
theorem kl_L_153 : Cond.methodLink RL 153 yX9_cut ∈ WW := in6 27 (by decide +kernel) rfl
theorem ki_X9_cut : Cond.instanceMethod yX9_cut ∈ WW := in6 28 (by decide +kernel) rfl
theorem kv_X9_cut : Cond.selects RX9 yX9_cut yX9_cut ∈ WW := in6 29 (by decide +kernel) rfl
theorem kc_X9_cut : Cond.code yX9_cut cX9_cut 2 (some .int) ∈ WW := in6 30 (by decide +kernel) rfl
theorem kl_X9_100 : Cond.methodLink RX9 100 yX9_cuts ∈ WW := in6 31 (by decide +kernel) rfl
theorem ki_X9_cuts : Cond.instanceMethod yX9_cuts ∈ WW := in6 33 (by decide +kernel) rfl
theorem kc_X9_cuts : Cond.code yX9_cuts cX9_cuts 2 (some .boolean) ∈ WW := in6 34 (by decide +kernel) rfl
theorem kl_X9_93 : Cond.methodLink RX9 93 yX9_isNoLine ∈ WW := in6 35 (by decide +kernel) rfl
theorem ki_X9_isNoLine : Cond.instanceMethod yX9_isNoLine ∈ WW := in6 37 (by decide +kernel) rfl
theorem kc_X9_isNoLine : Cond.code yX9_isNoLine cX9_isNoLine 2 (some .boolean) ∈ WW := in6 38 (by decide +kernel) rfl
theorem kl_X9_57 : Cond.methodLink RX9 57 yX9_isLineNumber ∈ WW := in6 39 (by decide +kernel) rfl
theorem ki_X9_isLineNumber : Cond.instanceMethod yX9_isLineNumber ∈ WW := in6 41 (by decide +kernel) rfl
theorem kc_X9_isLineNumber : Cond.code yX9_isLineNumber cX9_isLineNumber 2 (some .boolean) ∈ WW := in6 42 (by decide +kernel) rfl
theorem kl_X9_96 : Cond.methodLink RX9 96 yX9_goes ∈ WW := in6 43 (by decide +kernel) rfl
theorem ki_X9_goes : Cond.instanceMethod yX9_goes ∈ WW := in6 45 (by decide +kernel) rfl
theorem kc_X9_goes : Cond.code yX9_goes cX9_goes 3 none ∈ WW := in6 46 (by decide +kernel) rfl
theorem kl_L_157 : Cond.methodLink RL 157 yX9_change ∈ WW := in6 47 (by decide +kernel) rfl
theorem ki_X9_change : Cond.instanceMethod yX9_change ∈ WW := in6 48 (by decide +kernel) rfl
theorem kv_X9_change : Cond.selects RX9 yX9_change yX9_change ∈ WW := in6 49 (by decide +kernel) rfl
theorem kc_X9_change : Cond.code yX9_change cX9_change 4 (some .int) ∈ WW := in6 50 (by decide +kernel) rfl
theorem kl_X9_114 : Cond.methodLink RX9 114 yX9_sets ∈ WW := in6 51 (by decide +kernel) rfl
theorem ki_X9_sets : Cond.instanceMethod yX9_sets ∈ WW := in6 53 (by decide +kernel) rfl
theorem kc_X9_sets : Cond.code yX9_sets cX9_sets 4 (some .boolean) ∈ WW := in6 54 (by decide +kernel) rfl
theorem kl_X9_103 : Cond.methodLink RX9 103 yX9_isPlace ∈ WW := in6 55 (by decide +kernel) rfl
theorem ki_X9_isPlace : Cond.instanceMethod yX9_isPlace ∈ WW := in6 57 (by decide +kernel) rfl
theorem kc_X9_isPlace : Cond.code yX9_isPlace cX9_isPlace 3 (some .boolean) ∈ WW := in6 58 (by decide +kernel) rfl
theorem kl_X9_61 : Cond.methodLink RX9 61 yX9_size ∈ WW := in6 59 (by decide +kernel) rfl
theorem ki_X9_size : Cond.instanceMethod yX9_size ∈ WW := in6 61 (by decide +kernel) rfl
theorem kc_X9_size : Cond.code yX9_size cX9_size 2 (some .int) ∈ WW := in6 62 (by decide +kernel) rfl
theorem kl_X9_107 : Cond.methodLink RX9 107 yX9_at ∈ WW := in6 63 (by decide +kernel) rfl
theorem ki_X9_at : Cond.instanceMethod yX9_at ∈ WW := in6 65 (by decide +kernel) rfl
theorem kc_X9_at : Cond.code yX9_at cX9_at 3 (some .int) ∈ WW := in6 66 (by decide +kernel) rfl
theorem kl_X9_111 : Cond.methodLink RX9 111 yX9_rankOf ∈ WW := in6 67 (by decide +kernel) rfl
theorem ki_X9_rankOf : Cond.instanceMethod yX9_rankOf ∈ WW := in6 69 (by decide +kernel) rfl
theorem kc_X9_rankOf : Cond.code yX9_rankOf cX9_rankOf 4 (some .int) ∈ WW := in6 70 (by decide +kernel) rfl
theorem kl_X9_147 : Cond.methodLink RX9 147 yX9_orders ∈ WW := in6 71 (by decide +kernel) rfl
theorem ki_X9_orders : Cond.instanceMethod yX9_orders ∈ WW := in6 73 (by decide +kernel) rfl
theorem kc_X9_orders : Cond.code yX9_orders cX9_orders 5 none ∈ WW := in6 74 (by decide +kernel) rfl
theorem kl_X9_144 : Cond.methodLink RX9 144 yX9_isAhead ∈ WW := in6 75 (by decide +kernel) rfl
theorem ki_X9_isAhead : Cond.instanceMethod yX9_isAhead ∈ WW := in6 77 (by decide +kernel) rfl
theorem kc_X9_isAhead : Cond.code yX9_isAhead cX9_isAhead 4 (some .boolean) ∈ WW := in6 78 (by decide +kernel) rfl
theorem kl_X9_138 : Cond.methodLink RX9 138 yX9_front ∈ WW := in6 79 (by decide +kernel) rfl
theorem ki_X9_front : Cond.instanceMethod yX9_front ∈ WW := in6 81 (by decide +kernel) rfl
theorem kc_X9_front : Cond.code yX9_front cX9_front 4 (some .int) ∈ WW := in6 82 (by decide +kernel) rfl
theorem kl_X9_132 : Cond.methodLink RX9 132 yX9_left ∈ WW := in6 83 (by decide +kernel) rfl
theorem ki_X9_left : Cond.instanceMethod yX9_left ∈ WW := in6 85 (by decide +kernel) rfl
theorem kc_X9_left : Cond.code yX9_left cX9_left 2 (some .int) ∈ WW := in6 86 (by decide +kernel) rfl
theorem kl_X9_135 : Cond.methodLink RX9 135 yX9_letterOf ∈ WW := in6 87 (by decide +kernel) rfl
theorem ki_X9_letterOf : Cond.instanceMethod yX9_letterOf ∈ WW := in6 89 (by decide +kernel) rfl
theorem kc_X9_letterOf : Cond.code yX9_letterOf cX9_letterOf 3 (some .int) ∈ WW := in6 90 (by decide +kernel) rfl
theorem kl_L_161 : Cond.methodLink RL 161 yX9_swap ∈ WW := in6 91 (by decide +kernel) rfl
theorem ki_X9_swap : Cond.instanceMethod yX9_swap ∈ WW := in6 92 (by decide +kernel) rfl
theorem kv_X9_swap : Cond.selects RX9 yX9_swap yX9_swap ∈ WW := in6 93 (by decide +kernel) rfl
theorem kc_X9_swap : Cond.code yX9_swap cX9_swap 3 (some .int) ∈ WW := in6 94 (by decide +kernel) rfl
theorem kl_X9_120 : Cond.methodLink RX9 120 yX9_swaps ∈ WW := in6 95 (by decide +kernel) rfl
theorem ki_X9_swaps : Cond.instanceMethod yX9_swaps ∈ WW := in6 97 (by decide +kernel) rfl
theorem kc_X9_swaps : Cond.code yX9_swaps cX9_swaps 5 (some .boolean) ∈ WW := in6 98 (by decide +kernel) rfl
theorem kl_X9_117 : Cond.methodLink RX9 117 yX9_areOne ∈ WW := in6 99 (by decide +kernel) rfl
theorem ki_X9_areOne : Cond.instanceMethod yX9_areOne ∈ WW := in6 101 (by decide +kernel) rfl
theorem kc_X9_areOne : Cond.code yX9_areOne cX9_areOne 3 (some .boolean) ∈ WW := in6 102 (by decide +kernel) rfl
theorem kl_L_164 : Cond.methodLink RL 164 yX9_join ∈ WW := in6 103 (by decide +kernel) rfl
theorem ki_X9_join : Cond.instanceMethod yX9_join ∈ WW := in6 104 (by decide +kernel) rfl
theorem kv_X9_join : Cond.selects RX9 yX9_join yX9_join ∈ WW := in6 105 (by decide +kernel) rfl
theorem kc_X9_join : Cond.code yX9_join cX9_join 3 (some .int) ∈ WW := in6 106 (by decide +kernel) rfl
theorem kl_X9_123 : Cond.methodLink RX9 123 yX9_joins ∈ WW := in6 107 (by decide +kernel) rfl
theorem ki_X9_joins : Cond.instanceMethod yX9_joins ∈ WW := in6 109 (by decide +kernel) rfl
theorem kc_X9_joins : Cond.code yX9_joins cX9_joins 6 (some .boolean) ∈ WW := in6 110 (by decide +kernel) rfl
theorem kl_L_167 : Cond.methodLink RL 167 yX9_turn ∈ WW := in6 111 (by decide +kernel) rfl
theorem ki_X9_turn : Cond.instanceMethod yX9_turn ∈ WW := in6 112 (by decide +kernel) rfl
theorem kv_X9_turn : Cond.selects RX9 yX9_turn yX9_turn ∈ WW := in6 113 (by decide +kernel) rfl
theorem kc_X9_turn : Cond.code yX9_turn cX9_turn 2 (some .int) ∈ WW := in6 114 (by decide +kernel) rfl
theorem kl_X9_129 : Cond.methodLink RX9 129 yX9_turns ∈ WW := in6 115 (by decide +kernel) rfl
theorem ki_X9_turns : Cond.instanceMethod yX9_turns ∈ WW := in6 117 (by decide +kernel) rfl
theorem kc_X9_turns : Cond.code yX9_turns cX9_turns 5 (some .boolean) ∈ WW := in6 118 (by decide +kernel) rfl
theorem kl_X9_126 : Cond.methodLink RX9 126 yX9_isBack ∈ WW := in6 119 (by decide +kernel) rfl
theorem ki_X9_isBack : Cond.instanceMethod yX9_isBack ∈ WW := in6 121 (by decide +kernel) rfl
theorem kc_X9_isBack : Cond.code yX9_isBack cX9_isBack 5 (some .boolean) ∈ WW := in6 122 (by decide +kernel) rfl
theorem kl_L_170 : Cond.methodLink RL 170 yX9_lineOf ∈ WW := in6 123 (by decide +kernel) rfl
theorem ki_X9_lineOf : Cond.instanceMethod yX9_lineOf ∈ WW := in6 124 (by decide +kernel) rfl
theorem kv_X9_lineOf : Cond.selects RX9 yX9_lineOf yX9_lineOf ∈ WW := in6 125 (by decide +kernel) rfl
theorem kc_X9_lineOf : Cond.code yX9_lineOf cX9_lineOf 3 (some .int) ∈ WW := in6 126 (by decide +kernel) rfl
theorem kl_X9_153 : Cond.methodLink RX9 153 yX9_different ∈ WW := in6 127 (by decide +kernel) rfl
theorem ki_X9_different : Cond.instanceMethod yX9_different ∈ WW := in6 129 (by decide +kernel) rfl
theorem kc_X9_different : Cond.code yX9_different cX9_different 8 (some .int) ∈ WW := in6 130 (by decide +kernel) rfl
theorem kl_X9_156 : Cond.methodLink RX9 156 yX9_likes ∈ WW := in6 131 (by decide +kernel) rfl
theorem ki_X9_likes : Cond.instanceMethod yX9_likes ∈ WW := in6 133 (by decide +kernel) rfl
theorem kc_X9_likes : Cond.code yX9_likes cX9_likes 4 (some .int) ∈ WW := in6 134 (by decide +kernel) rfl
theorem kl_X9_150 : Cond.methodLink RX9 150 yX9_areAlike ∈ WW := in6 135 (by decide +kernel) rfl
theorem ki_X9_areAlike : Cond.instanceMethod yX9_areAlike ∈ WW := in6 137 (by decide +kernel) rfl
theorem kc_X9_areAlike : Cond.code yX9_areAlike cX9_areAlike 3 (some .boolean) ∈ WW := in6 138 (by decide +kernel) rfl
theorem kl_X9_159 : Cond.methodLink RX9 159 yX9_period ∈ WW := in6 139 (by decide +kernel) rfl
theorem ki_X9_period : Cond.instanceMethod yX9_period ∈ WW := in6 141 (by decide +kernel) rfl
theorem kc_X9_period : Cond.code yX9_period cX9_period 5 (some .int) ∈ WW := in6 142 (by decide +kernel) rfl
theorem kl_X9_162 : Cond.methodLink RX9 162 yX9_longestOf ∈ WW := in6 143 (by decide +kernel) rfl
theorem ki_X9_longestOf : Cond.instanceMethod yX9_longestOf ∈ WW := in6 145 (by decide +kernel) rfl
theorem kc_X9_longestOf : Cond.code yX9_longestOf cX9_longestOf 7 (some .int) ∈ WW := in6 146 (by decide +kernel) rfl
theorem kl_L_173 : Cond.methodLink RL 173 yX9_letter ∈ WW := in6 147 (by decide +kernel) rfl
theorem ki_X9_letter : Cond.instanceMethod yX9_letter ∈ WW := in6 148 (by decide +kernel) rfl
theorem kv_X9_letter : Cond.selects RX9 yX9_letter yX9_letter ∈ WW := in6 149 (by decide +kernel) rfl
theorem kc_X9_letter : Cond.code yX9_letter cX9_letter 3 (some .char) ∈ WW := in6 150 (by decide +kernel) rfl
theorem kl_L_177 : Cond.methodLink RL 177 yX9_ending ∈ WW := in6 151 (by decide +kernel) rfl
theorem ki_X9_ending : Cond.instanceMethod yX9_ending ∈ WW := in6 152 (by decide +kernel) rfl
theorem kv_X9_ending : Cond.selects RX9 yX9_ending yX9_ending ∈ WW := in6 153 (by decide +kernel) rfl
theorem kc_X9_ending : Cond.code yX9_ending cX9_ending 3 (some .int) ∈ WW := in6 154 (by decide +kernel) rfl
theorem kl_L_180 : Cond.methodLink RL 180 yX9_rank ∈ WW := in6 155 (by decide +kernel) rfl
theorem ki_X9_rank : Cond.instanceMethod yX9_rank ∈ WW := in6 156 (by decide +kernel) rfl
theorem kv_X9_rank : Cond.selects RX9 yX9_rank yX9_rank ∈ WW := in6 157 (by decide +kernel) rfl
theorem kc_X9_rank : Cond.code yX9_rank cX9_rank 3 (some .int) ∈ WW := in6 158 (by decide +kernel) rfl
theorem kl_L_183 : Cond.methodLink RL 183 yX9_rankAgain ∈ WW := in6 159 (by decide +kernel) rfl
theorem ki_X9_rankAgain : Cond.instanceMethod yX9_rankAgain ∈ WW := in6 160 (by decide +kernel) rfl
theorem kv_X9_rankAgain : Cond.selects RX9 yX9_rankAgain yX9_rankAgain ∈ WW := in6 161 (by decide +kernel) rfl
theorem kc_X9_rankAgain : Cond.code yX9_rankAgain cX9_rankAgain 3 (some .int) ∈ WW := in6 162 (by decide +kernel) rfl
theorem kl_X9_165 : Cond.methodLink RX9 165 yX9_rank ∈ WW := in6 163 (by decide +kernel) rfl
theorem kl_L_186 : Cond.methodLink RL 186 yX9_common ∈ WW := in6 164 (by decide +kernel) rfl
theorem ki_X9_common : Cond.instanceMethod yX9_common ∈ WW := in6 165 (by decide +kernel) rfl
theorem kv_X9_common : Cond.selects RX9 yX9_common yX9_common ∈ WW := in6 166 (by decide +kernel) rfl
theorem kc_X9_common : Cond.code yX9_common cX9_common 2 (some .int) ∈ WW := in6 167 (by decide +kernel) rfl
theorem kl_X9_168 : Cond.methodLink RX9 168 yX9_common1 ∈ WW := in6 168 (by decide +kernel) rfl
theorem ki_X9_common1 : Cond.instanceMethod yX9_common1 ∈ WW := in6 170 (by decide +kernel) rfl
theorem kc_X9_common1 : Cond.code yX9_common1 cX9_common1 2 (some .int) ∈ WW := in6 171 (by decide +kernel) rfl
theorem kl_L_190 : Cond.methodLink RL 190 yX9_commonOf ∈ WW := in6 172 (by decide +kernel) rfl
theorem ki_X9_commonOf : Cond.instanceMethod yX9_commonOf ∈ WW := in6 173 (by decide +kernel) rfl
theorem kv_X9_commonOf : Cond.selects RX9 yX9_commonOf yX9_commonOf ∈ WW := in6 174 (by decide +kernel) rfl
theorem kc_X9_commonOf : Cond.code yX9_commonOf cX9_commonOf 5 (some .int) ∈ WW := in6 175 (by decide +kernel) rfl
theorem kl_L_194 : Cond.methodLink RL 194 yX9_longest ∈ WW := in6 176 (by decide +kernel) rfl
theorem ki_X9_longest : Cond.instanceMethod yX9_longest ∈ WW := in6 177 (by decide +kernel) rfl
theorem kv_X9_longest : Cond.selects RX9 yX9_longest yX9_longest ∈ WW := in6 178 (by decide +kernel) rfl
theorem kc_X9_longest : Cond.code yX9_longest cX9_longest 1 (some .int) ∈ WW := in6 179 (by decide +kernel) rfl
theorem kl_X9_171 : Cond.methodLink RX9 171 yX9_commons ∈ WW := in6 180 (by decide +kernel) rfl
theorem ki_X9_commons : Cond.instanceMethod yX9_commons ∈ WW := in6 182 (by decide +kernel) rfl
theorem kc_X9_commons : Cond.code yX9_commons cX9_commons 8 (some .int) ∈ WW := in6 183 (by decide +kernel) rfl
theorem kl_L_197 : Cond.methodLink RL 197 yX9_longestRank ∈ WW := in6 184 (by decide +kernel) rfl
theorem ki_X9_longestRank : Cond.instanceMethod yX9_longestRank ∈ WW := in6 185 (by decide +kernel) rfl
theorem kv_X9_longestRank : Cond.selects RX9 yX9_longestRank yX9_longestRank ∈ WW := in6 186 (by decide +kernel) rfl
theorem kc_X9_longestRank : Cond.code yX9_longestRank cX9_longestRank 2 (some .int) ∈ WW := in6 187 (by decide +kernel) rfl
theorem kl_L_201 : Cond.methodLink RL 201 yX9_pieces ∈ WW := in6 188 (by decide +kernel) rfl
theorem ki_X9_pieces : Cond.instanceMethod yX9_pieces ∈ WW := in6 189 (by decide +kernel) rfl
theorem kv_X9_pieces : Cond.selects RX9 yX9_pieces yX9_pieces ∈ WW := in6 190 (by decide +kernel) rfl
theorem kc_X9_pieces : Cond.code yX9_pieces cX9_pieces 3 (some .int) ∈ WW := in6 191 (by decide +kernel) rfl
theorem kl_L_205 : Cond.methodLink RL 205 yX9_piecesAgain ∈ WW := in6 192 (by decide +kernel) rfl
theorem ki_X9_piecesAgain : Cond.instanceMethod yX9_piecesAgain ∈ WW := in6 193 (by decide +kernel) rfl
theorem kv_X9_piecesAgain : Cond.selects RX9 yX9_piecesAgain yX9_piecesAgain ∈ WW := in6 194 (by decide +kernel) rfl
theorem kc_X9_piecesAgain : Cond.code yX9_piecesAgain cX9_piecesAgain 1 (some .int) ∈ WW := in6 195 (by decide +kernel) rfl
theorem kl_X9_174 : Cond.methodLink RX9 174 yX9_pieces ∈ WW := in6 196 (by decide +kernel) rfl
theorem kl_L_209 : Cond.methodLink RL 209 yX9_kinds ∈ WW := in6 197 (by decide +kernel) rfl
theorem ki_X9_kinds : Cond.instanceMethod yX9_kinds ∈ WW := in6 198 (by decide +kernel) rfl
theorem kv_X9_kinds : Cond.selects RX9 yX9_kinds yX9_kinds ∈ WW := in6 199 (by decide +kernel) rfl
theorem kc_X9_kinds : Cond.code yX9_kinds cX9_kinds 4 (some .int) ∈ WW := in6 200 (by decide +kernel) rfl
theorem kl_L_212 : Cond.methodLink RL 212 yX9_finds ∈ WW := in6 201 (by decide +kernel) rfl
theorem ki_X9_finds : Cond.instanceMethod yX9_finds ∈ WW := in6 202 (by decide +kernel) rfl
theorem kv_X9_finds : Cond.selects RX9 yX9_finds yX9_finds ∈ WW := in6 203 (by decide +kernel) rfl
theorem kc_X9_finds : Cond.code yX9_finds cX9_finds 1 (some .int) ∈ WW := in6 204 (by decide +kernel) rfl
theorem kl_X9_180 : Cond.methodLink RX9 180 yX9_finds1 ∈ WW := in6 205 (by decide +kernel) rfl
theorem ki_X9_finds1 : Cond.instanceMethod yX9_finds1 ∈ WW := in6 207 (by decide +kernel) rfl
theorem kc_X9_finds1 : Cond.code yX9_finds1 cX9_finds1 3 (some .int) ∈ WW := in6 208 (by decide +kernel) rfl
theorem kl_X9_177 : Cond.methodLink RX9 177 yX9_beginsWith ∈ WW := in6 209 (by decide +kernel) rfl
theorem ki_X9_beginsWith : Cond.instanceMethod yX9_beginsWith ∈ WW := in6 211 (by decide +kernel) rfl
theorem kc_X9_beginsWith : Cond.code yX9_beginsWith cX9_beginsWith 3 (some .boolean) ∈ WW := in6 212 (by decide +kernel) rfl
theorem kl_L_215 : Cond.methodLink RL 215 yX9_findsAgain ∈ WW := in6 213 (by decide +kernel) rfl
theorem ki_X9_findsAgain : Cond.instanceMethod yX9_findsAgain ∈ WW := in6 214 (by decide +kernel) rfl
theorem kv_X9_findsAgain : Cond.selects RX9 yX9_findsAgain yX9_findsAgain ∈ WW := in6 215 (by decide +kernel) rfl
theorem kc_X9_findsAgain : Cond.code yX9_findsAgain cX9_findsAgain 1 (some .int) ∈ WW := in6 216 (by decide +kernel) rfl
theorem kl_X9_183 : Cond.methodLink RX9 183 yX9_finds ∈ WW := in6 217 (by decide +kernel) rfl
theorem kl_L_218 : Cond.methodLink RL 218 yX9_firstFind ∈ WW := in6 218 (by decide +kernel) rfl
theorem ki_X9_firstFind : Cond.instanceMethod yX9_firstFind ∈ WW := in6 219 (by decide +kernel) rfl
theorem kv_X9_firstFind : Cond.selects RX9 yX9_firstFind yX9_firstFind ∈ WW := in6 220 (by decide +kernel) rfl
theorem kc_X9_firstFind : Cond.code yX9_firstFind cX9_firstFind 2 (some .int) ∈ WW := in6 221 (by decide +kernel) rfl
theorem kl_L_221 : Cond.methodLink RL 221 yX9_isLine ∈ WW := in6 222 (by decide +kernel) rfl
theorem ki_X9_isLine : Cond.instanceMethod yX9_isLine ∈ WW := in6 223 (by decide +kernel) rfl
theorem kv_X9_isLine : Cond.selects RX9 yX9_isLine yX9_isLine ∈ WW := in6 224 (by decide +kernel) rfl
theorem kc_X9_isLine : Cond.code yX9_isLine cX9_isLine 2 (some .boolean) ∈ WW := in6 225 (by decide +kernel) rfl
theorem kl_L_224 : Cond.methodLink RL 224 yX9_shared ∈ WW := in6 226 (by decide +kernel) rfl
theorem ki_X9_shared : Cond.instanceMethod yX9_shared ∈ WW := in6 227 (by decide +kernel) rfl
theorem kv_X9_shared : Cond.selects RX9 yX9_shared yX9_shared ∈ WW := in6 228 (by decide +kernel) rfl
theorem kc_X9_shared : Cond.code yX9_shared cX9_shared 3 (some .int) ∈ WW := in6 229 (by decide +kernel) rfl
theorem kl_L_227 : Cond.methodLink RL 227 yX9_alone ∈ WW := in6 230 (by decide +kernel) rfl
theorem ki_X9_alone : Cond.instanceMethod yX9_alone ∈ WW := in6 231 (by decide +kernel) rfl
theorem kv_X9_alone : Cond.selects RX9 yX9_alone yX9_alone ∈ WW := in6 232 (by decide +kernel) rfl
theorem kc_X9_alone : Cond.code yX9_alone cX9_alone 2 (some .int) ∈ WW := in6 233 (by decide +kernel) rfl
theorem kl_X9_193 : Cond.methodLink RX9 193 yX9_aloneAsked ∈ WW := in6 234 (by decide +kernel) rfl
theorem ki_X9_aloneAsked : Cond.instanceMethod yX9_aloneAsked ∈ WW := in6 236 (by decide +kernel) rfl
theorem kc_X9_aloneAsked : Cond.code yX9_aloneAsked cX9_aloneAsked 3 (some .int) ∈ WW := in6 237 (by decide +kernel) rfl
theorem kl_X9_189 : Cond.methodLink RX9 189 yX9_aloneOf ∈ WW := in6 238 (by decide +kernel) rfl
theorem ki_X9_aloneOf : Cond.instanceMethod yX9_aloneOf ∈ WW := in7 0 (by decide +kernel) rfl
theorem kc_X9_aloneOf : Cond.code yX9_aloneOf cX9_aloneOf 7 (some .int) ∈ WW := in7 1 (by decide +kernel) rfl
theorem kl_X9_186 : Cond.methodLink RX9 186 yX9_aloneFrom ∈ WW := in7 2 (by decide +kernel) rfl
theorem ki_X9_aloneFrom : Cond.instanceMethod yX9_aloneFrom ∈ WW := in7 4 (by decide +kernel) rfl
theorem kc_X9_aloneFrom : Cond.code yX9_aloneFrom cX9_aloneFrom 7 (some .int) ∈ WW := in7 5 (by decide +kernel) rfl
theorem kl_L_230 : Cond.methodLink RL 230 yX9_alonePlace ∈ WW := in7 6 (by decide +kernel) rfl
theorem ki_X9_alonePlace : Cond.instanceMethod yX9_alonePlace ∈ WW := in7 7 (by decide +kernel) rfl
theorem kv_X9_alonePlace : Cond.selects RX9 yX9_alonePlace yX9_alonePlace ∈ WW := in7 8 (by decide +kernel) rfl
theorem kc_X9_alonePlace : Cond.code yX9_alonePlace cX9_alonePlace 2 (some .int) ∈ WW := in7 9 (by decide +kernel) rfl
theorem kl_L_233 : Cond.methodLink RL 233 yX9_isTurned ∈ WW := in7 10 (by decide +kernel) rfl
theorem ki_X9_isTurned : Cond.instanceMethod yX9_isTurned ∈ WW := in7 11 (by decide +kernel) rfl
theorem kv_X9_isTurned : Cond.selects RX9 yX9_isTurned yX9_isTurned ∈ WW := in7 12 (by decide +kernel) rfl
theorem kc_X9_isTurned : Cond.code yX9_isTurned cX9_isTurned 3 (some .boolean) ∈ WW := in7 13 (by decide +kernel) rfl
theorem kl_L_236 : Cond.methodLink RL 236 yX9_commands ∈ WW := in7 14 (by decide +kernel) rfl
theorem ki_X9_commands : Cond.instanceMethod yX9_commands ∈ WW := in7 15 (by decide +kernel) rfl
theorem kv_X9_commands : Cond.selects RX9 yX9_commands yX9_commands ∈ WW := in7 16 (by decide +kernel) rfl
theorem kc_X9_commands : Cond.code yX9_commands cX9_commands 3 (some .int) ∈ WW := in7 17 (by decide +kernel) rfl
theorem kl_X9_220 : Cond.methodLink RX9 220 yX9_parse ∈ WW := in7 18 (by decide +kernel) rfl
theorem ki_X9_parse : Cond.instanceMethod yX9_parse ∈ WW := in7 20 (by decide +kernel) rfl
theorem kc_X9_parse : Cond.code yX9_parse cX9_parse 1 none ∈ WW := in7 21 (by decide +kernel) rfl
theorem kl_X9_214 : Cond.methodLink RX9 214 yX9_command ∈ WW := in7 22 (by decide +kernel) rfl
theorem ki_X9_command : Cond.instanceMethod yX9_command ∈ WW := in7 24 (by decide +kernel) rfl
theorem kc_X9_command : Cond.code yX9_command cX9_command 4 none ∈ WW := in7 25 (by decide +kernel) rfl
theorem kl_X9_202 : Cond.methodLink RX9 202 yX9_sign ∈ WW := in7 26 (by decide +kernel) rfl
theorem ki_X9_sign : Cond.instanceMethod yX9_sign ∈ WW := in7 28 (by decide +kernel) rfl
theorem kc_X9_sign : Cond.code yX9_sign cX9_sign 1 (some .int) ∈ WW := in7 29 (by decide +kernel) rfl
theorem kl_X9_208 : Cond.methodLink RX9 208 yX9_letters ∈ WW := in7 30 (by decide +kernel) rfl
theorem ki_X9_letters : Cond.instanceMethod yX9_letters ∈ WW := in7 32 (by decide +kernel) rfl
theorem kc_X9_letters : Cond.code yX9_letters cX9_letters 3 (some .int) ∈ WW := in7 33 (by decide +kernel) rfl
theorem kl_X9_211 : Cond.methodLink RX9 211 yX9_digit ∈ WW := in7 34 (by decide +kernel) rfl
theorem ki_X9_digit : Cond.instanceMethod yX9_digit ∈ WW := in7 36 (by decide +kernel) rfl
theorem kc_X9_digit : Cond.code yX9_digit cX9_digit 1 (some .int) ∈ WW := in7 37 (by decide +kernel) rfl
theorem kl_X9_223 : Cond.methodLink RX9 223 yX9_does ∈ WW := in7 38 (by decide +kernel) rfl
theorem ki_X9_does : Cond.instanceMethod yX9_does ∈ WW := in7 40 (by decide +kernel) rfl
theorem kc_X9_does : Cond.code yX9_does cX9_does 4 (some .boolean) ∈ WW := in7 41 (by decide +kernel) rfl
theorem kl_X9_217 : Cond.methodLink RX9 217 yX9_addsFrom ∈ WW := in7 42 (by decide +kernel) rfl
theorem ki_X9_addsFrom : Cond.instanceMethod yX9_addsFrom ∈ WW := in7 44 (by decide +kernel) rfl
theorem kc_X9_addsFrom : Cond.code yX9_addsFrom cX9_addsFrom 4 (some .boolean) ∈ WW := in7 45 (by decide +kernel) rfl
theorem kl_L_240 : Cond.methodLink RL 240 yX9_faultPosition ∈ WW := in7 46 (by decide +kernel) rfl
theorem ki_X9_faultPosition : Cond.instanceMethod yX9_faultPosition ∈ WW := in7 47 (by decide +kernel) rfl
theorem kv_X9_faultPosition : Cond.selects RX9 yX9_faultPosition yX9_faultPosition ∈ WW := in7 48 (by decide +kernel) rfl
theorem kc_X9_faultPosition : Cond.code yX9_faultPosition cX9_faultPosition 1 (some .int) ∈ WW := in7 49 (by decide +kernel) rfl
theorem kl_L_246 : Cond.methodLink RL 246 yX9_write ∈ WW := in7 50 (by decide +kernel) rfl
theorem ki_X9_write : Cond.instanceMethod yX9_write ∈ WW := in7 51 (by decide +kernel) rfl
theorem kv_X9_write : Cond.selects RX9 yX9_write yX9_write ∈ WW := in7 52 (by decide +kernel) rfl
theorem kc_X9_write : Cond.code yX9_write cX9_write 3 (some .int) ∈ WW := in7 53 (by decide +kernel) rfl
theorem kl_X9_229 : Cond.methodLink RX9 229 yX9_writes ∈ WW := in7 54 (by decide +kernel) rfl
theorem ki_X9_writes : Cond.instanceMethod yX9_writes ∈ WW := in7 56 (by decide +kernel) rfl
theorem kc_X9_writes : Cond.code yX9_writes cX9_writes 2 none ∈ WW := in7 57 (by decide +kernel) rfl
theorem kl_L_249 : Cond.methodLink RL 249 yX9_writeLongest ∈ WW := in7 58 (by decide +kernel) rfl
theorem ki_X9_writeLongest : Cond.instanceMethod yX9_writeLongest ∈ WW := in7 59 (by decide +kernel) rfl
theorem kv_X9_writeLongest : Cond.selects RX9 yX9_writeLongest yX9_writeLongest ∈ WW := in7 60 (by decide +kernel) rfl
theorem kc_X9_writeLongest : Cond.code yX9_writeLongest cX9_writeLongest 4 (some .int) ∈ WW := in7 61 (by decide +kernel) rfl
theorem kl_L_252 : Cond.methodLink RL 252 yX9_character ∈ WW := in7 62 (by decide +kernel) rfl
theorem ki_X9_character : Cond.instanceMethod yX9_character ∈ WW := in7 63 (by decide +kernel) rfl
theorem kv_X9_character : Cond.selects RX9 yX9_character yX9_character ∈ WW := in7 64 (by decide +kernel) rfl
theorem kc_X9_character : Cond.code yX9_character cX9_character 2 (some .char) ∈ WW := in7 65 (by decide +kernel) rfl
theorem kl_L_256 : Cond.methodLink RL 256 yX9_meanLetters ∈ WW := in7 66 (by decide +kernel) rfl
theorem ki_X9_meanLetters : Cond.instanceMethod yX9_meanLetters ∈ WW := in7 67 (by decide +kernel) rfl
theorem kv_X9_meanLetters : Cond.selects RX9 yX9_meanLetters yX9_meanLetters ∈ WW := in7 68 (by decide +kernel) rfl
theorem kc_X9_meanLetters : Cond.code yX9_meanLetters cX9_meanLetters 1 (some .float) ∈ WW := in7 69 (by decide +kernel) rfl
theorem kl_X9_232 : Cond.methodLink RX9 232 yX9_letterMany ∈ WW := in7 70 (by decide +kernel) rfl
theorem ki_X9_letterMany : Cond.instanceMethod yX9_letterMany ∈ WW := in7 72 (by decide +kernel) rfl
theorem kc_X9_letterMany : Cond.code yX9_letterMany cX9_letterMany 3 (some .int) ∈ WW := in7 73 (by decide +kernel) rfl
theorem kl_L_259 : Cond.methodLink RL 259 yX9_repeatShare ∈ WW := in7 74 (by decide +kernel) rfl
theorem ki_X9_repeatShare : Cond.instanceMethod yX9_repeatShare ∈ WW := in7 75 (by decide +kernel) rfl
theorem kv_X9_repeatShare : Cond.selects RX9 yX9_repeatShare yX9_repeatShare ∈ WW := in7 76 (by decide +kernel) rfl
theorem kc_X9_repeatShare : Cond.code yX9_repeatShare cX9_repeatShare 1 (some .double) ∈ WW := in7 77 (by decide +kernel) rfl
theorem kl_L_262 : Cond.methodLink RL 262 yX9_account ∈ WW := in7 78 (by decide +kernel) rfl
theorem ki_X9_account : Cond.instanceMethod yX9_account ∈ WW := in7 79 (by decide +kernel) rfl
theorem kv_X9_account : Cond.selects RX9 yX9_account yX9_account ∈ WW := in7 80 (by decide +kernel) rfl
theorem kc_X9_account : Cond.code yX9_account cX9_account 2 (some .int) ∈ WW := in7 81 (by decide +kernel) rfl
theorem kl_X9_235 : Cond.methodLink RX9 235 yX9_palindromes ∈ WW := in7 82 (by decide +kernel) rfl
theorem ki_X9_palindromes : Cond.instanceMethod yX9_palindromes ∈ WW := in7 84 (by decide +kernel) rfl
theorem kc_X9_palindromes : Cond.code yX9_palindromes cX9_palindromes 3 (some .int) ∈ WW := in7 85 (by decide +kernel) rfl
theorem kl_L_265 : Cond.methodLink RL 265 yX9_undo ∈ WW := in7 86 (by decide +kernel) rfl
theorem ki_X9_undo : Cond.instanceMethod yX9_undo ∈ WW := in7 87 (by decide +kernel) rfl
theorem kv_X9_undo : Cond.selects RX9 yX9_undo yX9_undo ∈ WW := in7 88 (by decide +kernel) rfl
theorem kc_X9_undo : Cond.code yX9_undo cX9_undo 1 (some .int) ∈ WW := in7 89 (by decide +kernel) rfl
theorem kl_L_269 : Cond.methodLink RL 269 yX9_save ∈ WW := in7 90 (by decide +kernel) rfl
theorem ki_X9_save : Cond.instanceMethod yX9_save ∈ WW := in7 91 (by decide +kernel) rfl
theorem kv_X9_save : Cond.selects RX9 yX9_save yX9_save ∈ WW := in7 92 (by decide +kernel) rfl
theorem kc_X9_save : Cond.code yX9_save cX9_save 1 (some .int) ∈ WW := in7 93 (by decide +kernel) rfl
theorem kl_L_272 : Cond.methodLink RL 272 yX9_restore ∈ WW := in7 94 (by decide +kernel) rfl
theorem ki_X9_restore : Cond.instanceMethod yX9_restore ∈ WW := in7 95 (by decide +kernel) rfl
theorem kv_X9_restore : Cond.selects RX9 yX9_restore yX9_restore ∈ WW := in7 96 (by decide +kernel) rfl
theorem kc_X9_restore : Cond.code yX9_restore cX9_restore 1 (some .int) ∈ WW := in7 97 (by decide +kernel) rfl
theorem kr_long : Cond.arrayClass .long ∈ WW := in7 98 (by decide +kernel) rfl
theorem kr_double : Cond.arrayClass .double ∈ WW := in7 99 (by decide +kernel) rfl
theorem kf_J0_9 : Cond.fieldLink RJ0 9 "java/lang/String" "value" "[B" ∈ WW := in7 119 (by decide +kernel) rfl
theorem kf_J0_15 : Cond.fieldLink RJ0 15 "java/lang/String" "coder" "B" ∈ WW := in7 120 (by decide +kernel) rfl
theorem kv_X8_finishChange : Cond.selects RX8 yX8_finishChange yX8_finishChange ∈ WW := inP (List.mem_of_getElem? (i := 1) (by decide +kernel)) rfl
theorem kv_X3_rankToTake : Cond.selects RX3 yX3_rankToTake yX3_rankToTake ∈ WW := inP (List.mem_of_getElem? (i := 2) (by decide +kernel)) rfl
theorem kv_X3_insert : Cond.selects RX3 yX3_insert yX3_insert ∈ WW := inP (List.mem_of_getElem? (i := 3) (by decide +kernel)) rfl
theorem kv_X8_checkLine : Cond.selects RX8 yX8_checkLine yX8_checkLine ∈ WW := inP (List.mem_of_getElem? (i := 4) (by decide +kernel)) rfl
theorem kv_X8_checkPlace : Cond.selects RX8 yX8_checkPlace yX8_checkPlace ∈ WW := inP (List.mem_of_getElem? (i := 5) (by decide +kernel)) rfl
theorem kv_X8_checkRank : Cond.selects RX8 yX8_checkRank yX8_checkRank ∈ WW := inP (List.mem_of_getElem? (i := 6) (by decide +kernel)) rfl
theorem kv_X8_checkRepeat : Cond.selects RX8 yX8_checkRepeat yX8_checkRepeat ∈ WW := inP (List.mem_of_getElem? (i := 7) (by decide +kernel)) rfl
theorem kv_X8_checkWord : Cond.selects RX8 yX8_checkWord yX8_checkWord ∈ WW := inP (List.mem_of_getElem? (i := 8) (by decide +kernel)) rfl
theorem kv_X3_firstRankAbove : Cond.selects RX3 yX3_firstRankAbove yX3_firstRankAbove ∈ WW := inP (List.mem_of_getElem? (i := 9) (by decide +kernel)) rfl
theorem kv_X8_checkAlone : Cond.selects RX8 yX8_checkAlone yX8_checkAlone ∈ WW := inP (List.mem_of_getElem? (i := 10) (by decide +kernel)) rfl
theorem kv_X2_startCommand : Cond.selects RX2 yX2_startCommand yX2_startCommand ∈ WW := inP (List.mem_of_getElem? (i := 11) (by decide +kernel)) rfl
theorem kv_X2_takes : Cond.selects RX2 yX2_takes yX2_takes ∈ WW := inP (List.mem_of_getElem? (i := 12) (by decide +kernel)) rfl
theorem kv_X2_isWhole : Cond.selects RX2 yX2_isWhole yX2_isWhole ∈ WW := inP (List.mem_of_getElem? (i := 13) (by decide +kernel)) rfl
theorem kv_X2_carryOutOne : Cond.selects RX2 yX2_carryOutOne yX2_carryOutOne ∈ WW := inP (List.mem_of_getElem? (i := 14) (by decide +kernel)) rfl
theorem kv_X2_endOf : Cond.selects RX2 yX2_endOf yX2_endOf ∈ WW := inP (List.mem_of_getElem? (i := 15) (by decide +kernel)) rfl
theorem kv_X8_checkNotEmpty : Cond.selects RX8 yX8_checkNotEmpty yX8_checkNotEmpty ∈ WW := inP (List.mem_of_getElem? (i := 16) (by decide +kernel)) rfl
theorem kv_X9_holdsWord : Cond.selects RX9 yX9_holdsWord yX9_holdsWord ∈ WW := inP (List.mem_of_getElem? (i := 17) (by decide +kernel)) rfl
theorem kv_X9_begins : Cond.selects RX9 yX9_begins yX9_begins ∈ WW := inP (List.mem_of_getElem? (i := 18) (by decide +kernel)) rfl
theorem kv_X9_copies : Cond.selects RX9 yX9_copies yX9_copies ∈ WW := inP (List.mem_of_getElem? (i := 19) (by decide +kernel)) rfl
theorem kv_X9_refuses : Cond.selects RX9 yX9_refuses yX9_refuses ∈ WW := inP (List.mem_of_getElem? (i := 20) (by decide +kernel)) rfl
theorem kv_X9_adds : Cond.selects RX9 yX9_adds yX9_adds ∈ WW := inP (List.mem_of_getElem? (i := 21) (by decide +kernel)) rfl
theorem kv_X9_many : Cond.selects RX9 yX9_many yX9_many ∈ WW := inP (List.mem_of_getElem? (i := 22) (by decide +kernel)) rfl
theorem kv_X9_set : Cond.selects RX9 yX9_set yX9_set ∈ WW := inP (List.mem_of_getElem? (i := 23) (by decide +kernel)) rfl
theorem kv_X9_ends : Cond.selects RX9 yX9_ends yX9_ends ∈ WW := inP (List.mem_of_getElem? (i := 24) (by decide +kernel)) rfl
theorem kv_X9_cuts : Cond.selects RX9 yX9_cuts yX9_cuts ∈ WW := inP (List.mem_of_getElem? (i := 25) (by decide +kernel)) rfl
theorem kv_X9_isNoLine : Cond.selects RX9 yX9_isNoLine yX9_isNoLine ∈ WW := inP (List.mem_of_getElem? (i := 26) (by decide +kernel)) rfl
theorem kv_X9_isLineNumber : Cond.selects RX9 yX9_isLineNumber yX9_isLineNumber ∈ WW := inP (List.mem_of_getElem? (i := 27) (by decide +kernel)) rfl
theorem kv_X9_goes : Cond.selects RX9 yX9_goes yX9_goes ∈ WW := inP (List.mem_of_getElem? (i := 28) (by decide +kernel)) rfl
theorem kv_X9_sets : Cond.selects RX9 yX9_sets yX9_sets ∈ WW := inP (List.mem_of_getElem? (i := 29) (by decide +kernel)) rfl
theorem kv_X9_isPlace : Cond.selects RX9 yX9_isPlace yX9_isPlace ∈ WW := inP (List.mem_of_getElem? (i := 30) (by decide +kernel)) rfl
theorem kv_X9_size : Cond.selects RX9 yX9_size yX9_size ∈ WW := inP (List.mem_of_getElem? (i := 31) (by decide +kernel)) rfl
theorem kv_X9_at : Cond.selects RX9 yX9_at yX9_at ∈ WW := inP (List.mem_of_getElem? (i := 32) (by decide +kernel)) rfl
theorem kv_X9_rankOf : Cond.selects RX9 yX9_rankOf yX9_rankOf ∈ WW := inP (List.mem_of_getElem? (i := 33) (by decide +kernel)) rfl
theorem kv_X9_orders : Cond.selects RX9 yX9_orders yX9_orders ∈ WW := inP (List.mem_of_getElem? (i := 34) (by decide +kernel)) rfl
theorem kv_X9_isAhead : Cond.selects RX9 yX9_isAhead yX9_isAhead ∈ WW := inP (List.mem_of_getElem? (i := 35) (by decide +kernel)) rfl
theorem kv_X9_front : Cond.selects RX9 yX9_front yX9_front ∈ WW := inP (List.mem_of_getElem? (i := 36) (by decide +kernel)) rfl
theorem kv_X9_left : Cond.selects RX9 yX9_left yX9_left ∈ WW := inP (List.mem_of_getElem? (i := 37) (by decide +kernel)) rfl
theorem kv_X9_letterOf : Cond.selects RX9 yX9_letterOf yX9_letterOf ∈ WW := inP (List.mem_of_getElem? (i := 38) (by decide +kernel)) rfl
theorem kv_X9_swaps : Cond.selects RX9 yX9_swaps yX9_swaps ∈ WW := inP (List.mem_of_getElem? (i := 39) (by decide +kernel)) rfl
theorem kv_X9_areOne : Cond.selects RX9 yX9_areOne yX9_areOne ∈ WW := inP (List.mem_of_getElem? (i := 40) (by decide +kernel)) rfl
theorem kv_X9_joins : Cond.selects RX9 yX9_joins yX9_joins ∈ WW := inP (List.mem_of_getElem? (i := 41) (by decide +kernel)) rfl
theorem kv_X9_turns : Cond.selects RX9 yX9_turns yX9_turns ∈ WW := inP (List.mem_of_getElem? (i := 42) (by decide +kernel)) rfl
theorem kv_X9_isBack : Cond.selects RX9 yX9_isBack yX9_isBack ∈ WW := inP (List.mem_of_getElem? (i := 43) (by decide +kernel)) rfl
theorem kv_X9_different : Cond.selects RX9 yX9_different yX9_different ∈ WW := inP (List.mem_of_getElem? (i := 44) (by decide +kernel)) rfl
theorem kv_X9_likes : Cond.selects RX9 yX9_likes yX9_likes ∈ WW := inP (List.mem_of_getElem? (i := 45) (by decide +kernel)) rfl
theorem kv_X9_areAlike : Cond.selects RX9 yX9_areAlike yX9_areAlike ∈ WW := inP (List.mem_of_getElem? (i := 46) (by decide +kernel)) rfl
theorem kv_X9_period : Cond.selects RX9 yX9_period yX9_period ∈ WW := inP (List.mem_of_getElem? (i := 47) (by decide +kernel)) rfl
theorem kv_X9_longestOf : Cond.selects RX9 yX9_longestOf yX9_longestOf ∈ WW := inP (List.mem_of_getElem? (i := 48) (by decide +kernel)) rfl
theorem kv_X9_common1 : Cond.selects RX9 yX9_common1 yX9_common1 ∈ WW := inP (List.mem_of_getElem? (i := 49) (by decide +kernel)) rfl
theorem kv_X9_commons : Cond.selects RX9 yX9_commons yX9_commons ∈ WW := inP (List.mem_of_getElem? (i := 50) (by decide +kernel)) rfl
theorem kv_X9_finds1 : Cond.selects RX9 yX9_finds1 yX9_finds1 ∈ WW := inP (List.mem_of_getElem? (i := 51) (by decide +kernel)) rfl
theorem kv_X9_beginsWith : Cond.selects RX9 yX9_beginsWith yX9_beginsWith ∈ WW := inP (List.mem_of_getElem? (i := 52) (by decide +kernel)) rfl
theorem kv_X9_aloneAsked : Cond.selects RX9 yX9_aloneAsked yX9_aloneAsked ∈ WW := inP (List.mem_of_getElem? (i := 53) (by decide +kernel)) rfl
theorem kv_X9_aloneOf : Cond.selects RX9 yX9_aloneOf yX9_aloneOf ∈ WW := inP (List.mem_of_getElem? (i := 54) (by decide +kernel)) rfl
theorem kv_X9_aloneFrom : Cond.selects RX9 yX9_aloneFrom yX9_aloneFrom ∈ WW := inP (List.mem_of_getElem? (i := 55) (by decide +kernel)) rfl
theorem kv_X9_parse : Cond.selects RX9 yX9_parse yX9_parse ∈ WW := inP (List.mem_of_getElem? (i := 56) (by decide +kernel)) rfl
theorem kv_X9_command : Cond.selects RX9 yX9_command yX9_command ∈ WW := inP (List.mem_of_getElem? (i := 57) (by decide +kernel)) rfl
theorem kv_X9_sign : Cond.selects RX9 yX9_sign yX9_sign ∈ WW := inP (List.mem_of_getElem? (i := 58) (by decide +kernel)) rfl
theorem kv_X9_letters : Cond.selects RX9 yX9_letters yX9_letters ∈ WW := inP (List.mem_of_getElem? (i := 59) (by decide +kernel)) rfl
theorem kv_X9_digit : Cond.selects RX9 yX9_digit yX9_digit ∈ WW := inP (List.mem_of_getElem? (i := 60) (by decide +kernel)) rfl
theorem kv_X9_does : Cond.selects RX9 yX9_does yX9_does ∈ WW := inP (List.mem_of_getElem? (i := 61) (by decide +kernel)) rfl
theorem kv_X9_addsFrom : Cond.selects RX9 yX9_addsFrom yX9_addsFrom ∈ WW := inP (List.mem_of_getElem? (i := 62) (by decide +kernel)) rfl
theorem kv_X9_writes : Cond.selects RX9 yX9_writes yX9_writes ∈ WW := inP (List.mem_of_getElem? (i := 63) (by decide +kernel)) rfl
theorem kv_X9_letterMany : Cond.selects RX9 yX9_letterMany yX9_letterMany ∈ WW := inP (List.mem_of_getElem? (i := 64) (by decide +kernel)) rfl
theorem kv_X9_palindromes : Cond.selects RX9 yX9_palindromes yX9_palindromes ∈ WW := inP (List.mem_of_getElem? (i := 65) (by decide +kernel)) rfl
theorem iwX0 : ∀ w ∈ u_ws RX0 TX0 3, w ∈ WW := fun w h => List.mem_filter.mpr (by revert w; decide +kernel)
theorem iwX2 : ∀ w ∈ u_ws RX2 TX2 4, w ∈ WW := fun w h => List.mem_filter.mpr (by revert w; decide +kernel)
theorem iwX3 : ∀ w ∈ u_ws RX3 TX3 4, w ∈ WW := fun w h => List.mem_filter.mpr (by revert w; decide +kernel)
theorem iwX4 : ∀ w ∈ u_ws RX4 TX4 3, w ∈ WW := fun w h => List.mem_filter.mpr (by revert w; decide +kernel)
theorem iwX6 : ∀ w ∈ u_ws RX6 TX6 3, w ∈ WW := fun w h => List.mem_filter.mpr (by revert w; decide +kernel)
theorem iwX7 : ∀ w ∈ u_ws RX7 TX7 2, w ∈ WW := fun w h => List.mem_filter.mpr (by revert w; decide +kernel)
theorem iwX8 : ∀ w ∈ u_ws RX8 TX8 11, w ∈ WW := fun w h => List.mem_filter.mpr (by revert w; decide +kernel)
theorem iwX9 : ∀ w ∈ u_ws RX9 TX9 19, w ∈ WW := fun w h => List.mem_filter.mpr (by revert w; decide +kernel)
theorem good_c (y : MethodName) (b : ByteArray) (n : Nat) (ret : Option FieldType) (h : Cond.code y b n ret ∈ WW) : GoodIn WW (aW y b n ret) := fun w hw => by
  rcases List.mem_cons.mp hw with rfl | hw
  · exact ⟨h, good_of_word (WW_good _ h)⟩
  · exact ⟨hw, good_of_word (WW_good _ hw)⟩
theorem gdV {own C : String} {idx : Nat} {y : MethodName} {b : ByteArray} {n : Nat} {ret : Option FieldType} (h1 : Cond.methodLink own idx y ∈ WW) (h2 : Cond.instanceMethod y ∈ WW) (h3 : Cond.selects C y y ∈ WW) (h4 : Cond.initialized C ∈ WW) (h5 : Cond.code y b n ret ∈ WW) : GoodIn WW (wsV own idx C y (aW y b n ret)) := fun w hw => by
  rcases List.mem_append.mp hw with hw | hw
  · simp only [List.mem_cons, List.not_mem_nil, or_false] at hw
    rcases hw with rfl | rfl | rfl | rfl
    · exact ⟨h1, good_of_word (WW_good _ h1)⟩
    · exact ⟨h2, good_of_word (WW_good _ h2)⟩
    · exact ⟨h3, good_of_word (WW_good _ h3)⟩
    · exact ⟨h4, good_of_word (WW_good _ h4)⟩
  · exact good_c y b n ret h5 w hw
theorem gdS {own : String} {idx : Nat} {y : MethodName} {b : ByteArray} {n : Nat} {ret : Option FieldType} (h1 : Cond.methodLink own idx y ∈ WW) (h2 : Cond.static y ∈ WW) (h4 : Cond.initialized y.cls ∈ WW) (h5 : Cond.code y b n ret ∈ WW) : GoodIn WW (va_wsS own idx y (aW y b n ret)) := fun w hw => by
  rcases List.mem_append.mp hw with hw | hw
  · simp only [List.mem_cons, List.not_mem_nil, or_false] at hw
    rcases hw with rfl | rfl | rfl
    · exact ⟨h1, good_of_word (WW_good _ h1)⟩
    · exact ⟨h2, good_of_word (WW_good _ h2)⟩
    · exact ⟨h4, good_of_word (WW_good _ h4)⟩
  · exact good_c y b n ret h5 w hw
end
section
/-! ROWS OF A WALK: the kit's rows with heap, frame and tables out of sight. aT: at this place of the code, with these locals, this stack and this world of cells, the walk comes to Q; aC: what stays through a method; aKi, aKv: a method's contract, by a result 'res' whose answer is gv res and whose cells are gw res. A pure function stands beside each method: a row takes the hypothesis 'hF : <the function at this place> = some o' and hands on what is left of it. -/
def aE (U : State) : Prop := va_Nw (.methodLinkNest RX1 59 yX8_isSmallLetter RX8) U ∧ va_Nw (.methodLinkNest RX2 75 yX8_isSmallLetter RX8) U ∧ va_Nw (.methodLinkNest RX7 33 yX8_isSmallLetter RX8) U
def aU (D : va_G) (tys : List (ClassId × FieldType)) (U : State) : Prop := va_K D vwCl tys U ∧ aE U
theorem aU.warm {D : va_G} {tys : List (ClassId × FieldType)} {s U : State} (hW : s.WarmedH U.vm) (h : aU D tys s) : aU D tys U := ⟨va_K.moved hW.alike h.1, va_Nw.warmM hW h.2.1, va_Nw.warmM hW h.2.2.1, va_Nw.warmM hW h.2.2.2⟩
theorem aU.same {D : va_G} {tys : List (ClassId × FieldType)} {U : State} {g : JFrame} {mk : MethodId} {a : Array Value} (h : aU D tys U) : aU D tys (U.calling g mk a) := ⟨va_K.moved (u := U) (U := U.calling g mk a) (Vm.Alike.refl U.vm) h.1, va_Nw.same rfl rfl h.2.1, va_Nw.same rfl rfl h.2.2.1, va_Nw.same rfl rfl h.2.2.2⟩
def aPc (D : va_G) (tys : List (ClassId × FieldType)) (av : List Value) (w0 : va_W) (sz : Nat) : Array Value → State → Prop := va_Pc av (fun U => U.heap.size = sz ∧ va_P D vwCl w0 U.heap ∧ aU D tys U ∧ va_D (fun _ => True) w0)
theorem aPc_blind {D : va_G} {tys : List (ClassId × FieldType)} {av : List Value} {w0 : va_W} {sz : Nat} : FrameBlind (aPc D tys av w0 sz) := fun a U g mk q => by
  obtain ⟨q0, q1, qP, qU, qD⟩ := q
  exact ⟨q0, q1, qP, qU.same, qD⟩
def aB (D : va_G) (w0 w1 : va_W) (sz : Nat) (t : State) : Prop := va_P D vwCl w1 t.heap ∧ va_D (va_A w0 sz) w1
def aQi {ρ : Type} (D : va_G) (w0 : va_W) (sz : Nat) (gv : ρ → Int32) (gw : ρ → va_W) (res : ρ) : Array Value → State → Outcome → State → Prop := va_Qi (fun r (_ : Unit) => r = gv res) (fun _ t => aB D w0 (gw res) sz t) (va_A w0 sz)
def aQv {ρ : Type} (D : va_G) (w0 : va_W) (sz : Nat) (gw : ρ → va_W) (res : ρ) : Array Value → State → Outcome → State → Prop := va_Qv (fun (_ : Unit) => True) (fun _ t => aB D w0 (gw res) sz t) (va_A w0 sz)
def aKi {ρ : Type} (l : Launch) (y : MethodName) (wy : List Cond) (rm : Room) (D : va_G) (tys : List (ClassId × FieldType)) (av : List Value) (w0 : va_W) (gv : ρ → Int32) (gw : ρ → va_W) (res : ρ) : Prop := ∀ sz : Nat, Met l y wy rm (aPc D tys av w0 sz) (aQi D w0 sz gv gw res) 0 0 (va_A w0 sz)
def aKv {ρ : Type} (l : Launch) (y : MethodName) (wy : List Cond) (rm : Room) (D : va_G) (tys : List (ClassId × FieldType)) (av : List Value) (w0 : va_W) (gw : ρ → va_W) (res : ρ) : Prop := ∀ sz : Nat, Met l y wy rm (aPc D tys av w0 sz) (aQv D w0 sz gw res) 0 0 (va_A w0 sz)
def aC (p : Program) (s : State) (m : MethodId) (args : Array Value) (meth : Method) (c : Code) (cc : ByteArray) (nL : Nat) (own : String) (Ts : List Cond) (D : va_G) (tys : List (ClassId × FieldType)) (A : Nat → Prop) : Prop := CallFix p m c cc nL s args Ts own ∧ aU D tys s ∧ meth.locks = false ∧ ∀ q : Nat, s.heap.size ≤ q → A q
def aT (p : Program) (l : Launch) (e : Env) (R : Room) (s : State) (m : MethodId) (args : Array Value) (below : List Frame) (meth : Method) (c : Code) (Q : State → Prop) (D : va_G) (A : Nat → Prop) (nL k n pc : Nat) (lv : List (Nat × Value)) (st : List Value) (ws : va_W) : Prop := ∀ (H : Heap) (locs : List Loc) (ls : Array Slot), va_P D vwCl ws H → va_D A ws → va_S A s.heap H locs → lv_has ls nL lv → W p l e R s m args below meth c H locs k n Q (F0 m pc ls st)
/-! partial steps: a load or store at an index in its row, a char that fits -/
def ldi (f : Nat → Int32) (N : Nat) (i : Int32) : Option Int32 := if i < 0 ∨ N ≤ i.toNatClampNeg then none else some (f i.toNatClampNeg)
def ldc (f : Nat → Int32) (N : Nat) (i : Int32) : Option Int32 := if i < 0 ∨ N ≤ i.toNatClampNeg then none else some (f i.toNatClampNeg)
def sti (f : Nat → Int32) (N : Nat) (i x : Int32) : Option (Nat → Int32) := if i < 0 ∨ N ≤ i.toNatClampNeg then none else some (upd f i.toNatClampNeg x)
def stc (f : Nat → Int32) (N : Nat) (i x : Int32) : Option (Nat → Int32) := if i < 0 ∨ N ≤ i.toNatClampNeg then none else some (upd f i.toNatClampNeg (vp_nar .char x))
def rz (x : Int32) : Option Int32 := if x = 0 ∨ x = 1 then some x else none
def rc (x : Int32) : Option Int32 := if vp_nar .char x = x then some x else none
theorem bd {α β : Type} {x : Option α} {f : α → Option β} {o : β} (h : x.bind f = some o) : ∃ a, x = some a ∧ f a = some o := by
  cases x with
  | none => cases h
  | some a => exact ⟨a, rfl, h⟩
theorem chk {α : Type} {q : Prop} {d : Decidable q} {a x : α} (h : (if q then none else some a) = some x) : ¬ q ∧ x = a := by
  by_cases hq : q
  · rw [if_pos hq] at h; cases h
  · rw [if_neg hq] at h; exact ⟨hq, (Option.some.inj h).symm⟩
theorem chk2 {α : Type} {q : Prop} {d : Decidable q} {a x : α} (h : (if q then some a else none) = some x) : q ∧ x = a := by
  by_cases hq : q
  · rw [if_pos hq] at h; exact ⟨hq, (Option.some.inj h).symm⟩
  · rw [if_neg hq] at h; cases h
section AR
variable {p : Program} {l : Launch} {e : Env} {R : Room} {s : State} {m : MethodId} {args : Array Value} {below : List Frame} {meth : Method} {c : Code} {Q : State → Prop} {D : va_G} {tys : List (ClassId × FieldType)} {A : Nat → Prop} {nL k n : Nat} {cc : ByteArray} {own : String} {pc : Nat} {lv : List (Nat × Value)} {st : List Value} {ws : va_W}
theorem a_iconst (C : aC p s m args meth c cc nL own WW D tys A) {z : Int} {v : Int32} (hdg : decode cc pc = .ok (.iconst z, 1)) (hv : Int32.ofInt z = v) (kk : aT p l e R s m args below meth c Q D A nL k n (pc + 1) lv (.int v :: st) ws) : aT p l e R s m args below meth c Q D A nL k n pc lv (st) ws := fun H locs ls hP hD hS hl => lv_iconst C.1.1 C.1.2.1 hdg hv (kk H locs ls hP hD hS hl)
theorem a_bipush (C : aC p s m args meth c cc nL own WW D tys A) {z : Int} {v : Int32} (hdg : decode cc pc = .ok (.bipush z, 2)) (hv : (Int8.ofInt z).toInt32 = v) (kk : aT p l e R s m args below meth c Q D A nL k n (pc + 2) lv (.int v :: st) ws) : aT p l e R s m args below meth c Q D A nL k n pc lv (st) ws := fun H locs ls hP hD hS hl => lv_bipush C.1.1 C.1.2.1 hdg hv (kk H locs ls hP hD hS hl)
theorem a_sipush (C : aC p s m args meth c cc nL own WW D tys A) {z : Int} {v : Int32} (hdg : decode cc pc = .ok (.sipush z, 3)) (hv : (Int16.ofInt z).toInt32 = v) (kk : aT p l e R s m args below meth c Q D A nL k n (pc + 3) lv (.int v :: st) ws) : aT p l e R s m args below meth c Q D A nL k n pc lv (st) ws := fun H locs ls hP hD hS hl => lv_sipush C.1.1 C.1.2.1 hdg hv (kk H locs ls hP hD hS hl)
theorem a_iadd (C : aC p s m args meth c cc nL own WW D tys A) {x y : Int32} (hdg : decode cc pc = .ok (.iadd, 1))  (kk : aT p l e R s m args below meth c Q D A nL k n (pc + 1) lv (.int (x + y) :: st) ws) : aT p l e R s m args below meth c Q D A nL k n pc lv (.int y :: .int x :: st) ws := fun H locs ls hP hD hS hl => lv_iadd C.1.1 C.1.2.1 hdg  (kk H locs ls hP hD hS hl)
theorem a_isub (C : aC p s m args meth c cc nL own WW D tys A) {x y : Int32} (hdg : decode cc pc = .ok (.isub, 1))  (kk : aT p l e R s m args below meth c Q D A nL k n (pc + 1) lv (.int (x - y) :: st) ws) : aT p l e R s m args below meth c Q D A nL k n pc lv (.int y :: .int x :: st) ws := fun H locs ls hP hD hS hl => lv_isub C.1.1 C.1.2.1 hdg  (kk H locs ls hP hD hS hl)
theorem a_imul (C : aC p s m args meth c cc nL own WW D tys A) {x y : Int32} (hdg : decode cc pc = .ok (.imul, 1))  (kk : aT p l e R s m args below meth c Q D A nL k n (pc + 1) lv (.int (x * y) :: st) ws) : aT p l e R s m args below meth c Q D A nL k n pc lv (.int y :: .int x :: st) ws := fun H locs ls hP hD hS hl => lv_imul C.1.1 C.1.2.1 hdg  (kk H locs ls hP hD hS hl)
theorem a_iand (C : aC p s m args meth c cc nL own WW D tys A) {x y : Int32} (hdg : decode cc pc = .ok (.iand, 1))  (kk : aT p l e R s m args below meth c Q D A nL k n (pc + 1) lv (.int (x &&& y) :: st) ws) : aT p l e R s m args below meth c Q D A nL k n pc lv (.int y :: .int x :: st) ws := fun H locs ls hP hD hS hl => lv_iand C.1.1 C.1.2.1 hdg  (kk H locs ls hP hD hS hl)
theorem a_ior (C : aC p s m args meth c cc nL own WW D tys A) {x y : Int32} (hdg : decode cc pc = .ok (.ior, 1))  (kk : aT p l e R s m args below meth c Q D A nL k n (pc + 1) lv (.int (x ||| y) :: st) ws) : aT p l e R s m args below meth c Q D A nL k n pc lv (.int y :: .int x :: st) ws := fun H locs ls hP hD hS hl => lv_ior C.1.1 C.1.2.1 hdg  (kk H locs ls hP hD hS hl)
theorem a_ixor (C : aC p s m args meth c cc nL own WW D tys A) {x y : Int32} (hdg : decode cc pc = .ok (.ixor, 1))  (kk : aT p l e R s m args below meth c Q D A nL k n (pc + 1) lv (.int (x ^^^ y) :: st) ws) : aT p l e R s m args below meth c Q D A nL k n pc lv (.int y :: .int x :: st) ws := fun H locs ls hP hD hS hl => lv_ixor C.1.1 C.1.2.1 hdg  (kk H locs ls hP hD hS hl)
theorem a_idiv (C : aC p s m args meth c cc nL own WW D tys A) {x y : Int32} (hdg : decode cc pc = .ok (.idiv, 1)) (hne : ¬ y = 0) (kk : aT p l e R s m args below meth c Q D A nL k n (pc + 1) lv (.int (x / y) :: st) ws) : aT p l e R s m args below meth c Q D A nL k n pc lv (.int y :: .int x :: st) ws := fun H locs ls hP hD hS hl => lv_idiv C.1.1 C.1.2.1 hdg hne (kk H locs ls hP hD hS hl)
theorem a_irem (C : aC p s m args meth c cc nL own WW D tys A) {x y : Int32} (hdg : decode cc pc = .ok (.irem, 1)) (hne : ¬ y = 0) (kk : aT p l e R s m args below meth c Q D A nL k n (pc + 1) lv (.int (x - x / y * y) :: st) ws) : aT p l e R s m args below meth c Q D A nL k n pc lv (.int y :: .int x :: st) ws := fun H locs ls hP hD hS hl => lv_irem C.1.1 C.1.2.1 hdg hne (kk H locs ls hP hD hS hl)
theorem a_ineg (C : aC p s m args meth c cc nL own WW D tys A) {x : Int32} (hdg : decode cc pc = .ok (.ineg, 1))  (kk : aT p l e R s m args below meth c Q D A nL k n (pc + 1) lv (.int (-x) :: st) ws) : aT p l e R s m args below meth c Q D A nL k n pc lv (.int x :: st) ws := fun H locs ls hP hD hS hl => lv_ineg C.1.1 C.1.2.1 hdg  (kk H locs ls hP hD hS hl)
theorem a_ishl (C : aC p s m args meth c cc nL own WW D tys A) {x y : Int32} (hdg : decode cc pc = .ok (.ishl, 1))  (kk : aT p l e R s m args below meth c Q D A nL k n (pc + 1) lv (.int (x <<< (y &&& 31)) :: st) ws) : aT p l e R s m args below meth c Q D A nL k n pc lv (.int y :: .int x :: st) ws := fun H locs ls hP hD hS hl => lv_ishl C.1.1 C.1.2.1 hdg  (kk H locs ls hP hD hS hl)
theorem a_iushr (C : aC p s m args meth c cc nL own WW D tys A) {x y : Int32} (hdg : decode cc pc = .ok (.iushr, 1))  (kk : aT p l e R s m args below meth c Q D A nL k n (pc + 1) lv (.int (x.toUInt32 >>> (y.toUInt32 &&& Int32.toUInt32 31)).toInt32 :: st) ws) : aT p l e R s m args below meth c Q D A nL k n pc lv (.int y :: .int x :: st) ws := fun H locs ls hP hD hS hl => lv_iushr C.1.1 C.1.2.1 hdg rfl (kk H locs ls hP hD hS hl)
theorem a_i2c (C : aC p s m args meth c cc nL own WW D tys A) {x : Int32} (hdg : decode cc pc = .ok (.i2c, 1))  (kk : aT p l e R s m args below meth c Q D A nL k n (pc + 1) lv (.int (x.toUInt32 % 65536).toInt32 :: st) ws) : aT p l e R s m args below meth c Q D A nL k n pc lv (.int x :: st) ws := fun H locs ls hP hD hS hl => lv_i2c C.1.1 C.1.2.1 hdg rfl (kk H locs ls hP hD hS hl)
theorem a_dup (C : aC p s m args meth c cc nL own WW D tys A) {va : Value} (hdg : decode cc pc = .ok (.dup, 1)) (hva : va.category = 1) (kk : aT p l e R s m args below meth c Q D A nL k n (pc + 1) lv (va :: va :: st) ws) : aT p l e R s m args below meth c Q D A nL k n pc lv (va :: st) ws := fun H locs ls hP hD hS hl => lv_dup C.1.1 C.1.2.1 hdg hva (kk H locs ls hP hD hS hl)
theorem a_pop (C : aC p s m args meth c cc nL own WW D tys A) {va : Value} (hdg : decode cc pc = .ok (.pop, 1)) (hva : va.category = 1) (kk : aT p l e R s m args below meth c Q D A nL k n (pc + 1) lv (st) ws) : aT p l e R s m args below meth c Q D A nL k n pc lv (va :: st) ws := fun H locs ls hP hD hS hl => lv_pop C.1.1 C.1.2.1 hdg hva (kk H locs ls hP hD hS hl)
theorem a_dup2 (C : aC p s m args meth c cc nL own WW D tys A) {va vb : Value} (hdg : decode cc pc = .ok (.dup2, 1)) (hva : va.category = 1) (hvb : vb.category = 1) (kk : aT p l e R s m args below meth c Q D A nL k n (pc + 1) lv (va :: vb :: va :: vb :: st) ws) : aT p l e R s m args below meth c Q D A nL k n pc lv (va :: vb :: st) ws := fun H locs ls hP hD hS hl => lv_dup2_11 C.1.1 C.1.2.1 hdg hva hvb (kk H locs ls hP hD hS hl)
theorem a_iload_n (C : aC p s m args meth c cc nL own WW D tys A) {j : Fin 4} {i : Nat} {x : Int32} (q : Nat) (hdg : decode cc pc = .ok (.iload_n j, 1)) (hi : (j : Nat) = i) (hk : lv[q]? = some (i, .int x)) (kk : aT p l e R s m args below meth c Q D A nL k n (pc + 1) lv (.int x :: st) ws) : aT p l e R s m args below meth c Q D A nL k n pc lv st ws := fun H locs ls hP hD hS hl => lv_iload_n C.1.1 C.1.2.1 hdg hi (lv_at hl q hk) (kk H locs ls hP hD hS hl)
theorem a_iload (C : aC p s m args meth c cc nL own WW D tys A) {i : Nat} {x : Int32} (q : Nat) (hdg : decode cc pc = .ok (.iload i, 2)) (hk : lv[q]? = some (i, .int x)) (kk : aT p l e R s m args below meth c Q D A nL k n (pc + 2) lv (.int x :: st) ws) : aT p l e R s m args below meth c Q D A nL k n pc lv st ws := fun H locs ls hP hD hS hl => lv_iload C.1.1 C.1.2.1 hdg (lv_at hl q hk) (kk H locs ls hP hD hS hl)
theorem a_istore_n (C : aC p s m args meth c cc nL own WW D tys A) {j : Fin 4} {i : Nat} {x : Int32} (lv' : List (Nat × Value)) (hdg : decode cc pc = .ok (.istore_n j, 1)) (hi : (j : Nat) = i) (hn : i < nL) (hl0 : (i, Value.int x) :: lv.filter (fun q => !(q.1 == i) && !(q.1 + 1 == i && q.2.category == 2)) = lv') (kk : aT p l e R s m args below meth c Q D A nL k n (pc + 1) lv' st ws) : aT p l e R s m args below meth c Q D A nL k n pc lv (.int x :: st) ws := fun H locs ls hP hD hS hl => lv_istore_n C.1.1 C.1.2.1 hdg hi hl hn hl0 (fun ls hl => kk H locs ls hP hD hS hl)
theorem a_istore (C : aC p s m args meth c cc nL own WW D tys A) {i : Nat} {x : Int32} (lv' : List (Nat × Value)) (hdg : decode cc pc = .ok (.istore i, 2)) (hn : i < nL) (hl0 : (i, Value.int x) :: lv.filter (fun q => !(q.1 == i) && !(q.1 + 1 == i && q.2.category == 2)) = lv') (kk : aT p l e R s m args below meth c Q D A nL k n (pc + 2) lv' st ws) : aT p l e R s m args below meth c Q D A nL k n pc lv (.int x :: st) ws := fun H locs ls hP hD hS hl => lv_istore C.1.1 C.1.2.1 hdg hl hn hl0 (fun ls hl => kk H locs ls hP hD hS hl)
theorem a_aload_n (C : aC p s m args meth c cc nL own WW D tys A) {j : Fin 4} {i : Nat} {x : Nat} (q : Nat) (hdg : decode cc pc = .ok (.aload_n j, 1)) (hi : (j : Nat) = i) (hk : lv[q]? = some (i, .ref x)) (kk : aT p l e R s m args below meth c Q D A nL k n (pc + 1) lv (.ref x :: st) ws) : aT p l e R s m args below meth c Q D A nL k n pc lv st ws := fun H locs ls hP hD hS hl => lv_aload_n C.1.1 C.1.2.1 hdg hi (lv_at hl q hk) (kk H locs ls hP hD hS hl)
theorem a_aload (C : aC p s m args meth c cc nL own WW D tys A) {i : Nat} {x : Nat} (q : Nat) (hdg : decode cc pc = .ok (.aload i, 2)) (hk : lv[q]? = some (i, .ref x)) (kk : aT p l e R s m args below meth c Q D A nL k n (pc + 2) lv (.ref x :: st) ws) : aT p l e R s m args below meth c Q D A nL k n pc lv st ws := fun H locs ls hP hD hS hl => lv_aload C.1.1 C.1.2.1 hdg (lv_at hl q hk) (kk H locs ls hP hD hS hl)
theorem a_astore_n (C : aC p s m args meth c cc nL own WW D tys A) {j : Fin 4} {i : Nat} {x : Nat} (lv' : List (Nat × Value)) (hdg : decode cc pc = .ok (.astore_n j, 1)) (hi : (j : Nat) = i) (hn : i < nL) (hl0 : (i, Value.ref x) :: lv.filter (fun q => !(q.1 == i) && !(q.1 + 1 == i && q.2.category == 2)) = lv') (kk : aT p l e R s m args below meth c Q D A nL k n (pc + 1) lv' st ws) : aT p l e R s m args below meth c Q D A nL k n pc lv (.ref x :: st) ws := fun H locs ls hP hD hS hl => lv_astore_n C.1.1 C.1.2.1 hdg hi hl hn hl0 (fun ls hl => kk H locs ls hP hD hS hl)
theorem a_astore (C : aC p s m args meth c cc nL own WW D tys A) {i : Nat} {x : Nat} (lv' : List (Nat × Value)) (hdg : decode cc pc = .ok (.astore i, 2)) (hn : i < nL) (hl0 : (i, Value.ref x) :: lv.filter (fun q => !(q.1 == i) && !(q.1 + 1 == i && q.2.category == 2)) = lv') (kk : aT p l e R s m args below meth c Q D A nL k n (pc + 2) lv' st ws) : aT p l e R s m args below meth c Q D A nL k n pc lv (.ref x :: st) ws := fun H locs ls hP hD hS hl => lv_astore C.1.1 C.1.2.1 hdg hl hn hl0 (fun ls hl => kk H locs ls hP hD hS hl)
theorem a_iinc (C : aC p s m args meth c cc nL own WW D tys A) {i : Nat} {z : Int} {x v : Int32} (q : Nat) (lv' : List (Nat × Value)) (hdg : decode cc pc = .ok (.iinc i z, 3)) (hk : lv[q]? = some (i, .int x)) (hv : x + Int32.ofInt z = v) (hn : i < nL) (hl0 : (i, Value.int v) :: lv.filter (fun q => !(q.1 == i) && !(q.1 + 1 == i && q.2.category == 2)) = lv') (kk : aT p l e R s m args below meth c Q D A nL k n (pc + 3) lv' st ws) : aT p l e R s m args below meth c Q D A nL k n pc lv st ws := fun H locs ls hP hD hS hl => lv_iinc C.1.1 C.1.2.1 hdg hl hk hv hn hl0 (fun ls hl => kk H locs ls hP hD hS hl)
theorem a_goto (C : aC p s m args meth c cc nL own WW D tys A) {off : Int} {tgt : Nat} (hdg : decode cc pc = .ok (.goto off, 3)) (ht : (pc : Int) + off = (tgt : Int)) (kk : aT p l e R s m args below meth c Q D A nL k n tgt lv st ws) : aT p l e R s m args below meth c Q D A nL k n pc lv st ws := fun H locs ls hP hD hS hl => lv_goto C.1.1 C.1.2.1 hdg ht (kk H locs ls hP hD hS hl)
theorem a_sub (C : aC p s m args meth c cc nL own WW D tys A) (qs : List Nat) (lv' : List (Nat × Value)) (hl0 : lv_pick lv qs = lv') (kk : aT p l e R s m args below meth c Q D A nL k n pc lv' st ws) : aT p l e R s m args below meth c Q D A nL k n pc lv st ws := fun H locs ls hP hD hS hl => kk H locs ls hP hD hS (lv_sub hl qs hl0)
theorem a_if_eq (C : aC p s m args meth c cc nL own WW D tys A) {x : Int32} {off : Int} {tgt : Nat} {α : Type} {o : α} {f g : Option α} {d : Decidable (x = 0)} (hdg : decode cc pc = .ok (.ifCond .eq off, 3)) (ht : (pc : Int) + off = (tgt : Int)) (hF : (if x = 0 then f else g) = some o) (kt : x = 0 → f = some o → aT p l e R s m args below meth c Q D A nL k n tgt lv st ws) (kf : ¬ (x = 0) → g = some o → aT p l e R s m args below meth c Q D A nL k n (pc + 3) lv st ws) : aT p l e R s m args below meth c Q D A nL k n pc lv (.int x :: st) ws := fun H locs ls hP hD hS hl => lv_if_eq C.1.1 C.1.2.1 hdg ht (fun h => kt h ((if_pos h).symm.trans hF) H locs ls hP hD hS hl) (fun h => kf h ((if_neg h).symm.trans hF) H locs ls hP hD hS hl)
theorem a_ic_eq (C : aC p s m args meth c cc nL own WW D tys A) {x y : Int32} {off : Int} {tgt : Nat} {α : Type} {o : α} {f g : Option α} {d : Decidable (x = y)} (hdg : decode cc pc = .ok (.if_icmp .eq off, 3)) (ht : (pc : Int) + off = (tgt : Int)) (hF : (if x = y then f else g) = some o) (kt : x = y → f = some o → aT p l e R s m args below meth c Q D A nL k n tgt lv st ws) (kf : ¬ (x = y) → g = some o → aT p l e R s m args below meth c Q D A nL k n (pc + 3) lv st ws) : aT p l e R s m args below meth c Q D A nL k n pc lv (.int y :: .int x :: st) ws := fun H locs ls hP hD hS hl => lv_icmp_eq C.1.1 C.1.2.1 hdg ht (fun h => kt h ((if_pos h).symm.trans hF) H locs ls hP hD hS hl) (fun h => kf h ((if_neg h).symm.trans hF) H locs ls hP hD hS hl)
theorem a_if_ne (C : aC p s m args meth c cc nL own WW D tys A) {x : Int32} {off : Int} {tgt : Nat} {α : Type} {o : α} {f g : Option α} {d : Decidable (¬ x = 0)} (hdg : decode cc pc = .ok (.ifCond .ne off, 3)) (ht : (pc : Int) + off = (tgt : Int)) (hF : (if ¬ x = 0 then f else g) = some o) (kt : ¬ x = 0 → f = some o → aT p l e R s m args below meth c Q D A nL k n tgt lv st ws) (kf : ¬ (¬ x = 0) → g = some o → aT p l e R s m args below meth c Q D A nL k n (pc + 3) lv st ws) : aT p l e R s m args below meth c Q D A nL k n pc lv (.int x :: st) ws := fun H locs ls hP hD hS hl => lv_if_ne C.1.1 C.1.2.1 hdg ht (fun h => kt h ((if_pos h).symm.trans hF) H locs ls hP hD hS hl) (fun h => kf (fun h9 => h9 h) ((if_neg (fun h9 => h9 h)).symm.trans hF) H locs ls hP hD hS hl)
theorem a_ic_ne (C : aC p s m args meth c cc nL own WW D tys A) {x y : Int32} {off : Int} {tgt : Nat} {α : Type} {o : α} {f g : Option α} {d : Decidable (¬ x = y)} (hdg : decode cc pc = .ok (.if_icmp .ne off, 3)) (ht : (pc : Int) + off = (tgt : Int)) (hF : (if ¬ x = y then f else g) = some o) (kt : ¬ x = y → f = some o → aT p l e R s m args below meth c Q D A nL k n tgt lv st ws) (kf : ¬ (¬ x = y) → g = some o → aT p l e R s m args below meth c Q D A nL k n (pc + 3) lv st ws) : aT p l e R s m args below meth c Q D A nL k n pc lv (.int y :: .int x :: st) ws := fun H locs ls hP hD hS hl => lv_icmp_ne C.1.1 C.1.2.1 hdg ht (fun h => kt h ((if_pos h).symm.trans hF) H locs ls hP hD hS hl) (fun h => kf (fun h9 => h9 h) ((if_neg (fun h9 => h9 h)).symm.trans hF) H locs ls hP hD hS hl)
theorem a_if_lt (C : aC p s m args meth c cc nL own WW D tys A) {x : Int32} {off : Int} {tgt : Nat} {α : Type} {o : α} {f g : Option α} {d : Decidable (x < 0)} (hdg : decode cc pc = .ok (.ifCond .lt off, 3)) (ht : (pc : Int) + off = (tgt : Int)) (hF : (if x < 0 then f else g) = some o) (kt : x < 0 → f = some o → aT p l e R s m args below meth c Q D A nL k n tgt lv st ws) (kf : ¬ (x < 0) → g = some o → aT p l e R s m args below meth c Q D A nL k n (pc + 3) lv st ws) : aT p l e R s m args below meth c Q D A nL k n pc lv (.int x :: st) ws := fun H locs ls hP hD hS hl => lv_if_lt C.1.1 C.1.2.1 hdg ht (fun h => kt h ((if_pos h).symm.trans hF) H locs ls hP hD hS hl) (fun h => kf h ((if_neg h).symm.trans hF) H locs ls hP hD hS hl)
theorem a_ic_lt (C : aC p s m args meth c cc nL own WW D tys A) {x y : Int32} {off : Int} {tgt : Nat} {α : Type} {o : α} {f g : Option α} {d : Decidable (x < y)} (hdg : decode cc pc = .ok (.if_icmp .lt off, 3)) (ht : (pc : Int) + off = (tgt : Int)) (hF : (if x < y then f else g) = some o) (kt : x < y → f = some o → aT p l e R s m args below meth c Q D A nL k n tgt lv st ws) (kf : ¬ (x < y) → g = some o → aT p l e R s m args below meth c Q D A nL k n (pc + 3) lv st ws) : aT p l e R s m args below meth c Q D A nL k n pc lv (.int y :: .int x :: st) ws := fun H locs ls hP hD hS hl => lv_icmp_lt C.1.1 C.1.2.1 hdg ht (fun h => kt h ((if_pos h).symm.trans hF) H locs ls hP hD hS hl) (fun h => kf h ((if_neg h).symm.trans hF) H locs ls hP hD hS hl)
theorem a_if_ge (C : aC p s m args meth c cc nL own WW D tys A) {x : Int32} {off : Int} {tgt : Nat} {α : Type} {o : α} {f g : Option α} {d : Decidable (0 ≤ x)} (hdg : decode cc pc = .ok (.ifCond .ge off, 3)) (ht : (pc : Int) + off = (tgt : Int)) (hF : (if 0 ≤ x then f else g) = some o) (kt : 0 ≤ x → f = some o → aT p l e R s m args below meth c Q D A nL k n tgt lv st ws) (kf : ¬ (0 ≤ x) → g = some o → aT p l e R s m args below meth c Q D A nL k n (pc + 3) lv st ws) : aT p l e R s m args below meth c Q D A nL k n pc lv (.int x :: st) ws := fun H locs ls hP hD hS hl => lv_if_ge C.1.1 C.1.2.1 hdg ht (fun h => kt h ((if_pos h).symm.trans hF) H locs ls hP hD hS hl) (fun h => kf h ((if_neg h).symm.trans hF) H locs ls hP hD hS hl)
theorem a_ic_ge (C : aC p s m args meth c cc nL own WW D tys A) {x y : Int32} {off : Int} {tgt : Nat} {α : Type} {o : α} {f g : Option α} {d : Decidable (y ≤ x)} (hdg : decode cc pc = .ok (.if_icmp .ge off, 3)) (ht : (pc : Int) + off = (tgt : Int)) (hF : (if y ≤ x then f else g) = some o) (kt : y ≤ x → f = some o → aT p l e R s m args below meth c Q D A nL k n tgt lv st ws) (kf : ¬ (y ≤ x) → g = some o → aT p l e R s m args below meth c Q D A nL k n (pc + 3) lv st ws) : aT p l e R s m args below meth c Q D A nL k n pc lv (.int y :: .int x :: st) ws := fun H locs ls hP hD hS hl => lv_icmp_ge C.1.1 C.1.2.1 hdg ht (fun h => kt h ((if_pos h).symm.trans hF) H locs ls hP hD hS hl) (fun h => kf h ((if_neg h).symm.trans hF) H locs ls hP hD hS hl)
theorem a_if_gt (C : aC p s m args meth c cc nL own WW D tys A) {x : Int32} {off : Int} {tgt : Nat} {α : Type} {o : α} {f g : Option α} {d : Decidable (0 < x)} (hdg : decode cc pc = .ok (.ifCond .gt off, 3)) (ht : (pc : Int) + off = (tgt : Int)) (hF : (if 0 < x then f else g) = some o) (kt : 0 < x → f = some o → aT p l e R s m args below meth c Q D A nL k n tgt lv st ws) (kf : ¬ (0 < x) → g = some o → aT p l e R s m args below meth c Q D A nL k n (pc + 3) lv st ws) : aT p l e R s m args below meth c Q D A nL k n pc lv (.int x :: st) ws := fun H locs ls hP hD hS hl => lv_if_gt C.1.1 C.1.2.1 hdg ht (fun h => kt h ((if_pos h).symm.trans hF) H locs ls hP hD hS hl) (fun h => kf h ((if_neg h).symm.trans hF) H locs ls hP hD hS hl)
theorem a_ic_gt (C : aC p s m args meth c cc nL own WW D tys A) {x y : Int32} {off : Int} {tgt : Nat} {α : Type} {o : α} {f g : Option α} {d : Decidable (y < x)} (hdg : decode cc pc = .ok (.if_icmp .gt off, 3)) (ht : (pc : Int) + off = (tgt : Int)) (hF : (if y < x then f else g) = some o) (kt : y < x → f = some o → aT p l e R s m args below meth c Q D A nL k n tgt lv st ws) (kf : ¬ (y < x) → g = some o → aT p l e R s m args below meth c Q D A nL k n (pc + 3) lv st ws) : aT p l e R s m args below meth c Q D A nL k n pc lv (.int y :: .int x :: st) ws := fun H locs ls hP hD hS hl => lv_icmp_gt C.1.1 C.1.2.1 hdg ht (fun h => kt h ((if_pos h).symm.trans hF) H locs ls hP hD hS hl) (fun h => kf h ((if_neg h).symm.trans hF) H locs ls hP hD hS hl)
theorem a_if_le (C : aC p s m args meth c cc nL own WW D tys A) {x : Int32} {off : Int} {tgt : Nat} {α : Type} {o : α} {f g : Option α} {d : Decidable (x ≤ 0)} (hdg : decode cc pc = .ok (.ifCond .le off, 3)) (ht : (pc : Int) + off = (tgt : Int)) (hF : (if x ≤ 0 then f else g) = some o) (kt : x ≤ 0 → f = some o → aT p l e R s m args below meth c Q D A nL k n tgt lv st ws) (kf : ¬ (x ≤ 0) → g = some o → aT p l e R s m args below meth c Q D A nL k n (pc + 3) lv st ws) : aT p l e R s m args below meth c Q D A nL k n pc lv (.int x :: st) ws := fun H locs ls hP hD hS hl => lv_if_le C.1.1 C.1.2.1 hdg ht (fun h => kt h ((if_pos h).symm.trans hF) H locs ls hP hD hS hl) (fun h => kf h ((if_neg h).symm.trans hF) H locs ls hP hD hS hl)
theorem a_ic_le (C : aC p s m args meth c cc nL own WW D tys A) {x y : Int32} {off : Int} {tgt : Nat} {α : Type} {o : α} {f g : Option α} {d : Decidable (x ≤ y)} (hdg : decode cc pc = .ok (.if_icmp .le off, 3)) (ht : (pc : Int) + off = (tgt : Int)) (hF : (if x ≤ y then f else g) = some o) (kt : x ≤ y → f = some o → aT p l e R s m args below meth c Q D A nL k n tgt lv st ws) (kf : ¬ (x ≤ y) → g = some o → aT p l e R s m args below meth c Q D A nL k n (pc + 3) lv st ws) : aT p l e R s m args below meth c Q D A nL k n pc lv (.int y :: .int x :: st) ws := fun H locs ls hP hD hS hl => lv_icmp_le C.1.1 C.1.2.1 hdg ht (fun h => kt h ((if_pos h).symm.trans hF) H locs ls hP hD hS hl) (fun h => kf h ((if_neg h).symm.trans hF) H locs ls hP hD hS hl)
theorem a_get (C : aC p s m args meth c cc nL own WW D tys A) {idx : Nat} {C1 : String} {T1 : u_T} {N1 ci a : Nat} {fs : List Value} {v : Value} (q0 j : Nat) (hin : ∀ w ∈ u_ws C1 T1 N1, w ∈ WW) (hc : vwCl[ci]? = some (C1, T1, N1)) (he : ws[q0]? = some (a, .inr (ci, fs))) (hk : j < N1) (hlink : Cond.fieldLink own idx (T1 j).1 (T1 j).2.1 (T1 j).2.2.1 ∈ WW) (hv : fs[j]? = some v) (hdg : decode cc pc = .ok (.getfield idx, 3)) (kk : aT p l e R s m args below meth c Q D A nL k n (pc + 3) lv (v :: st) ws) : aT p l e R s m args below meth c Q D A nL k n pc lv (.ref a :: st) ws := fun H locs ls hP hD hS hl => va_get C.1.1 C.1.2.1 C.1.2.2.2.2 hin C.1.2.2.2.1 C.2.1.1 hP q0 he hc j hk (C.1.2.2.2.2 _ hlink) (fun _ h => h) hv hdg (kk H locs ls hP hD hS hl)
theorem a_put (C : aC p s m args meth c cc nL own WW D tys A) {idx : Nat} {C1 : String} {T1 : u_T} {N1 ci a : Nat} {fs : List Value} {v : Value} {ty0 : Nat → FieldType} (q0 j : Nat) (hin : ∀ w ∈ u_ws C1 T1 N1, w ∈ WW) (hty : ∀ k, k < N1 → parseFieldDescriptor (T1 k).2.2.1 = some (ty0 k)) (hnm : ∀ a, a < N1 → ∀ b, b < N1 → a ≠ b → (T1 a).2.1 ≠ (T1 b).2.1) (hc : vwCl[ci]? = some (C1, T1, N1)) (he : ws[q0]? = some (a, .inr (ci, fs))) (hk : j < N1) (hlink : Cond.fieldLink own idx (T1 j).1 (T1 j).2.1 (T1 j).2.2.1 ∈ WW) (hfin : (T1 j).2.2.2 = false) (hn : narrow (ty0 j) v = v) (hfit : fits (ty0 j) v = true) (hl0 : j < fs.length) (hdg : decode cc pc = .ok (.putfield idx, 3)) (kk : aT p l e R s m args below meth c Q D A nL k n (pc + 3) lv st (ws.set q0 (a, .inr (ci, fs.set j v)))) : aT p l e R s m args below meth c Q D A nL k n pc lv (v :: .ref a :: st) ws := fun H locs ls hP hD hS hl => va_put C.1.1 C.1.2.1 C.1.2.2.2.2 hin ty0 hty hnm C.1.2.2.2.1 C.2.1.1 hP hD hS q0 he hc j hk (C.1.2.2.2.2 _ hlink) (fun _ h => h) hfin (hty j hk) hn hfit hl0 hdg (fun H1 locs1 hP hD hS => kk H1 locs1 ls hP hD hS hl)
theorem a_iald (C : aC p s m args meth c cc nL own WW D tys A) {a : Nat} {cA : ClassId} {N : Nat} {f : Nat → Int32} {i : Int32} {α : Type} {o : α} {kf : Int32 → Option α} (q0 t0 : Nat) (ha : ws[q0]? = some (a, .inl (cA, N, .inl f))) (ht : tys[t0]? = some (cA, .int)) (hdg : decode cc pc = .ok (.iaload, 1)) (hF : (ldi f N i).bind kf = some o) (kk : ∀ x, ldi f N i = some x → kf x = some o → aT p l e R s m args below meth c Q D A nL k n (pc + 1) lv (.int x :: st) ws) : aT p l e R s m args below meth c Q D A nL k n pc lv (.int i :: .ref a :: st) ws := by
  obtain ⟨x, h1, hF⟩ := bd hF
  obtain ⟨hi, hx⟩ := chk h1
  intro H locs ls hP hD hS hl
  have h2 := kk x h1 hF H locs ls hP hD hS hl
  rw [hx] at h2
  exact va_iald C.1.1 C.1.2.1 C.2.1.1 hP q0 t0 ha ht hi hdg h2
theorem a_cald (C : aC p s m args meth c cc nL own WW D tys A) {a : Nat} {cA : ClassId} {N : Nat} {f : Nat → Int32} {i : Int32} {α : Type} {o : α} {kf : Int32 → Option α} (q0 t0 : Nat) (ha : ws[q0]? = some (a, .inl (cA, N, .inl f))) (ht : tys[t0]? = some (cA, .char)) (hdg : decode cc pc = .ok (.caload, 1)) (hF : (ldc f N i).bind kf = some o) (kk : ∀ x, ldc f N i = some x → kf x = some o → aT p l e R s m args below meth c Q D A nL k n (pc + 1) lv (.int x :: st) ws) : aT p l e R s m args below meth c Q D A nL k n pc lv (.int i :: .ref a :: st) ws := by
  obtain ⟨x, h1, hF⟩ := bd hF
  obtain ⟨hi, hx⟩ := chk h1
  intro H locs ls hP hD hS hl
  have h2 := kk x h1 hF H locs ls hP hD hS hl
  rw [hx] at h2
  exact va_cald C.1.1 C.1.2.1 C.2.1.1 hP q0 t0 ha ht hi hdg h2
theorem a_iast (C : aC p s m args meth c cc nL own WW D tys A) {a : Nat} {cA : ClassId} {N : Nat} {f : Nat → Int32} {i x : Int32} {α : Type} {o : α} {kf : (Nat → Int32) → Option α} (q0 t0 : Nat) (ha : ws[q0]? = some (a, .inl (cA, N, .inl f))) (ht : tys[t0]? = some (cA, .int)) (hdg : decode cc pc = .ok (.iastore, 1)) (hF : (sti f N i x).bind kf = some o) (kk : ∀ g, sti f N i x = some g → kf g = some o → aT p l e R s m args below meth c Q D A nL k n (pc + 1) lv st (ws.set q0 (a, .inl (cA, N, .inl g)))) : aT p l e R s m args below meth c Q D A nL k n pc lv (.int x :: .int i :: .ref a :: st) ws := by
  obtain ⟨g, h1, hF⟩ := bd hF
  obtain ⟨hi, hx⟩ := chk h1
  intro H locs ls hP hD hS hl
  refine va_iast C.1.1 C.1.2.1 C.2.1.1 hP hD hS q0 t0 ha ht hi hdg (fun H1 locs1 hP hD hS => ?_)
  have h2 := kk g h1 hF H1 locs1 ls
  rw [hx] at h2
  exact h2 hP hD hS hl
theorem a_cast (C : aC p s m args meth c cc nL own WW D tys A) {a : Nat} {cA : ClassId} {N : Nat} {f : Nat → Int32} {i x : Int32} {α : Type} {o : α} {kf : (Nat → Int32) → Option α} (q0 t0 : Nat) (ha : ws[q0]? = some (a, .inl (cA, N, .inl f))) (ht : tys[t0]? = some (cA, .char)) (hdg : decode cc pc = .ok (.castore, 1)) (hF : (stc f N i x).bind kf = some o) (kk : ∀ g, stc f N i x = some g → kf g = some o → aT p l e R s m args below meth c Q D A nL k n (pc + 1) lv st (ws.set q0 (a, .inl (cA, N, .inl g)))) : aT p l e R s m args below meth c Q D A nL k n pc lv (.int x :: .int i :: .ref a :: st) ws := by
  obtain ⟨g, h1, hF⟩ := bd hF
  obtain ⟨hi, hx⟩ := chk h1
  intro H locs ls hP hD hS hl
  refine va_cast C.1.1 C.1.2.1 C.2.1.1 hP hD hS q0 t0 ha ht hi hdg (fun H1 locs1 hP hD hS => ?_)
  have h2 := kk g h1 hF H1 locs1 ls
  rw [hx] at h2
  exact h2 hP hD hS hl
/-- cells of a world put at their places -/
def wset : va_W → List Nat → va_W → va_W
  | ws, i :: is, q :: qs => wset (ws.set i q) is qs
  | ws, _, _ => ws
theorem wset_len : ∀ (is : List Nat) (qs ws : va_W), (wset ws is qs).length = ws.length
  | [], _, _ => by simp [wset]
  | _ :: _, [], _ => by simp [wset]
  | i :: is, q :: qs, ws => by rw [wset, wset_len is qs]; simp
theorem wset_get : ∀ (is : List Nat) (qs ws : va_W) (k : Nat) (x : Nat × va_E), (wset ws is qs)[k]? = some x → (∃ j : Nat, is[j]? = some k ∧ qs[j]? = some x) ∨ ((∀ j : Nat, j < qs.length → is[j]? ≠ some k) ∧ ws[k]? = some x)
  | [], qs, ws, k, x, h => Or.inr ⟨fun _ _ => by simp, by simpa [wset] using h⟩
  | _ :: _, [], ws, k, x, h => Or.inr ⟨fun j hj => by simp at hj, by simpa [wset] using h⟩
  | i :: is, q :: qs, ws, k, x, h => by
    rw [wset] at h
    rcases wset_get is qs (ws.set i q) k x h with ⟨j, h1, h2⟩ | ⟨h1, h2⟩
    · exact Or.inl ⟨j + 1, by simpa using h1, by simpa using h2⟩
    · by_cases hk : i = k
      · subst hk
        have hlt : i < ws.length := by
          have := (List.getElem?_eq_some_iff.mp h2).1
          simpa using this
        rw [List.getElem?_set_self hlt] at h2
        exact Or.inl ⟨0, by simp, by simpa using h2⟩
      · rw [List.getElem?_set_ne hk] at h2
        refine Or.inr ⟨fun j hj => ?_, h2⟩
        cases j with
        | zero => simpa using hk
        | succ j => simpa using h1 j (by simpa using hj)
theorem wset_fst : ∀ (is : List Nat) (w0 w1 ws : va_W), is.map (fun i => ws[i]?) = w0.map some → w1.map Prod.fst = w0.map Prod.fst → va_nd is = true → (wset ws is w1).map Prod.fst = ws.map Prod.fst := by
  intro is w0 w1 ws hC hA hn
  apply List.ext_getElem?
  intro k
  rw [List.getElem?_map, List.getElem?_map]
  cases h : (wset ws is w1)[k]? with
  | none =>
    have : ws.length ≤ k := by
      have := List.getElem?_eq_none_iff.mp h
      rwa [wset_len] at this
    rw [List.getElem?_eq_none_iff.mpr this]
  | some x =>
    rcases wset_get is w1 ws k x h with ⟨j, h1, h2⟩ | ⟨h1, h2⟩
    · have e1 : (is.map (fun i => ws[i]?))[j]? = some ws[k]? := by rw [List.getElem?_map, h1]; rfl
      rw [hC, List.getElem?_map] at e1
      have e2 : (w1.map Prod.fst)[j]? = some x.1 := by rw [List.getElem?_map, h2]; rfl
      rw [hA, List.getElem?_map] at e2
      cases h0 : w0[j]? with
      | none => rw [h0] at e2; cases e2
      | some z =>
        rw [h0] at e1 e2
        have e3 : some z = ws[k]? := Option.some.inj e1
        rw [← e3]
        simpa using e2.symm
    · rw [h2]
theorem va_D_fst {A : Nat → Prop} {ws w1 : va_W} (h : w1.map Prod.fst = ws.map Prod.fst) (hD : va_D A ws) : va_D A w1 := by
  have key : ∀ (k : Nat) (q : Nat × va_E), w1[k]? = some q → ∃ z : Nat × va_E, ws[k]? = some z ∧ z.1 = q.1 := by
    intro k q hq
    have e : (w1.map Prod.fst)[k]? = some q.1 := by rw [List.getElem?_map, hq]; rfl
    rw [h, List.getElem?_map] at e
    cases h0 : ws[k]? with
    | none => rw [h0] at e; cases e
    | some z => rw [h0] at e; exact ⟨z, rfl, by simpa using e⟩
  refine ⟨fun i j p q hp hq hpq => ?_, fun k q hq => ?_⟩
  · obtain ⟨z1, g1, g2⟩ := key i p hp
    obtain ⟨z2, g3, g4⟩ := key j q hq
    exact hD.1 i j z1 z2 g1 g3 (by rw [g2, g4, hpq])
  · obtain ⟨z, g1, g2⟩ := key k q hq
    rw [← g2]
    exact hD.2 k z g1
theorem w_join {A0 : Nat → Prop} {D : va_G} {cl : List vw_C} {ws w0 w1 : va_W} {H H1 : Heap} (isC : List Nat) (hP : va_P D cl ws H) (hD : va_D A0 ws) (hC : isC.map (fun i => ws[i]?) = w0.map some) (hA : w1.map Prod.fst = w0.map Prod.fst) (hn : va_nd isC = true) (hk : ∀ q : Nat, q < H.size → ¬ va_A w0 H.size q → H1[q]? = H[q]?) (hP1 : va_P D cl w1 H1) : va_P D cl (wset ws isC w1) H1 ∧ va_D A0 (wset ws isC w1) := by
  refine ⟨fun k x hx => ?_, va_D_fst (wset_fst isC w0 w1 ws hC hA hn) hD⟩
  rcases wset_get isC w1 ws k x hx with ⟨j, h1, h2⟩ | ⟨h1, h2⟩
  · exact hP1 j x h2
  · have hlt := (hP k x h2).lt
    refine (hP k x h2).kept (hk x.1 hlt ?_)
    rintro (⟨j, e, hj⟩ | hq)
    · have e1 : (isC.map (fun i => ws[i]?))[j]? = some (some (x.1, e)) := by rw [hC, List.getElem?_map, hj]; rfl
      rw [List.getElem?_map] at e1
      cases h0 : isC[j]? with
      | none => rw [h0] at e1; cases e1
      | some i =>
        rw [h0] at e1
        have e2 : ws[i]? = some (x.1, e) := Option.some.inj e1
        have hik : i = k := hD.1 i k (x.1, e) x e2 h2 rfl
        subst hik
        have hj0 : j < w0.length := (List.getElem?_eq_some_iff.mp hj).1
        have hl01 : w1.length = w0.length := by
          have := congrArg List.length hA
          simpa using this
        exact h1 j (by omega) h0
    · omega
theorem w_keep {A0 : Nat → Prop} {D : va_G} {cl : List vw_C} {ws w0 : va_W} {H H1 : Heap} (isC : List Nat) (hP : va_P D cl ws H) (hD : va_D A0 ws) (hC : isC.map (fun i => ws[i]?) = w0.map some) (hk : ∀ q : Nat, q < H.size → ¬ va_A w0 H.size q → H1[q]? = H[q]?) (hP1 : va_P D cl w0 H1) : va_P D cl ws H1 := by
  intro k x h2
  have hlt := (hP k x h2).lt
  by_cases hq : va_A w0 H.size x.1
  · rcases hq with ⟨j, e, hj⟩ | hq
    · have e1 : (isC.map (fun i => ws[i]?))[j]? = some (some (x.1, e)) := by rw [hC, List.getElem?_map, hj]; rfl
      rw [List.getElem?_map] at e1
      cases h0 : isC[j]? with
      | none => rw [h0] at e1; cases e1
      | some i =>
        rw [h0] at e1
        have e2 : ws[i]? = some (x.1, e) := Option.some.inj e1
        have hik : i = k := hD.1 i k (x.1, e) x e2 h2 rfl
        subst hik
        rw [e2] at h2
        have e3 : (x.1, e) = x := Option.some.inj h2
        rw [← e3]
        exact hP1 j _ hj
    · omega
  · exact (hP k x h2).kept (hk x.1 hlt hq)
theorem w_filt {ws w0 : va_W} {isC : List Nat} (h : isC.map (fun i => ws[i]?) = w0.map some) : isC.filterMap (fun i => ws[i]?) = w0 := by
  have e := congrArg (List.filterMap id) h
  rw [List.filterMap_map, List.filterMap_map] at e
  simpa [Function.comp_def] using e
theorem a_callVir (C : aC p s m args meth c cc nL own WW D tys A) {ρ α : Type} {o : α} {fy : Option ρ} {kf : ρ → Option α} {y : MethodName} {b : ByteArray} {mL : Nat} {ret : Option FieldType} {rm : Room} {idx : Nat} {As stk : List Value} {w0 : va_W} {gv : ρ → Int32} {C1 : String} {T1 : u_T} {N1 ci a : Nat} {fs : List Value} (cnt : Nat) (isC : List Nat) (q0 : Nat) (hG : GoodIn WW (wsV own idx C1 y (aW y b mL ret))) (hd : y.cls = C1 ∧ y.cls ≠ "java/lang/invoke/MethodHandle" ∧ y.cls ≠ "java/lang/invoke/VarHandle" ∧ (parseMethodDescriptor y.desc).map (fun d => d.parameters.length) = some cnt) (hrm : rm.cells = 0 ∧ rm.slots = 0) (hR : rm.frames + 1 ≤ R.frames ∧ 8 + (mL + 11) + rm.locals ≤ R.locals) (hM : ∀ r, fy = some r → aKi l y (aW y b mL ret) rm D tys (.ref a :: As) w0 gv (fun _ => w0) r) (hc : vwCl[ci]? = some (C1, T1, N1)) (he : ws[q0]? = some (a, .inr (ci, fs))) (hC : isC.map (fun i => ws[i]?) = w0.map some) (hnd : va_nd isC = true) (hst : stk = As.reverse ++ .ref a :: st) (hn : As.length = cnt) (hcat : (st.map fun v => v.category).sum ≤ 8) (hdg : decode cc pc = .ok (.invokevirtual idx, 3)) (hkn : k ≤ R.cells ∧ n ≤ R.slots) (hF : fy.bind kf = some o) (kk : ∀ r, fy = some r → kf r = some o → aT p l e R s m args below meth c Q D A nL k n (pc + 3) lv (.int (gv r) :: st) ws) : aT p l e R s m args below meth c Q D A nL k n pc lv stk ws := by
  obtain ⟨r, h1, hF⟩ := bd hF
  subst hst
  intro H locs ls hP hD hS hl
  have hPc0 := hP
  have hKc := C.2.1.1
  have hPc : va_P D vwCl w0 H := hP.sub isC (w_filt hC)
  have hDc : va_D A w0 := hD.sub isC hnd hC
  have hFc := va_free (wc := w0) hD hS C.2.2.2 isC hC
  refine va_calli (va_runV (As := As) (rest := st) C.1 (hM r h1 H.size) (cwV cnt C.1.2.2.2.2 hG rfl hrm.1 hrm.2 hd hR) ⟨aPc_blind, va_recv hKc hPc0 hc he, fun U hU hW => ⟨rfl, by rw [hU], by rw [hU]; exact hPc, C.2.1.warm hW, hDc.weaken (fun _ _ _ _ => trivial)⟩⟩ rfl hn hl.1 rfl (lv_room hcat) hdg ⟨by simpa using hkn.1, by simpa using hkn.2⟩) hS (fun q _ h => hFc q h) hFc (fun rv u t H1 locs1 ht hvm hw hB hz1 hk1 hS => ?_)
  obtain ⟨hP1, -⟩ := hB
  rw [ht] at hP1
  rw [show rv = gv r from hw]
  exact kk r h1 hF H1 locs1 ls (w_keep isC hP hD hC hk1 hP1) hD hS hl
theorem a_callVi (C : aC p s m args meth c cc nL own WW D tys A) {ρ α : Type} {o : α} {fy : Option ρ} {kf : ρ → Option α} {y : MethodName} {b : ByteArray} {mL : Nat} {ret : Option FieldType} {rm : Room} {idx : Nat} {As stk : List Value} {w0 : va_W} {gv : ρ → Int32} {gw : ρ → va_W} {C1 : String} {T1 : u_T} {N1 ci a : Nat} {fs : List Value} (cnt : Nat) (isC : List Nat) (q0 : Nat) (hG : GoodIn WW (wsV own idx C1 y (aW y b mL ret))) (hd : y.cls = C1 ∧ y.cls ≠ "java/lang/invoke/MethodHandle" ∧ y.cls ≠ "java/lang/invoke/VarHandle" ∧ (parseMethodDescriptor y.desc).map (fun d => d.parameters.length) = some cnt) (hrm : rm.cells = 0 ∧ rm.slots = 0) (hR : rm.frames + 1 ≤ R.frames ∧ 8 + (mL + 11) + rm.locals ≤ R.locals) (hM : ∀ r, fy = some r → aKi l y (aW y b mL ret) rm D tys (.ref a :: As) w0 gv gw r) (hc : vwCl[ci]? = some (C1, T1, N1)) (he : ws[q0]? = some (a, .inr (ci, fs))) (hC : isC.map (fun i => ws[i]?) = w0.map some) (hA : ∀ r, (gw r).map Prod.fst = w0.map Prod.fst) (hnd : va_nd isC = true) (hst : stk = As.reverse ++ .ref a :: st) (hn : As.length = cnt) (hcat : (st.map fun v => v.category).sum ≤ 8) (hdg : decode cc pc = .ok (.invokevirtual idx, 3)) (hkn : k ≤ R.cells ∧ n ≤ R.slots) (hF : fy.bind kf = some o) (kk : ∀ r, fy = some r → kf r = some o → aT p l e R s m args below meth c Q D A nL k n (pc + 3) lv (.int (gv r) :: st) (wset ws isC (gw r))) : aT p l e R s m args below meth c Q D A nL k n pc lv stk ws := by
  obtain ⟨r, h1, hF⟩ := bd hF
  subst hst
  intro H locs ls hP hD hS hl
  have hPc0 := hP
  have hKc := C.2.1.1
  have hPc : va_P D vwCl w0 H := hP.sub isC (w_filt hC)
  have hDc : va_D A w0 := hD.sub isC hnd hC
  have hFc := va_free (wc := w0) hD hS C.2.2.2 isC hC
  refine va_calli (va_runV (As := As) (rest := st) C.1 (hM r h1 H.size) (cwV cnt C.1.2.2.2.2 hG rfl hrm.1 hrm.2 hd hR) ⟨aPc_blind, va_recv hKc hPc0 hc he, fun U hU hW => ⟨rfl, by rw [hU], by rw [hU]; exact hPc, C.2.1.warm hW, hDc.weaken (fun _ _ _ _ => trivial)⟩⟩ rfl hn hl.1 rfl (lv_room hcat) hdg ⟨by simpa using hkn.1, by simpa using hkn.2⟩) hS (fun q _ h => hFc q h) hFc (fun rv u t H1 locs1 ht hvm hw hB hz1 hk1 hS => ?_)
  obtain ⟨hP1, -⟩ := hB
  rw [ht] at hP1
  rw [show rv = gv r from hw]
  obtain ⟨hP, hD⟩ := w_join isC hP hD hC (hA r) hnd hk1 hP1
  exact kk r h1 hF H1 locs1 ls hP hD hS hl
theorem a_callVvr (C : aC p s m args meth c cc nL own WW D tys A) {ρ α : Type} {o : α} {fy : Option ρ} {kf : ρ → Option α} {y : MethodName} {b : ByteArray} {mL : Nat} {ret : Option FieldType} {rm : Room} {idx : Nat} {As stk : List Value} {w0 : va_W} {C1 : String} {T1 : u_T} {N1 ci a : Nat} {fs : List Value} (cnt : Nat) (isC : List Nat) (q0 : Nat) (hG : GoodIn WW (wsV own idx C1 y (aW y b mL ret))) (hd : y.cls = C1 ∧ y.cls ≠ "java/lang/invoke/MethodHandle" ∧ y.cls ≠ "java/lang/invoke/VarHandle" ∧ (parseMethodDescriptor y.desc).map (fun d => d.parameters.length) = some cnt) (hrm : rm.cells = 0 ∧ rm.slots = 0) (hR : rm.frames + 1 ≤ R.frames ∧ 8 + (mL + 11) + rm.locals ≤ R.locals) (hM : ∀ r, fy = some r → aKv l y (aW y b mL ret) rm D tys (.ref a :: As) w0 (fun _ => w0) r) (hc : vwCl[ci]? = some (C1, T1, N1)) (he : ws[q0]? = some (a, .inr (ci, fs))) (hC : isC.map (fun i => ws[i]?) = w0.map some) (hnd : va_nd isC = true) (hst : stk = As.reverse ++ .ref a :: st) (hn : As.length = cnt) (hcat : (st.map fun v => v.category).sum ≤ 8) (hdg : decode cc pc = .ok (.invokevirtual idx, 3)) (hkn : k ≤ R.cells ∧ n ≤ R.slots) (hF : fy.bind kf = some o) (kk : ∀ r, fy = some r → kf r = some o → aT p l e R s m args below meth c Q D A nL k n (pc + 3) lv (st) ws) : aT p l e R s m args below meth c Q D A nL k n pc lv stk ws := by
  obtain ⟨r, h1, hF⟩ := bd hF
  subst hst
  intro H locs ls hP hD hS hl
  have hPc0 := hP
  have hKc := C.2.1.1
  have hPc : va_P D vwCl w0 H := hP.sub isC (w_filt hC)
  have hDc : va_D A w0 := hD.sub isC hnd hC
  have hFc := va_free (wc := w0) hD hS C.2.2.2 isC hC
  refine va_callv (va_runV (As := As) (rest := st) C.1 (hM r h1 H.size) (cwV cnt C.1.2.2.2.2 hG rfl hrm.1 hrm.2 hd hR) ⟨aPc_blind, va_recv hKc hPc0 hc he, fun U hU hW => ⟨rfl, by rw [hU], by rw [hU]; exact hPc, C.2.1.warm hW, hDc.weaken (fun _ _ _ _ => trivial)⟩⟩ rfl hn hl.1 rfl (lv_room hcat) hdg ⟨by simpa using hkn.1, by simpa using hkn.2⟩) hS (fun q _ h => hFc q h) hFc (fun u t H1 locs1 ht hvm hw hB hz1 hk1 hS => ?_)
  obtain ⟨hP1, -⟩ := hB
  rw [ht] at hP1
  exact kk r h1 hF H1 locs1 ls (w_keep isC hP hD hC hk1 hP1) hD hS hl
theorem a_callVv (C : aC p s m args meth c cc nL own WW D tys A) {ρ α : Type} {o : α} {fy : Option ρ} {kf : ρ → Option α} {y : MethodName} {b : ByteArray} {mL : Nat} {ret : Option FieldType} {rm : Room} {idx : Nat} {As stk : List Value} {w0 : va_W} {gw : ρ → va_W} {C1 : String} {T1 : u_T} {N1 ci a : Nat} {fs : List Value} (cnt : Nat) (isC : List Nat) (q0 : Nat) (hG : GoodIn WW (wsV own idx C1 y (aW y b mL ret))) (hd : y.cls = C1 ∧ y.cls ≠ "java/lang/invoke/MethodHandle" ∧ y.cls ≠ "java/lang/invoke/VarHandle" ∧ (parseMethodDescriptor y.desc).map (fun d => d.parameters.length) = some cnt) (hrm : rm.cells = 0 ∧ rm.slots = 0) (hR : rm.frames + 1 ≤ R.frames ∧ 8 + (mL + 11) + rm.locals ≤ R.locals) (hM : ∀ r, fy = some r → aKv l y (aW y b mL ret) rm D tys (.ref a :: As) w0 gw r) (hc : vwCl[ci]? = some (C1, T1, N1)) (he : ws[q0]? = some (a, .inr (ci, fs))) (hC : isC.map (fun i => ws[i]?) = w0.map some) (hA : ∀ r, (gw r).map Prod.fst = w0.map Prod.fst) (hnd : va_nd isC = true) (hst : stk = As.reverse ++ .ref a :: st) (hn : As.length = cnt) (hcat : (st.map fun v => v.category).sum ≤ 8) (hdg : decode cc pc = .ok (.invokevirtual idx, 3)) (hkn : k ≤ R.cells ∧ n ≤ R.slots) (hF : fy.bind kf = some o) (kk : ∀ r, fy = some r → kf r = some o → aT p l e R s m args below meth c Q D A nL k n (pc + 3) lv (st) (wset ws isC (gw r))) : aT p l e R s m args below meth c Q D A nL k n pc lv stk ws := by
  obtain ⟨r, h1, hF⟩ := bd hF
  subst hst
  intro H locs ls hP hD hS hl
  have hPc0 := hP
  have hKc := C.2.1.1
  have hPc : va_P D vwCl w0 H := hP.sub isC (w_filt hC)
  have hDc : va_D A w0 := hD.sub isC hnd hC
  have hFc := va_free (wc := w0) hD hS C.2.2.2 isC hC
  refine va_callv (va_runV (As := As) (rest := st) C.1 (hM r h1 H.size) (cwV cnt C.1.2.2.2.2 hG rfl hrm.1 hrm.2 hd hR) ⟨aPc_blind, va_recv hKc hPc0 hc he, fun U hU hW => ⟨rfl, by rw [hU], by rw [hU]; exact hPc, C.2.1.warm hW, hDc.weaken (fun _ _ _ _ => trivial)⟩⟩ rfl hn hl.1 rfl (lv_room hcat) hdg ⟨by simpa using hkn.1, by simpa using hkn.2⟩) hS (fun q _ h => hFc q h) hFc (fun u t H1 locs1 ht hvm hw hB hz1 hk1 hS => ?_)
  obtain ⟨hP1, -⟩ := hB
  rw [ht] at hP1
  obtain ⟨hP, hD⟩ := w_join isC hP hD hC (hA r) hnd hk1 hP1
  exact kk r h1 hF H1 locs1 ls hP hD hS hl
theorem a_callSir (C : aC p s m args meth c cc nL own WW D tys A) {ρ α : Type} {o : α} {fy : Option ρ} {kf : ρ → Option α} {y : MethodName} {b : ByteArray} {mL : Nat} {ret : Option FieldType} {rm : Room} {idx : Nat} {As stk : List Value} {w0 : va_W} {gv : ρ → Int32} (cnt : Nat) (isC : List Nat) (hG : GoodIn WW (va_wsS own idx y (aW y b mL ret))) (hd : y.cls ≠ "java/lang/invoke/MethodHandle" ∧ y.cls ≠ "java/lang/invoke/VarHandle" ∧ (parseMethodDescriptor y.desc).map (fun d => d.parameters.length) = some cnt) (hrm : rm.cells = 0 ∧ rm.slots = 0) (hR : rm.frames + 1 ≤ R.frames ∧ 8 + (mL + 11) + rm.locals ≤ R.locals) (hM : ∀ r, fy = some r → aKi l y (aW y b mL ret) rm D tys (As) w0 gv (fun _ => w0) r) (hC : isC.map (fun i => ws[i]?) = w0.map some) (hnd : va_nd isC = true) (hst : stk = As.reverse ++ st) (hn : As.length = cnt) (hcat : (st.map fun v => v.category).sum ≤ 8) (hdg : decode cc pc = .ok (.invokestatic idx, 3)) (hkn : k ≤ R.cells ∧ n ≤ R.slots) (hF : fy.bind kf = some o) (kk : ∀ r, fy = some r → kf r = some o → aT p l e R s m args below meth c Q D A nL k n (pc + 3) lv (.int (gv r) :: st) ws) : aT p l e R s m args below meth c Q D A nL k n pc lv stk ws := by
  obtain ⟨r, h1, hF⟩ := bd hF
  subst hst
  intro H locs ls hP hD hS hl
  have hPc0 := hP
  have hKc := C.2.1.1
  have hPc : va_P D vwCl w0 H := hP.sub isC (w_filt hC)
  have hDc : va_D A w0 := hD.sub isC hnd hC
  have hFc := va_free (wc := w0) hD hS C.2.2.2 isC hC
  refine va_calli (va_runS (As := As) (rest := st) C.1 (hM r h1 H.size) (va_cwS cnt C.1.2.2.2.2 hG rfl hrm.1 hrm.2 hd hR) ⟨aPc_blind, fun U hU hW => ⟨rfl, by rw [hU], by rw [hU]; exact hPc, C.2.1.warm hW, hDc.weaken (fun _ _ _ _ => trivial)⟩⟩ rfl hn hl.1 rfl (lv_room hcat) hdg ⟨by simpa using hkn.1, by simpa using hkn.2⟩) hS (fun q _ h => hFc q h) hFc (fun rv u t H1 locs1 ht hvm hw hB hz1 hk1 hS => ?_)
  obtain ⟨hP1, -⟩ := hB
  rw [ht] at hP1
  rw [show rv = gv r from hw]
  exact kk r h1 hF H1 locs1 ls (w_keep isC hP hD hC hk1 hP1) hD hS hl
theorem a_callSi (C : aC p s m args meth c cc nL own WW D tys A) {ρ α : Type} {o : α} {fy : Option ρ} {kf : ρ → Option α} {y : MethodName} {b : ByteArray} {mL : Nat} {ret : Option FieldType} {rm : Room} {idx : Nat} {As stk : List Value} {w0 : va_W} {gv : ρ → Int32} {gw : ρ → va_W} (cnt : Nat) (isC : List Nat) (hG : GoodIn WW (va_wsS own idx y (aW y b mL ret))) (hd : y.cls ≠ "java/lang/invoke/MethodHandle" ∧ y.cls ≠ "java/lang/invoke/VarHandle" ∧ (parseMethodDescriptor y.desc).map (fun d => d.parameters.length) = some cnt) (hrm : rm.cells = 0 ∧ rm.slots = 0) (hR : rm.frames + 1 ≤ R.frames ∧ 8 + (mL + 11) + rm.locals ≤ R.locals) (hM : ∀ r, fy = some r → aKi l y (aW y b mL ret) rm D tys (As) w0 gv gw r) (hC : isC.map (fun i => ws[i]?) = w0.map some) (hA : ∀ r, (gw r).map Prod.fst = w0.map Prod.fst) (hnd : va_nd isC = true) (hst : stk = As.reverse ++ st) (hn : As.length = cnt) (hcat : (st.map fun v => v.category).sum ≤ 8) (hdg : decode cc pc = .ok (.invokestatic idx, 3)) (hkn : k ≤ R.cells ∧ n ≤ R.slots) (hF : fy.bind kf = some o) (kk : ∀ r, fy = some r → kf r = some o → aT p l e R s m args below meth c Q D A nL k n (pc + 3) lv (.int (gv r) :: st) (wset ws isC (gw r))) : aT p l e R s m args below meth c Q D A nL k n pc lv stk ws := by
  obtain ⟨r, h1, hF⟩ := bd hF
  subst hst
  intro H locs ls hP hD hS hl
  have hPc0 := hP
  have hKc := C.2.1.1
  have hPc : va_P D vwCl w0 H := hP.sub isC (w_filt hC)
  have hDc : va_D A w0 := hD.sub isC hnd hC
  have hFc := va_free (wc := w0) hD hS C.2.2.2 isC hC
  refine va_calli (va_runS (As := As) (rest := st) C.1 (hM r h1 H.size) (va_cwS cnt C.1.2.2.2.2 hG rfl hrm.1 hrm.2 hd hR) ⟨aPc_blind, fun U hU hW => ⟨rfl, by rw [hU], by rw [hU]; exact hPc, C.2.1.warm hW, hDc.weaken (fun _ _ _ _ => trivial)⟩⟩ rfl hn hl.1 rfl (lv_room hcat) hdg ⟨by simpa using hkn.1, by simpa using hkn.2⟩) hS (fun q _ h => hFc q h) hFc (fun rv u t H1 locs1 ht hvm hw hB hz1 hk1 hS => ?_)
  obtain ⟨hP1, -⟩ := hB
  rw [ht] at hP1
  rw [show rv = gv r from hw]
  obtain ⟨hP, hD⟩ := w_join isC hP hD hC (hA r) hnd hk1 hP1
  exact kk r h1 hF H1 locs1 ls hP hD hS hl
theorem a_callSvr (C : aC p s m args meth c cc nL own WW D tys A) {ρ α : Type} {o : α} {fy : Option ρ} {kf : ρ → Option α} {y : MethodName} {b : ByteArray} {mL : Nat} {ret : Option FieldType} {rm : Room} {idx : Nat} {As stk : List Value} {w0 : va_W} (cnt : Nat) (isC : List Nat) (hG : GoodIn WW (va_wsS own idx y (aW y b mL ret))) (hd : y.cls ≠ "java/lang/invoke/MethodHandle" ∧ y.cls ≠ "java/lang/invoke/VarHandle" ∧ (parseMethodDescriptor y.desc).map (fun d => d.parameters.length) = some cnt) (hrm : rm.cells = 0 ∧ rm.slots = 0) (hR : rm.frames + 1 ≤ R.frames ∧ 8 + (mL + 11) + rm.locals ≤ R.locals) (hM : ∀ r, fy = some r → aKv l y (aW y b mL ret) rm D tys (As) w0 (fun _ => w0) r) (hC : isC.map (fun i => ws[i]?) = w0.map some) (hnd : va_nd isC = true) (hst : stk = As.reverse ++ st) (hn : As.length = cnt) (hcat : (st.map fun v => v.category).sum ≤ 8) (hdg : decode cc pc = .ok (.invokestatic idx, 3)) (hkn : k ≤ R.cells ∧ n ≤ R.slots) (hF : fy.bind kf = some o) (kk : ∀ r, fy = some r → kf r = some o → aT p l e R s m args below meth c Q D A nL k n (pc + 3) lv (st) ws) : aT p l e R s m args below meth c Q D A nL k n pc lv stk ws := by
  obtain ⟨r, h1, hF⟩ := bd hF
  subst hst
  intro H locs ls hP hD hS hl
  have hPc0 := hP
  have hKc := C.2.1.1
  have hPc : va_P D vwCl w0 H := hP.sub isC (w_filt hC)
  have hDc : va_D A w0 := hD.sub isC hnd hC
  have hFc := va_free (wc := w0) hD hS C.2.2.2 isC hC
  refine va_callv (va_runS (As := As) (rest := st) C.1 (hM r h1 H.size) (va_cwS cnt C.1.2.2.2.2 hG rfl hrm.1 hrm.2 hd hR) ⟨aPc_blind, fun U hU hW => ⟨rfl, by rw [hU], by rw [hU]; exact hPc, C.2.1.warm hW, hDc.weaken (fun _ _ _ _ => trivial)⟩⟩ rfl hn hl.1 rfl (lv_room hcat) hdg ⟨by simpa using hkn.1, by simpa using hkn.2⟩) hS (fun q _ h => hFc q h) hFc (fun u t H1 locs1 ht hvm hw hB hz1 hk1 hS => ?_)
  obtain ⟨hP1, -⟩ := hB
  rw [ht] at hP1
  exact kk r h1 hF H1 locs1 ls (w_keep isC hP hD hC hk1 hP1) hD hS hl
theorem a_callSv (C : aC p s m args meth c cc nL own WW D tys A) {ρ α : Type} {o : α} {fy : Option ρ} {kf : ρ → Option α} {y : MethodName} {b : ByteArray} {mL : Nat} {ret : Option FieldType} {rm : Room} {idx : Nat} {As stk : List Value} {w0 : va_W} {gw : ρ → va_W} (cnt : Nat) (isC : List Nat) (hG : GoodIn WW (va_wsS own idx y (aW y b mL ret))) (hd : y.cls ≠ "java/lang/invoke/MethodHandle" ∧ y.cls ≠ "java/lang/invoke/VarHandle" ∧ (parseMethodDescriptor y.desc).map (fun d => d.parameters.length) = some cnt) (hrm : rm.cells = 0 ∧ rm.slots = 0) (hR : rm.frames + 1 ≤ R.frames ∧ 8 + (mL + 11) + rm.locals ≤ R.locals) (hM : ∀ r, fy = some r → aKv l y (aW y b mL ret) rm D tys (As) w0 gw r) (hC : isC.map (fun i => ws[i]?) = w0.map some) (hA : ∀ r, (gw r).map Prod.fst = w0.map Prod.fst) (hnd : va_nd isC = true) (hst : stk = As.reverse ++ st) (hn : As.length = cnt) (hcat : (st.map fun v => v.category).sum ≤ 8) (hdg : decode cc pc = .ok (.invokestatic idx, 3)) (hkn : k ≤ R.cells ∧ n ≤ R.slots) (hF : fy.bind kf = some o) (kk : ∀ r, fy = some r → kf r = some o → aT p l e R s m args below meth c Q D A nL k n (pc + 3) lv (st) (wset ws isC (gw r))) : aT p l e R s m args below meth c Q D A nL k n pc lv stk ws := by
  obtain ⟨r, h1, hF⟩ := bd hF
  subst hst
  intro H locs ls hP hD hS hl
  have hPc0 := hP
  have hKc := C.2.1.1
  have hPc : va_P D vwCl w0 H := hP.sub isC (w_filt hC)
  have hDc : va_D A w0 := hD.sub isC hnd hC
  have hFc := va_free (wc := w0) hD hS C.2.2.2 isC hC
  refine va_callv (va_runS (As := As) (rest := st) C.1 (hM r h1 H.size) (va_cwS cnt C.1.2.2.2.2 hG rfl hrm.1 hrm.2 hd hR) ⟨aPc_blind, fun U hU hW => ⟨rfl, by rw [hU], by rw [hU]; exact hPc, C.2.1.warm hW, hDc.weaken (fun _ _ _ _ => trivial)⟩⟩ rfl hn hl.1 rfl (lv_room hcat) hdg ⟨by simpa using hkn.1, by simpa using hkn.2⟩) hS (fun q _ h => hFc q h) hFc (fun u t H1 locs1 ht hvm hw hB hz1 hk1 hS => ?_)
  obtain ⟨hP1, -⟩ := hB
  rw [ht] at hP1
  obtain ⟨hP, hD⟩ := w_join isC hP hD hC (hA r) hnd hk1 hP1
  exact kk r h1 hF H1 locs1 ls hP hD hS hl
theorem a_callN (C : aC p s m args meth c cc nL own WW D tys A) {ρ α : Type} {o : α} {fy : Option ρ} {kf : ρ → Option α} {y : MethodName} {b : ByteArray} {mL : Nat} {ret : Option FieldType} {rm : Room} {idx : Nat} {host : String} {As stk : List Value} {gv : ρ → Int32} (cnt : Nat) (hG : GoodIn WW (aW y b mL ret)) (hs : Cond.static y ∈ WW) (hi : Cond.initialized y.cls ∈ WW) (hl0 : va_Nw (.methodLinkNest own idx y host) s) (hd : y.cls ≠ "java/lang/invoke/MethodHandle" ∧ y.cls ≠ "java/lang/invoke/VarHandle" ∧ (parseMethodDescriptor y.desc).map (fun d => d.parameters.length) = some cnt) (hrm : rm.cells = 0 ∧ rm.slots = 0) (hR : rm.frames + 1 ≤ R.frames ∧ 8 + (mL + 11) + rm.locals ≤ R.locals) (hM : ∀ r, fy = some r → aKi l y (aW y b mL ret) rm D tys As [] gv (fun _ => []) r) (hst : stk = As.reverse ++ st) (hn : As.length = cnt) (hcat : (st.map fun v => v.category).sum ≤ 8) (hdg : decode cc pc = .ok (.invokestatic idx, 3)) (hkn : k ≤ R.cells ∧ n ≤ R.slots) (hF : fy.bind kf = some o) (kk : ∀ r, fy = some r → kf r = some o → aT p l e R s m args below meth c Q D A nL k n (pc + 3) lv (.int (gv r) :: st) ws) : aT p l e R s m args below meth c Q D A nL k n pc lv stk ws := by
  obtain ⟨r, h1, hF⟩ := bd hF
  subst hst
  intro H locs ls hP hD hS hl
  have hPc : va_P D vwCl [] H := hP.sub [] rfl
  have hDc : va_D A [] := hD.sub [] rfl rfl
  have hFc := va_free (wc := []) hD hS C.2.2.2 [] rfl
  refine va_calli (va_runSN (As := As) (rest := st) C.1 (hM r h1 H.size) ⟨va_cnB cnt C.1.2.2.2.2 hG rfl hrm.1 hrm.2 hl0 (C.1.2.2.2.2 _ hi) hd hR, C.1.2.2.2.2 _ hs, trivial⟩ ⟨aPc_blind, fun U hU hW => ⟨rfl, by rw [hU], by rw [hU]; exact hPc, C.2.1.warm hW, hDc.weaken (fun _ _ _ _ => trivial)⟩⟩ rfl hn hl.1 rfl (lv_room hcat) hdg ⟨by simpa using hkn.1, by simpa using hkn.2⟩) hS (fun q _ h => hFc q h) hFc (fun rv u t H1 locs1 ht hvm hw hB hz1 hk1 hS => ?_)
  obtain ⟨hP1, -⟩ := hB
  rw [ht] at hP1
  rw [show rv = gv r from hw]
  exact kk r h1 hF H1 locs1 ls (w_keep (w0 := []) [] hP hD rfl hk1 hP1) hD hS hl
theorem a_mmax (C : aC p s m args meth c cc nL own WW D tys A) {idx : Nat} {x y : Int32} (hlink : Cond.methodLink own idx Lib.Math.max.name ∈ WW) (hstat : Cond.static Lib.Math.max.name ∈ WW) (hini : Cond.initialized "java/lang/Math" ∈ WW) (hcode : Cond.code Lib.Math.max.name Lib.Math.max.code 2 (some .int) ∈ WW) (hR : 1 ≤ R.frames ∧ (st.map fun v => v.category).sum + 13 ≤ R.locals) (hkn : k ≤ R.cells ∧ n ≤ R.slots) (hdg : decode cc pc = .ok (.invokestatic idx, 3)) (kk : aT p l e R s m args below meth c Q D A nL k n (pc + 3) lv (.int (if x < y then y else x) :: st) ws) : aT p l e R s m args below meth c Q D A nL k n pc lv (.int y :: .int x :: st) ws := fun H locs ls hP hD hS hl => va_mmax C.1.1 C.1.2.1 (C.1.2.2.1.trans hl.1.symm) C.1.2.2.2.1 (C.1.2.2.2.2 _ hlink) (C.1.2.2.2.2 _ hstat) (C.1.2.2.2.2 _ hini) (C.1.2.2.2.2 _ hcode) hR.1 hR.2 hkn.1 hkn.2 hdg (kk H locs ls hP hD hS hl)
theorem a_mmin (C : aC p s m args meth c cc nL own WW D tys A) {idx : Nat} {x y : Int32} (hlink : Cond.methodLink own idx Lib.Math.min.name ∈ WW) (hstat : Cond.static Lib.Math.min.name ∈ WW) (hini : Cond.initialized "java/lang/Math" ∈ WW) (hcode : Cond.code Lib.Math.min.name Lib.Math.min.code 2 (some .int) ∈ WW) (hR : 1 ≤ R.frames ∧ (st.map fun v => v.category).sum + 13 ≤ R.locals) (hkn : k ≤ R.cells ∧ n ≤ R.slots) (hdg : decode cc pc = .ok (.invokestatic idx, 3)) (kk : aT p l e R s m args below meth c Q D A nL k n (pc + 3) lv (.int (if y < x then y else x) :: st) ws) : aT p l e R s m args below meth c Q D A nL k n pc lv (.int y :: .int x :: st) ws := fun H locs ls hP hD hS hl => va_mmin C.1.1 C.1.2.1 (C.1.2.2.1.trans hl.1.symm) C.1.2.2.2.1 (C.1.2.2.2.2 _ hlink) (C.1.2.2.2.2 _ hstat) (C.1.2.2.2.2 _ hini) (C.1.2.2.2.2 _ hcode) hR.1 hR.2 hkn.1 hkn.2 hdg (kk H locs ls hP hD hS hl)
/-- switches -/
theorem a_tsout (C : aC p s m args meth c cc nL own WW D tys A) {x : Int32} {dflt lo1 hi1 : Int} {offs : Array Int} {len : Nat} {lo hi : Int32} {tgt : Nat} {α : Type} {o : α} {f g : Option α} {d : Decidable (x < lo ∨ hi < x)} (hdg : decode cc pc = .ok (.tableswitch dflt lo1 hi1 offs, len)) (hlo : lo.toInt = lo1) (hhi : hi.toInt = hi1) (ht : (pc : Int) + dflt = (tgt : Int)) (hF : (if x < lo ∨ hi < x then f else g) = some o) (kt : x < lo ∨ hi < x → f = some o → aT p l e R s m args below meth c Q D A nL k n tgt lv st ws) (kf : ¬ (x < lo ∨ hi < x) → g = some o → aT p l e R s m args below meth c Q D A nL k n pc lv (.int x :: st) ws) : aT p l e R s m args below meth c Q D A nL k n pc lv (.int x :: st) ws := by
  by_cases h : x < lo ∨ hi < x
  · intro H locs ls hP hD hS hl
    refine lv_tableOut C.1.1 C.1.2.1 hdg ?_ ht (kt h ((if_pos h).symm.trans hF) H locs ls hP hD hS hl)
    rw [← hlo, ← hhi]
    exact h.imp Int32.lt_iff_toInt_lt.mp Int32.lt_iff_toInt_lt.mp
  · exact kf h ((if_neg h).symm.trans hF)
theorem a_tscase (C : aC p s m args meth c cc nL own WW D tys A) {x v : Int32} {dflt lo1 hi1 off : Int} {offs : Array Int} {len tgt : Nat} {α : Type} {o : α} {f g : Option α} {d : Decidable (x = v)} (hdg : decode cc pc = .ok (.tableswitch dflt lo1 hi1 offs, len)) (h1 : ¬ v.toInt < lo1) (h2 : ¬ hi1 < v.toInt) (ho : offs[(v.toInt - lo1).toNat]? = some off) (ht : (pc : Int) + off = (tgt : Int)) (hF : (if x = v then f else g) = some o) (kt : x = v → f = some o → aT p l e R s m args below meth c Q D A nL k n tgt lv st ws) (kf : ¬ x = v → g = some o → aT p l e R s m args below meth c Q D A nL k n pc lv (.int x :: st) ws) : aT p l e R s m args below meth c Q D A nL k n pc lv (.int x :: st) ws := by
  by_cases h : x = v
  · intro H locs ls hP hD hS hl
    have h3 := kt h ((if_pos h).symm.trans hF) H locs ls hP hD hS hl
    subst h
    exact lv_tableIn C.1.1 C.1.2.1 hdg h1 h2 ho ht h3
  · exact kf h ((if_neg h).symm.trans hF)
theorem a_lkcase (C : aC p s m args meth c cc nL own WW D tys A) {x v : Int32} {dflt off : Int} {ps : Array (Int × Int)} {len tgt : Nat} {α : Type} {o : α} {f g : Option α} {d : Decidable (x = v)} (hdg : decode cc pc = .ok (.lookupswitch dflt ps, len)) (hp : (ps.toList.zip (ps.toList.drop 1)).all (fun (a, next) => a.1 < next.1) = true) (ho : Op.lookupswitch.offset ps.toList dflt v.toInt = off) (ht : (pc : Int) + off = (tgt : Int)) (hF : (if x = v then f else g) = some o) (kt : x = v → f = some o → aT p l e R s m args below meth c Q D A nL k n tgt lv st ws) (kf : ¬ x = v → g = some o → aT p l e R s m args below meth c Q D A nL k n pc lv (.int x :: st) ws) : aT p l e R s m args below meth c Q D A nL k n pc lv (.int x :: st) ws := by
  by_cases h : x = v
  · intro H locs ls hP hD hS hl
    have h3 := kt h ((if_pos h).symm.trans hF) H locs ls hP hD hS hl
    subst h
    exact lv_lookup C.1.1 C.1.2.1 hdg hp ho ht h3
  · exact kf h ((if_neg h).symm.trans hF)
theorem a_lkdef (C : aC p s m args meth c cc nL own WW D tys A) {x : Int32} {dflt off : Int} {ps : Array (Int × Int)} {len tgt : Nat} (hdg : decode cc pc = .ok (.lookupswitch dflt ps, len)) (hp : (ps.toList.zip (ps.toList.drop 1)).all (fun (a, next) => a.1 < next.1) = true) (ho : Op.lookupswitch.offset ps.toList dflt x.toInt = off) (ht : (pc : Int) + off = (tgt : Int)) (kk : aT p l e R s m args below meth c Q D A nL k n tgt lv st ws) : aT p l e R s m args below meth c Q D A nL k n pc lv (.int x :: st) ws := fun H locs ls hP hD hS hl => lv_lookup C.1.1 C.1.2.1 hdg hp ho ht (kk H locs ls hP hD hS hl)
theorem a_rz {α : Type} {o : α} {kf : Int32 → Option α} {x : Int32} {G : Prop} (hF : (rz x).bind kf = some o) (kk : narrow .boolean (.int x) = .int x → kf x = some o → G) : G := by
  obtain ⟨v, h1, h3⟩ := bd hF
  obtain ⟨hi, e⟩ := chk2 h1
  rw [e] at h3
  refine kk ?_ h3
  rcases hi with rfl | rfl <;> rfl
theorem a_rc {α : Type} {o : α} {kf : Int32 → Option α} {x : Int32} {G : Prop} (hF : (rc x).bind kf = some o) (kk : narrow .char (.int x) = .int x → kf x = some o → G) : G := by
  obtain ⟨v, h1, h3⟩ := bd hF
  obtain ⟨hi, e⟩ := chk2 h1
  rw [e] at h3
  refine kk ?_ h3
  unfold vp_nar at hi
  exact congrArg Value.int hi
theorem a_iret {ρ : Type} {gv : ρ → Int32} {gw : ρ → va_W} {rv res : ρ} {w0 : va_W} {ty : FieldType} {v : Int32} (C : aC p s m args meth c cc nL own WW D tys (va_A w0 s.heap.size)) (hr : meth.sig.returnType = some ty) (hn : narrow ty (.int v) = .int v) (hdg : decode cc pc = .ok (.ireturn, 1)) (hF : some rv = some res) (hv : gv rv = v) (hw : gw rv = ws) : aT p l e R s m args below meth c (MQ below (aQi D w0 s.heap.size gv gw res) args s k n (va_A w0 s.heap.size)) D (va_A w0 s.heap.size) nL k n pc lv [.int v] ws := by
  cases hF
  subst hv
  subst hw
  exact fun H locs ls hP hD hS hl => W.zret C.1.1 C.1.2.1 hr hn (fun t ht hW => ⟨⟨_, (), rfl, rfl, by rw [ht]; exact hP, hD⟩, hS.F ht⟩) hS.2.2 hdg C.2.2.1
theorem a_vret {ρ : Type} {gw : ρ → va_W} {rv res : ρ} {w0 : va_W} (C : aC p s m args meth c cc nL own WW D tys (va_A w0 s.heap.size)) (hr : meth.sig.returnType = none) (hdg : decode cc pc = .ok (.return_, 1)) (hF : some rv = some res) (hw : gw rv = ws) : aT p l e R s m args below meth c (MQ below (aQv D w0 s.heap.size gw res) args s k n (va_A w0 s.heap.size)) D (va_A w0 s.heap.size) nL k n pc lv [] ws := by
  cases hF
  subst hw
  exact fun H locs ls hP hD hS hl => W.vret C.1.1 C.1.2.1 hr (fun t ht hW => ⟨⟨(), rfl, trivial, by rw [ht]; exact hP, hD⟩, hS.F ht⟩) hS.2.2 hdg C.2.2.1
/-- a world's cells, said in another way -/
theorem a_ws (C : aC p s m args meth c cc nL own WW D tys A) {ws' : va_W} (h : ws = ws') (kk : aT p l e R s m args below meth c Q D A nL k n pc lv st ws') : aT p l e R s m args below meth c Q D A nL k n pc lv st ws := h ▸ kk
end AR
theorem aKi_of {ρ : Type} {l : Launch} {y : MethodName} {rm : Room} {cc : ByteArray} {maxL : Nat} {ret : Option FieldType} {D : va_G} {tys : List (ClassId × FieldType)} {av : List Value} {w0 : va_W} {gv : ρ → Int32} {gw : ρ → va_W} {res : ρ} {lv : List (Nat × Value)} {own : String} (hy : plainName y.cls = true) (hown : y.cls = own) (hlen : (lg_sl av).length ≤ maxL) (hlv : lv_args 0 av = lv) (body : ∀ (p : Program) (e : Env) (s : State) (m : MethodId) (args : Array Value) (below : List Frame) (meth : Method) (c : Code), aC p s m args meth c cc maxL own WW D tys (va_A w0 s.heap.size) → meth.sig.returnType = ret → aT p l e rm s m args below meth c (MQ below (aQi D w0 s.heap.size gv gw res) args s 0 0 (va_A w0 s.heap.size)) D (va_A w0 s.heap.size) maxL 0 0 0 lv [] w0) : aKi l y (aW y cc maxL ret) rm D tys av w0 gv gw res := by
  intro sz
  refine Met.ofW hy rfl ?_
  intro p e s m args below meth c s₁ B hml hv
  obtain ⟨rfl, hsz, hP, hU, hD0⟩ := hv
  subst hsz
  have hl := lv_entry av hlen
  rw [lg_entry_eq]
  have hts := atoms_spec (ws := aW y cc maxL ret) B.pre
  have hfc := findClass_of_methodNamed B.named
  rw [hown] at hfc
  rw [hlv] at hl
  exact body p e s m _ below meth c ⟨⟨B.exec, B.bytes, hml, hfc, fun w hw => hts w (List.mem_cons_of_mem _ hw)⟩, hU, B.notSynchronized, fun q h => Or.inr h⟩ B.returns s.heap [] _ hP hD0.self va_S.rf hl
theorem aKv_of {ρ : Type} {l : Launch} {y : MethodName} {rm : Room} {cc : ByteArray} {maxL : Nat} {ret : Option FieldType} {D : va_G} {tys : List (ClassId × FieldType)} {av : List Value} {w0 : va_W} {gw : ρ → va_W} {res : ρ} {lv : List (Nat × Value)} {own : String} (hy : plainName y.cls = true) (hown : y.cls = own) (hlen : (lg_sl av).length ≤ maxL) (hlv : lv_args 0 av = lv) (body : ∀ (p : Program) (e : Env) (s : State) (m : MethodId) (args : Array Value) (below : List Frame) (meth : Method) (c : Code), aC p s m args meth c cc maxL own WW D tys (va_A w0 s.heap.size) → meth.sig.returnType = ret → aT p l e rm s m args below meth c (MQ below (aQv D w0 s.heap.size gw res) args s 0 0 (va_A w0 s.heap.size)) D (va_A w0 s.heap.size) maxL 0 0 0 lv [] w0) : aKv l y (aW y cc maxL ret) rm D tys av w0 gw res := by
  intro sz
  refine Met.ofW hy rfl ?_
  intro p e s m args below meth c s₁ B hml hv
  obtain ⟨rfl, hsz, hP, hU, hD0⟩ := hv
  subst hsz
  have hl := lv_entry av hlen
  rw [lg_entry_eq]
  have hts := atoms_spec (ws := aW y cc maxL ret) B.pre
  have hfc := findClass_of_methodNamed B.named
  rw [hown] at hfc
  rw [hlv] at hl
  exact body p e s m _ below meth c ⟨⟨B.exec, B.bytes, hml, hfc, fun w hw => hts w (List.mem_cons_of_mem _ hw)⟩, hU, B.notSynchronized, fun q h => Or.inr h⟩ B.returns s.heap [] _ hP hD0.self va_S.rf hl
def aTy (kc ki kb kl kd : ClassId) : List (ClassId × FieldType) := [(kc, .char), (ki, .int), (kb, .object RX0), (kl, .long), (kd, .double)]
abbrev wX0 (kc ki : ClassId) (t t_letters t_sizes : Nat) (t_lettersF t_sizesF : Nat → Int32) (t_lines : Int32) : va_W := [(t, .inr (0, [.ref t_letters, .ref t_sizes, .int t_lines])), (t_letters, .inl (kc, 80, .inl t_lettersF)), (t_sizes, .inl (ki, 8, .inl t_sizesF))]
abbrev wX3 (ki : ClassId) (t t_lines t_places t_commons : Nat) (t_linesF t_placesF t_commonsF : Nat → Int32) (t_endings : Int32) : va_W := [(t, .inr (2, [.ref t_lines, .ref t_places, .ref t_commons, .int t_endings])), (t_lines, .inl (ki, 80, .inl t_linesF)), (t_places, .inl (ki, 80, .inl t_placesF)), (t_commons, .inl (ki, 80, .inl t_commonsF))]
abbrev wX6 (ki : ClassId) (t t_reasons t_details : Nat) (t_reasonsF t_detailsF : Nat → Int32) (t_count : Int32) : va_W := [(t, .inr (4, [.ref t_reasons, .ref t_details, .int t_count])), (t_reasons, .inl (ki, 3, .inl t_reasonsF)), (t_details, .inl (ki, 3, .inl t_detailsF))]
abbrev wX7 (kc : ClassId) (t t_characters : Nat) (t_charactersF : Nat → Int32) (t_length : Int32) : va_W := [(t, .inr (5, [.ref t_characters, .int t_length])), (t_characters, .inl (kc, 60, .inl t_charactersF))]
abbrev wX9 (kc ki : ClassId) (t t_all t_reasons t_text t_word t_order t_rows t_written : Nat) (t_allF t_reasonsF t_textF t_wordF t_orderF t_rowsF t_writtenF : Nat → Int32) (t_thrown t_changes t_isSaved t_result t_texted t_wordSize t_orderMany t_here t_fault t_faultAt t_commandMany t_writtenSize : Int32) : va_W := [(t, .inr (7, [.int t_thrown, .ref t_all, .int t_changes, .int t_isSaved, .int t_result, .ref t_reasons, .ref t_text, .int t_texted, .ref t_word, .int t_wordSize, .ref t_order, .int t_orderMany, .int t_here, .int t_fault, .int t_faultAt, .ref t_rows, .int t_commandMany, .ref t_written, .int t_writtenSize])), (t_all, .inl (ki, 979, .inl t_allF)), (t_reasons, .inl (ki, 6, .inl t_reasonsF)), (t_text, .inl (kc, 60, .inl t_textF)), (t_word, .inl (ki, 10, .inl t_wordF)), (t_order, .inl (ki, 80, .inl t_orderF)), (t_rows, .inl (ki, 244, .inl t_rowsF)), (t_written, .inl (kc, 20, .inl t_writtenF))]
end
section
/-! decode rows (printed, given for pasting) -/
theorem dX0_init_0 : decode cX0_init 0 = .ok (.aload_n 0, 1) := by decide +kernel
theorem dX0_init_1 : decode cX0_init 1 = .ok (.invokespecial 3, 3) := by decide +kernel
theorem dX0_init_4 : decode cX0_init 4 = .ok (.aload_n 0, 1) := by decide +kernel
theorem dX0_init_5 : decode cX0_init 5 = .ok (.bipush 80, 2) := by decide +kernel
theorem dX0_init_7 : decode cX0_init 7 = .ok (.newarray .char, 2) := by decide +kernel
theorem dX0_init_9 : decode cX0_init 9 = .ok (.putfield 9, 3) := by decide +kernel
theorem dX0_init_12 : decode cX0_init 12 = .ok (.aload_n 0, 1) := by decide +kernel
theorem dX0_init_13 : decode cX0_init 13 = .ok (.bipush 8, 2) := by decide +kernel
theorem dX0_init_15 : decode cX0_init 15 = .ok (.newarray .int, 2) := by decide +kernel
theorem dX0_init_17 : decode cX0_init 17 = .ok (.putfield 15, 3) := by decide +kernel
theorem dX0_init_20 : decode cX0_init 20 = .ok (.aload_n 0, 1) := by decide +kernel
theorem dX0_init_21 : decode cX0_init 21 = .ok (.iconst 0, 1) := by decide +kernel
theorem dX0_init_22 : decode cX0_init 22 = .ok (.putfield 19, 3) := by decide +kernel
theorem dX0_init_25 : decode cX0_init 25 = .ok (.return_, 1) := by decide +kernel
theorem dX0_lines_0 : decode cX0_lines 0 = .ok (.aload_n 0, 1) := by decide +kernel
theorem dX0_lines_1 : decode cX0_lines 1 = .ok (.getfield 19, 3) := by decide +kernel
theorem dX0_lines_4 : decode cX0_lines 4 = .ok (.ireturn, 1) := by decide +kernel
theorem dX0_hasLine_0 : decode cX0_hasLine 0 = .ok (.iload_n 1, 1) := by decide +kernel
theorem dX0_hasLine_1 : decode cX0_hasLine 1 = .ok (.ifCond .lt 15, 3) := by decide +kernel
theorem dX0_hasLine_4 : decode cX0_hasLine 4 = .ok (.iload_n 1, 1) := by decide +kernel
theorem dX0_hasLine_5 : decode cX0_hasLine 5 = .ok (.aload_n 0, 1) := by decide +kernel
theorem dX0_hasLine_6 : decode cX0_hasLine 6 = .ok (.getfield 19, 3) := by decide +kernel
theorem dX0_hasLine_9 : decode cX0_hasLine 9 = .ok (.if_icmp .ge 7, 3) := by decide +kernel
theorem dX0_hasLine_12 : decode cX0_hasLine 12 = .ok (.iconst 1, 1) := by decide +kernel
theorem dX0_hasLine_13 : decode cX0_hasLine 13 = .ok (.goto 4, 3) := by decide +kernel
theorem dX0_hasLine_16 : decode cX0_hasLine 16 = .ok (.iconst 0, 1) := by decide +kernel
theorem dX0_hasLine_17 : decode cX0_hasLine 17 = .ok (.ireturn, 1) := by decide +kernel
theorem dX0_hasPlace_0 : decode cX0_hasPlace 0 = .ok (.iload_n 1, 1) := by decide +kernel
theorem dX0_hasPlace_1 : decode cX0_hasPlace 1 = .ok (.ifCond .lt 29, 3) := by decide +kernel
theorem dX0_hasPlace_4 : decode cX0_hasPlace 4 = .ok (.iload_n 1, 1) := by decide +kernel
theorem dX0_hasPlace_5 : decode cX0_hasPlace 5 = .ok (.aload_n 0, 1) := by decide +kernel
theorem dX0_hasPlace_6 : decode cX0_hasPlace 6 = .ok (.getfield 19, 3) := by decide +kernel
theorem dX0_hasPlace_9 : decode cX0_hasPlace 9 = .ok (.if_icmp .ge 21, 3) := by decide +kernel
theorem dX0_hasPlace_12 : decode cX0_hasPlace 12 = .ok (.iload_n 2, 1) := by decide +kernel
theorem dX0_hasPlace_13 : decode cX0_hasPlace 13 = .ok (.ifCond .lt 17, 3) := by decide +kernel
theorem dX0_hasPlace_16 : decode cX0_hasPlace 16 = .ok (.iload_n 2, 1) := by decide +kernel
theorem dX0_hasPlace_17 : decode cX0_hasPlace 17 = .ok (.aload_n 0, 1) := by decide +kernel
theorem dX0_hasPlace_18 : decode cX0_hasPlace 18 = .ok (.getfield 15, 3) := by decide +kernel
theorem dX0_hasPlace_21 : decode cX0_hasPlace 21 = .ok (.iload_n 1, 1) := by decide +kernel
theorem dX0_hasPlace_22 : decode cX0_hasPlace 22 = .ok (.iaload, 1) := by decide +kernel
theorem dX0_hasPlace_23 : decode cX0_hasPlace 23 = .ok (.if_icmp .ge 7, 3) := by decide +kernel
theorem dX0_hasPlace_26 : decode cX0_hasPlace 26 = .ok (.iconst 1, 1) := by decide +kernel
theorem dX0_hasPlace_27 : decode cX0_hasPlace 27 = .ok (.goto 4, 3) := by decide +kernel
theorem dX0_hasPlace_30 : decode cX0_hasPlace 30 = .ok (.iconst 0, 1) := by decide +kernel
theorem dX0_hasPlace_31 : decode cX0_hasPlace 31 = .ok (.ireturn, 1) := by decide +kernel
theorem dX0_size_0 : decode cX0_size 0 = .ok (.aload_n 0, 1) := by decide +kernel
theorem dX0_size_1 : decode cX0_size 1 = .ok (.iload_n 1, 1) := by decide +kernel
theorem dX0_size_2 : decode cX0_size 2 = .ok (.invokevirtual 23, 3) := by decide +kernel
theorem dX0_size_5 : decode cX0_size 5 = .ok (.ifCond .eq 12, 3) := by decide +kernel
theorem dX0_size_8 : decode cX0_size 8 = .ok (.aload_n 0, 1) := by decide +kernel
theorem dX0_size_9 : decode cX0_size 9 = .ok (.getfield 15, 3) := by decide +kernel
theorem dX0_size_12 : decode cX0_size 12 = .ok (.iload_n 1, 1) := by decide +kernel
theorem dX0_size_13 : decode cX0_size 13 = .ok (.iaload, 1) := by decide +kernel
theorem dX0_size_14 : decode cX0_size 14 = .ok (.goto 4, 3) := by decide +kernel
theorem dX0_size_17 : decode cX0_size 17 = .ok (.iconst 0, 1) := by decide +kernel
theorem dX0_size_18 : decode cX0_size 18 = .ok (.ireturn, 1) := by decide +kernel
theorem dX0_letterAt_0 : decode cX0_letterAt 0 = .ok (.aload_n 0, 1) := by decide +kernel
theorem dX0_letterAt_1 : decode cX0_letterAt 1 = .ok (.iload_n 1, 1) := by decide +kernel
theorem dX0_letterAt_2 : decode cX0_letterAt 2 = .ok (.iload_n 2, 1) := by decide +kernel
theorem dX0_letterAt_3 : decode cX0_letterAt 3 = .ok (.invokevirtual 27, 3) := by decide +kernel
theorem dX0_letterAt_6 : decode cX0_letterAt 6 = .ok (.ifCond .eq 17, 3) := by decide +kernel
theorem dX0_letterAt_9 : decode cX0_letterAt 9 = .ok (.aload_n 0, 1) := by decide +kernel
theorem dX0_letterAt_10 : decode cX0_letterAt 10 = .ok (.getfield 9, 3) := by decide +kernel
theorem dX0_letterAt_13 : decode cX0_letterAt 13 = .ok (.iload_n 1, 1) := by decide +kernel
theorem dX0_letterAt_14 : decode cX0_letterAt 14 = .ok (.bipush 10, 2) := by decide +kernel
theorem dX0_letterAt_16 : decode cX0_letterAt 16 = .ok (.imul, 1) := by decide +kernel
theorem dX0_letterAt_17 : decode cX0_letterAt 17 = .ok (.iload_n 2, 1) := by decide +kernel
theorem dX0_letterAt_18 : decode cX0_letterAt 18 = .ok (.iadd, 1) := by decide +kernel
theorem dX0_letterAt_19 : decode cX0_letterAt 19 = .ok (.caload, 1) := by decide +kernel
theorem dX0_letterAt_20 : decode cX0_letterAt 20 = .ok (.goto 4, 3) := by decide +kernel
theorem dX0_letterAt_23 : decode cX0_letterAt 23 = .ok (.iconst 0, 1) := by decide +kernel
theorem dX0_letterAt_24 : decode cX0_letterAt 24 = .ok (.ireturn, 1) := by decide +kernel
theorem dX0_setLetter_0 : decode cX0_setLetter 0 = .ok (.aload_n 0, 1) := by decide +kernel
theorem dX0_setLetter_1 : decode cX0_setLetter 1 = .ok (.iload_n 1, 1) := by decide +kernel
theorem dX0_setLetter_2 : decode cX0_setLetter 2 = .ok (.iload_n 2, 1) := by decide +kernel
theorem dX0_setLetter_3 : decode cX0_setLetter 3 = .ok (.invokevirtual 27, 3) := by decide +kernel
theorem dX0_setLetter_6 : decode cX0_setLetter 6 = .ok (.ifCond .eq 15, 3) := by decide +kernel
theorem dX0_setLetter_9 : decode cX0_setLetter 9 = .ok (.aload_n 0, 1) := by decide +kernel
theorem dX0_setLetter_10 : decode cX0_setLetter 10 = .ok (.getfield 9, 3) := by decide +kernel
theorem dX0_setLetter_13 : decode cX0_setLetter 13 = .ok (.iload_n 1, 1) := by decide +kernel
theorem dX0_setLetter_14 : decode cX0_setLetter 14 = .ok (.bipush 10, 2) := by decide +kernel
theorem dX0_setLetter_16 : decode cX0_setLetter 16 = .ok (.imul, 1) := by decide +kernel
theorem dX0_setLetter_17 : decode cX0_setLetter 17 = .ok (.iload_n 2, 1) := by decide +kernel
theorem dX0_setLetter_18 : decode cX0_setLetter 18 = .ok (.iadd, 1) := by decide +kernel
theorem dX0_setLetter_19 : decode cX0_setLetter 19 = .ok (.iload_n 3, 1) := by decide +kernel
theorem dX0_setLetter_20 : decode cX0_setLetter 20 = .ok (.castore, 1) := by decide +kernel
theorem dX0_setLetter_21 : decode cX0_setLetter 21 = .ok (.return_, 1) := by decide +kernel
theorem dX0_openLine_0 : decode cX0_openLine 0 = .ok (.aload_n 0, 1) := by decide +kernel
theorem dX0_openLine_1 : decode cX0_openLine 1 = .ok (.getfield 19, 3) := by decide +kernel
theorem dX0_openLine_4 : decode cX0_openLine 4 = .ok (.bipush 8, 2) := by decide +kernel
theorem dX0_openLine_6 : decode cX0_openLine 6 = .ok (.if_icmp .ge 23, 3) := by decide +kernel
theorem dX0_openLine_9 : decode cX0_openLine 9 = .ok (.aload_n 0, 1) := by decide +kernel
theorem dX0_openLine_10 : decode cX0_openLine 10 = .ok (.getfield 15, 3) := by decide +kernel
theorem dX0_openLine_13 : decode cX0_openLine 13 = .ok (.aload_n 0, 1) := by decide +kernel
theorem dX0_openLine_14 : decode cX0_openLine 14 = .ok (.getfield 19, 3) := by decide +kernel
theorem dX0_openLine_17 : decode cX0_openLine 17 = .ok (.iconst 0, 1) := by decide +kernel
theorem dX0_openLine_18 : decode cX0_openLine 18 = .ok (.iastore, 1) := by decide +kernel
theorem dX0_openLine_19 : decode cX0_openLine 19 = .ok (.aload_n 0, 1) := by decide +kernel
theorem dX0_openLine_20 : decode cX0_openLine 20 = .ok (.dup, 1) := by decide +kernel
theorem dX0_openLine_21 : decode cX0_openLine 21 = .ok (.getfield 19, 3) := by decide +kernel
theorem dX0_openLine_24 : decode cX0_openLine 24 = .ok (.iconst 1, 1) := by decide +kernel
theorem dX0_openLine_25 : decode cX0_openLine 25 = .ok (.iadd, 1) := by decide +kernel
theorem dX0_openLine_26 : decode cX0_openLine 26 = .ok (.putfield 19, 3) := by decide +kernel
theorem dX0_openLine_29 : decode cX0_openLine 29 = .ok (.return_, 1) := by decide +kernel
theorem dX0_putLetter_0 : decode cX0_putLetter 0 = .ok (.aload_n 0, 1) := by decide +kernel
theorem dX0_putLetter_1 : decode cX0_putLetter 1 = .ok (.iload_n 1, 1) := by decide +kernel
theorem dX0_putLetter_2 : decode cX0_putLetter 2 = .ok (.invokevirtual 23, 3) := by decide +kernel
theorem dX0_putLetter_5 : decode cX0_putLetter 5 = .ok (.ifCond .eq 38, 3) := by decide +kernel
theorem dX0_putLetter_8 : decode cX0_putLetter 8 = .ok (.aload_n 0, 1) := by decide +kernel
theorem dX0_putLetter_9 : decode cX0_putLetter 9 = .ok (.getfield 15, 3) := by decide +kernel
theorem dX0_putLetter_12 : decode cX0_putLetter 12 = .ok (.iload_n 1, 1) := by decide +kernel
theorem dX0_putLetter_13 : decode cX0_putLetter 13 = .ok (.iaload, 1) := by decide +kernel
theorem dX0_putLetter_14 : decode cX0_putLetter 14 = .ok (.bipush 10, 2) := by decide +kernel
theorem dX0_putLetter_16 : decode cX0_putLetter 16 = .ok (.if_icmp .ge 27, 3) := by decide +kernel
theorem dX0_putLetter_19 : decode cX0_putLetter 19 = .ok (.aload_n 0, 1) := by decide +kernel
theorem dX0_putLetter_20 : decode cX0_putLetter 20 = .ok (.getfield 15, 3) := by decide +kernel
theorem dX0_putLetter_23 : decode cX0_putLetter 23 = .ok (.iload_n 1, 1) := by decide +kernel
theorem dX0_putLetter_24 : decode cX0_putLetter 24 = .ok (.dup2, 1) := by decide +kernel
theorem dX0_putLetter_25 : decode cX0_putLetter 25 = .ok (.iaload, 1) := by decide +kernel
theorem dX0_putLetter_26 : decode cX0_putLetter 26 = .ok (.iconst 1, 1) := by decide +kernel
theorem dX0_putLetter_27 : decode cX0_putLetter 27 = .ok (.iadd, 1) := by decide +kernel
theorem dX0_putLetter_28 : decode cX0_putLetter 28 = .ok (.iastore, 1) := by decide +kernel
theorem dX0_putLetter_29 : decode cX0_putLetter 29 = .ok (.aload_n 0, 1) := by decide +kernel
theorem dX0_putLetter_30 : decode cX0_putLetter 30 = .ok (.iload_n 1, 1) := by decide +kernel
theorem dX0_putLetter_31 : decode cX0_putLetter 31 = .ok (.aload_n 0, 1) := by decide +kernel
theorem dX0_putLetter_32 : decode cX0_putLetter 32 = .ok (.getfield 15, 3) := by decide +kernel
theorem dX0_putLetter_35 : decode cX0_putLetter 35 = .ok (.iload_n 1, 1) := by decide +kernel
theorem dX0_putLetter_36 : decode cX0_putLetter 36 = .ok (.iaload, 1) := by decide +kernel
theorem dX0_putLetter_37 : decode cX0_putLetter 37 = .ok (.iconst 1, 1) := by decide +kernel
theorem dX0_putLetter_38 : decode cX0_putLetter 38 = .ok (.isub, 1) := by decide +kernel
theorem dX0_putLetter_39 : decode cX0_putLetter 39 = .ok (.iload_n 2, 1) := by decide +kernel
theorem dX0_putLetter_40 : decode cX0_putLetter 40 = .ok (.invokevirtual 31, 3) := by decide +kernel
theorem dX0_putLetter_43 : decode cX0_putLetter 43 = .ok (.return_, 1) := by decide +kernel
theorem dX0_removeLine_0 : decode cX0_removeLine 0 = .ok (.aload_n 0, 1) := by decide +kernel
theorem dX0_removeLine_1 : decode cX0_removeLine 1 = .ok (.iload_n 1, 1) := by decide +kernel
theorem dX0_removeLine_2 : decode cX0_removeLine 2 = .ok (.invokevirtual 23, 3) := by decide +kernel
theorem dX0_removeLine_5 : decode cX0_removeLine 5 = .ok (.ifCond .eq 39, 3) := by decide +kernel
theorem dX0_removeLine_8 : decode cX0_removeLine 8 = .ok (.iload_n 1, 1) := by decide +kernel
theorem dX0_removeLine_9 : decode cX0_removeLine 9 = .ok (.iconst 1, 1) := by decide +kernel
theorem dX0_removeLine_10 : decode cX0_removeLine 10 = .ok (.iadd, 1) := by decide +kernel
theorem dX0_removeLine_11 : decode cX0_removeLine 11 = .ok (.istore_n 2, 1) := by decide +kernel
theorem dX0_removeLine_12 : decode cX0_removeLine 12 = .ok (.iload_n 2, 1) := by decide +kernel
theorem dX0_removeLine_13 : decode cX0_removeLine 13 = .ok (.aload_n 0, 1) := by decide +kernel
theorem dX0_removeLine_14 : decode cX0_removeLine 14 = .ok (.getfield 19, 3) := by decide +kernel
theorem dX0_removeLine_17 : decode cX0_removeLine 17 = .ok (.if_icmp .ge 17, 3) := by decide +kernel
theorem dX0_removeLine_20 : decode cX0_removeLine 20 = .ok (.aload_n 0, 1) := by decide +kernel
theorem dX0_removeLine_21 : decode cX0_removeLine 21 = .ok (.iload_n 2, 1) := by decide +kernel
theorem dX0_removeLine_22 : decode cX0_removeLine 22 = .ok (.iconst 1, 1) := by decide +kernel
theorem dX0_removeLine_23 : decode cX0_removeLine 23 = .ok (.isub, 1) := by decide +kernel
theorem dX0_removeLine_24 : decode cX0_removeLine 24 = .ok (.iload_n 2, 1) := by decide +kernel
theorem dX0_removeLine_25 : decode cX0_removeLine 25 = .ok (.invokevirtual 35, 3) := by decide +kernel
theorem dX0_removeLine_28 : decode cX0_removeLine 28 = .ok (.iinc 2 1, 3) := by decide +kernel
theorem dX0_removeLine_31 : decode cX0_removeLine 31 = .ok (.goto (-19), 3) := by decide +kernel
theorem dX0_removeLine_34 : decode cX0_removeLine 34 = .ok (.aload_n 0, 1) := by decide +kernel
theorem dX0_removeLine_35 : decode cX0_removeLine 35 = .ok (.dup, 1) := by decide +kernel
theorem dX0_removeLine_36 : decode cX0_removeLine 36 = .ok (.getfield 19, 3) := by decide +kernel
theorem dX0_removeLine_39 : decode cX0_removeLine 39 = .ok (.iconst 1, 1) := by decide +kernel
theorem dX0_removeLine_40 : decode cX0_removeLine 40 = .ok (.isub, 1) := by decide +kernel
theorem dX0_removeLine_41 : decode cX0_removeLine 41 = .ok (.putfield 19, 3) := by decide +kernel
theorem dX0_removeLine_44 : decode cX0_removeLine 44 = .ok (.return_, 1) := by decide +kernel
theorem dX0_exchangeLines_0 : decode cX0_exchangeLines 0 = .ok (.aload_n 0, 1) := by decide +kernel
theorem dX0_exchangeLines_1 : decode cX0_exchangeLines 1 = .ok (.iload_n 1, 1) := by decide +kernel
theorem dX0_exchangeLines_2 : decode cX0_exchangeLines 2 = .ok (.invokevirtual 23, 3) := by decide +kernel
theorem dX0_exchangeLines_5 : decode cX0_exchangeLines 5 = .ok (.ifCond .eq 99, 3) := by decide +kernel
theorem dX0_exchangeLines_8 : decode cX0_exchangeLines 8 = .ok (.aload_n 0, 1) := by decide +kernel
theorem dX0_exchangeLines_9 : decode cX0_exchangeLines 9 = .ok (.iload_n 2, 1) := by decide +kernel
theorem dX0_exchangeLines_10 : decode cX0_exchangeLines 10 = .ok (.invokevirtual 23, 3) := by decide +kernel
theorem dX0_exchangeLines_13 : decode cX0_exchangeLines 13 = .ok (.ifCond .eq 91, 3) := by decide +kernel
theorem dX0_exchangeLines_16 : decode cX0_exchangeLines 16 = .ok (.iconst 0, 1) := by decide +kernel
theorem dX0_exchangeLines_17 : decode cX0_exchangeLines 17 = .ok (.istore_n 3, 1) := by decide +kernel
theorem dX0_exchangeLines_18 : decode cX0_exchangeLines 18 = .ok (.iload_n 3, 1) := by decide +kernel
theorem dX0_exchangeLines_19 : decode cX0_exchangeLines 19 = .ok (.bipush 10, 2) := by decide +kernel
theorem dX0_exchangeLines_21 : decode cX0_exchangeLines 21 = .ok (.if_icmp .ge 57, 3) := by decide +kernel
theorem dX0_exchangeLines_24 : decode cX0_exchangeLines 24 = .ok (.aload_n 0, 1) := by decide +kernel
theorem dX0_exchangeLines_25 : decode cX0_exchangeLines 25 = .ok (.getfield 9, 3) := by decide +kernel
theorem dX0_exchangeLines_28 : decode cX0_exchangeLines 28 = .ok (.iload_n 1, 1) := by decide +kernel
theorem dX0_exchangeLines_29 : decode cX0_exchangeLines 29 = .ok (.bipush 10, 2) := by decide +kernel
theorem dX0_exchangeLines_31 : decode cX0_exchangeLines 31 = .ok (.imul, 1) := by decide +kernel
theorem dX0_exchangeLines_32 : decode cX0_exchangeLines 32 = .ok (.iload_n 3, 1) := by decide +kernel
theorem dX0_exchangeLines_33 : decode cX0_exchangeLines 33 = .ok (.iadd, 1) := by decide +kernel
theorem dX0_exchangeLines_34 : decode cX0_exchangeLines 34 = .ok (.caload, 1) := by decide +kernel
theorem dX0_exchangeLines_35 : decode cX0_exchangeLines 35 = .ok (.istore 4, 2) := by decide +kernel
theorem dX0_exchangeLines_37 : decode cX0_exchangeLines 37 = .ok (.aload_n 0, 1) := by decide +kernel
theorem dX0_exchangeLines_38 : decode cX0_exchangeLines 38 = .ok (.getfield 9, 3) := by decide +kernel
theorem dX0_exchangeLines_41 : decode cX0_exchangeLines 41 = .ok (.iload_n 1, 1) := by decide +kernel
theorem dX0_exchangeLines_42 : decode cX0_exchangeLines 42 = .ok (.bipush 10, 2) := by decide +kernel
theorem dX0_exchangeLines_44 : decode cX0_exchangeLines 44 = .ok (.imul, 1) := by decide +kernel
theorem dX0_exchangeLines_45 : decode cX0_exchangeLines 45 = .ok (.iload_n 3, 1) := by decide +kernel
theorem dX0_exchangeLines_46 : decode cX0_exchangeLines 46 = .ok (.iadd, 1) := by decide +kernel
theorem dX0_exchangeLines_47 : decode cX0_exchangeLines 47 = .ok (.aload_n 0, 1) := by decide +kernel
theorem dX0_exchangeLines_48 : decode cX0_exchangeLines 48 = .ok (.getfield 9, 3) := by decide +kernel
theorem dX0_exchangeLines_51 : decode cX0_exchangeLines 51 = .ok (.iload_n 2, 1) := by decide +kernel
theorem dX0_exchangeLines_52 : decode cX0_exchangeLines 52 = .ok (.bipush 10, 2) := by decide +kernel
theorem dX0_exchangeLines_54 : decode cX0_exchangeLines 54 = .ok (.imul, 1) := by decide +kernel
theorem dX0_exchangeLines_55 : decode cX0_exchangeLines 55 = .ok (.iload_n 3, 1) := by decide +kernel
theorem dX0_exchangeLines_56 : decode cX0_exchangeLines 56 = .ok (.iadd, 1) := by decide +kernel
theorem dX0_exchangeLines_57 : decode cX0_exchangeLines 57 = .ok (.caload, 1) := by decide +kernel
theorem dX0_exchangeLines_58 : decode cX0_exchangeLines 58 = .ok (.castore, 1) := by decide +kernel
theorem dX0_exchangeLines_59 : decode cX0_exchangeLines 59 = .ok (.aload_n 0, 1) := by decide +kernel
theorem dX0_exchangeLines_60 : decode cX0_exchangeLines 60 = .ok (.getfield 9, 3) := by decide +kernel
theorem dX0_exchangeLines_63 : decode cX0_exchangeLines 63 = .ok (.iload_n 2, 1) := by decide +kernel
theorem dX0_exchangeLines_64 : decode cX0_exchangeLines 64 = .ok (.bipush 10, 2) := by decide +kernel
theorem dX0_exchangeLines_66 : decode cX0_exchangeLines 66 = .ok (.imul, 1) := by decide +kernel
theorem dX0_exchangeLines_67 : decode cX0_exchangeLines 67 = .ok (.iload_n 3, 1) := by decide +kernel
theorem dX0_exchangeLines_68 : decode cX0_exchangeLines 68 = .ok (.iadd, 1) := by decide +kernel
theorem dX0_exchangeLines_69 : decode cX0_exchangeLines 69 = .ok (.iload 4, 2) := by decide +kernel
theorem dX0_exchangeLines_71 : decode cX0_exchangeLines 71 = .ok (.castore, 1) := by decide +kernel
theorem dX0_exchangeLines_72 : decode cX0_exchangeLines 72 = .ok (.iinc 3 1, 3) := by decide +kernel
theorem dX0_exchangeLines_75 : decode cX0_exchangeLines 75 = .ok (.goto (-57), 3) := by decide +kernel
theorem dX0_exchangeLines_78 : decode cX0_exchangeLines 78 = .ok (.aload_n 0, 1) := by decide +kernel
theorem dX0_exchangeLines_79 : decode cX0_exchangeLines 79 = .ok (.getfield 15, 3) := by decide +kernel
theorem dX0_exchangeLines_82 : decode cX0_exchangeLines 82 = .ok (.iload_n 1, 1) := by decide +kernel
theorem dX0_exchangeLines_83 : decode cX0_exchangeLines 83 = .ok (.iaload, 1) := by decide +kernel
theorem dX0_exchangeLines_84 : decode cX0_exchangeLines 84 = .ok (.istore_n 3, 1) := by decide +kernel
theorem dX0_exchangeLines_85 : decode cX0_exchangeLines 85 = .ok (.aload_n 0, 1) := by decide +kernel
theorem dX0_exchangeLines_86 : decode cX0_exchangeLines 86 = .ok (.getfield 15, 3) := by decide +kernel
theorem dX0_exchangeLines_89 : decode cX0_exchangeLines 89 = .ok (.iload_n 1, 1) := by decide +kernel
theorem dX0_exchangeLines_90 : decode cX0_exchangeLines 90 = .ok (.aload_n 0, 1) := by decide +kernel
theorem dX0_exchangeLines_91 : decode cX0_exchangeLines 91 = .ok (.getfield 15, 3) := by decide +kernel
theorem dX0_exchangeLines_94 : decode cX0_exchangeLines 94 = .ok (.iload_n 2, 1) := by decide +kernel
theorem dX0_exchangeLines_95 : decode cX0_exchangeLines 95 = .ok (.iaload, 1) := by decide +kernel
theorem dX0_exchangeLines_96 : decode cX0_exchangeLines 96 = .ok (.iastore, 1) := by decide +kernel
theorem dX0_exchangeLines_97 : decode cX0_exchangeLines 97 = .ok (.aload_n 0, 1) := by decide +kernel
theorem dX0_exchangeLines_98 : decode cX0_exchangeLines 98 = .ok (.getfield 15, 3) := by decide +kernel
theorem dX0_exchangeLines_101 : decode cX0_exchangeLines 101 = .ok (.iload_n 2, 1) := by decide +kernel
theorem dX0_exchangeLines_102 : decode cX0_exchangeLines 102 = .ok (.iload_n 3, 1) := by decide +kernel
theorem dX0_exchangeLines_103 : decode cX0_exchangeLines 103 = .ok (.iastore, 1) := by decide +kernel
theorem dX0_exchangeLines_104 : decode cX0_exchangeLines 104 = .ok (.return_, 1) := by decide +kernel
theorem dX0_reverseLine_0 : decode cX0_reverseLine 0 = .ok (.aload_n 0, 1) := by decide +kernel
theorem dX0_reverseLine_1 : decode cX0_reverseLine 1 = .ok (.iload_n 1, 1) := by decide +kernel
theorem dX0_reverseLine_2 : decode cX0_reverseLine 2 = .ok (.invokevirtual 39, 3) := by decide +kernel
theorem dX0_reverseLine_5 : decode cX0_reverseLine 5 = .ok (.iconst 1, 1) := by decide +kernel
theorem dX0_reverseLine_6 : decode cX0_reverseLine 6 = .ok (.isub, 1) := by decide +kernel
theorem dX0_reverseLine_7 : decode cX0_reverseLine 7 = .ok (.istore_n 2, 1) := by decide +kernel
theorem dX0_reverseLine_8 : decode cX0_reverseLine 8 = .ok (.iconst 0, 1) := by decide +kernel
theorem dX0_reverseLine_9 : decode cX0_reverseLine 9 = .ok (.istore_n 3, 1) := by decide +kernel
theorem dX0_reverseLine_10 : decode cX0_reverseLine 10 = .ok (.iload_n 3, 1) := by decide +kernel
theorem dX0_reverseLine_11 : decode cX0_reverseLine 11 = .ok (.iload_n 2, 1) := by decide +kernel
theorem dX0_reverseLine_12 : decode cX0_reverseLine 12 = .ok (.iload_n 3, 1) := by decide +kernel
theorem dX0_reverseLine_13 : decode cX0_reverseLine 13 = .ok (.isub, 1) := by decide +kernel
theorem dX0_reverseLine_14 : decode cX0_reverseLine 14 = .ok (.if_icmp .ge 41, 3) := by decide +kernel
theorem dX0_reverseLine_17 : decode cX0_reverseLine 17 = .ok (.aload_n 0, 1) := by decide +kernel
theorem dX0_reverseLine_18 : decode cX0_reverseLine 18 = .ok (.iload_n 1, 1) := by decide +kernel
theorem dX0_reverseLine_19 : decode cX0_reverseLine 19 = .ok (.iload_n 3, 1) := by decide +kernel
theorem dX0_reverseLine_20 : decode cX0_reverseLine 20 = .ok (.invokevirtual 43, 3) := by decide +kernel
theorem dX0_reverseLine_23 : decode cX0_reverseLine 23 = .ok (.istore 4, 2) := by decide +kernel
theorem dX0_reverseLine_25 : decode cX0_reverseLine 25 = .ok (.aload_n 0, 1) := by decide +kernel
theorem dX0_reverseLine_26 : decode cX0_reverseLine 26 = .ok (.iload_n 1, 1) := by decide +kernel
theorem dX0_reverseLine_27 : decode cX0_reverseLine 27 = .ok (.iload_n 3, 1) := by decide +kernel
theorem dX0_reverseLine_28 : decode cX0_reverseLine 28 = .ok (.aload_n 0, 1) := by decide +kernel
theorem dX0_reverseLine_29 : decode cX0_reverseLine 29 = .ok (.iload_n 1, 1) := by decide +kernel
theorem dX0_reverseLine_30 : decode cX0_reverseLine 30 = .ok (.iload_n 2, 1) := by decide +kernel
theorem dX0_reverseLine_31 : decode cX0_reverseLine 31 = .ok (.iload_n 3, 1) := by decide +kernel
theorem dX0_reverseLine_32 : decode cX0_reverseLine 32 = .ok (.isub, 1) := by decide +kernel
theorem dX0_reverseLine_33 : decode cX0_reverseLine 33 = .ok (.invokevirtual 43, 3) := by decide +kernel
theorem dX0_reverseLine_36 : decode cX0_reverseLine 36 = .ok (.invokevirtual 31, 3) := by decide +kernel
theorem dX0_reverseLine_39 : decode cX0_reverseLine 39 = .ok (.aload_n 0, 1) := by decide +kernel
theorem dX0_reverseLine_40 : decode cX0_reverseLine 40 = .ok (.iload_n 1, 1) := by decide +kernel
theorem dX0_reverseLine_41 : decode cX0_reverseLine 41 = .ok (.iload_n 2, 1) := by decide +kernel
theorem dX0_reverseLine_42 : decode cX0_reverseLine 42 = .ok (.iload_n 3, 1) := by decide +kernel
theorem dX0_reverseLine_43 : decode cX0_reverseLine 43 = .ok (.isub, 1) := by decide +kernel
theorem dX0_reverseLine_44 : decode cX0_reverseLine 44 = .ok (.iload 4, 2) := by decide +kernel
theorem dX0_reverseLine_46 : decode cX0_reverseLine 46 = .ok (.invokevirtual 31, 3) := by decide +kernel
theorem dX0_reverseLine_49 : decode cX0_reverseLine 49 = .ok (.iinc 3 1, 3) := by decide +kernel
theorem dX0_reverseLine_52 : decode cX0_reverseLine 52 = .ok (.goto (-42), 3) := by decide +kernel
theorem dX0_reverseLine_55 : decode cX0_reverseLine 55 = .ok (.return_, 1) := by decide +kernel
theorem dX0_copyFrom_0 : decode cX0_copyFrom 0 = .ok (.aload_n 1, 1) := by decide +kernel
theorem dX0_copyFrom_1 : decode cX0_copyFrom 1 = .ok (.getfield 9, 3) := by decide +kernel
theorem dX0_copyFrom_4 : decode cX0_copyFrom 4 = .ok (.iconst 0, 1) := by decide +kernel
theorem dX0_copyFrom_5 : decode cX0_copyFrom 5 = .ok (.aload_n 0, 1) := by decide +kernel
theorem dX0_copyFrom_6 : decode cX0_copyFrom 6 = .ok (.getfield 9, 3) := by decide +kernel
theorem dX0_copyFrom_9 : decode cX0_copyFrom 9 = .ok (.iconst 0, 1) := by decide +kernel
theorem dX0_copyFrom_10 : decode cX0_copyFrom 10 = .ok (.bipush 80, 2) := by decide +kernel
theorem dX0_copyFrom_12 : decode cX0_copyFrom 12 = .ok (.invokestatic 47, 3) := by decide +kernel
theorem dX0_copyFrom_15 : decode cX0_copyFrom 15 = .ok (.aload_n 1, 1) := by decide +kernel
theorem dX0_copyFrom_16 : decode cX0_copyFrom 16 = .ok (.getfield 15, 3) := by decide +kernel
theorem dX0_copyFrom_19 : decode cX0_copyFrom 19 = .ok (.iconst 0, 1) := by decide +kernel
theorem dX0_copyFrom_20 : decode cX0_copyFrom 20 = .ok (.aload_n 0, 1) := by decide +kernel
theorem dX0_copyFrom_21 : decode cX0_copyFrom 21 = .ok (.getfield 15, 3) := by decide +kernel
theorem dX0_copyFrom_24 : decode cX0_copyFrom 24 = .ok (.iconst 0, 1) := by decide +kernel
theorem dX0_copyFrom_25 : decode cX0_copyFrom 25 = .ok (.bipush 8, 2) := by decide +kernel
theorem dX0_copyFrom_27 : decode cX0_copyFrom 27 = .ok (.invokestatic 47, 3) := by decide +kernel
theorem dX0_copyFrom_30 : decode cX0_copyFrom 30 = .ok (.aload_n 0, 1) := by decide +kernel
theorem dX0_copyFrom_31 : decode cX0_copyFrom 31 = .ok (.aload_n 1, 1) := by decide +kernel
theorem dX0_copyFrom_32 : decode cX0_copyFrom 32 = .ok (.getfield 19, 3) := by decide +kernel
theorem dX0_copyFrom_35 : decode cX0_copyFrom 35 = .ok (.putfield 19, 3) := by decide +kernel
theorem dX0_copyFrom_38 : decode cX0_copyFrom 38 = .ok (.return_, 1) := by decide +kernel
theorem dX0_sameLetters_0 : decode cX0_sameLetters 0 = .ok (.iconst 0, 1) := by decide +kernel
theorem dX0_sameLetters_1 : decode cX0_sameLetters 1 = .ok (.istore 5, 2) := by decide +kernel
theorem dX0_sameLetters_3 : decode cX0_sameLetters 3 = .ok (.iload 5, 2) := by decide +kernel
theorem dX0_sameLetters_5 : decode cX0_sameLetters 5 = .ok (.bipush 10, 2) := by decide +kernel
theorem dX0_sameLetters_7 : decode cX0_sameLetters 7 = .ok (.if_icmp .ge 43, 3) := by decide +kernel
theorem dX0_sameLetters_10 : decode cX0_sameLetters 10 = .ok (.aload_n 0, 1) := by decide +kernel
theorem dX0_sameLetters_11 : decode cX0_sameLetters 11 = .ok (.iload_n 1, 1) := by decide +kernel
theorem dX0_sameLetters_12 : decode cX0_sameLetters 12 = .ok (.iload_n 2, 1) := by decide +kernel
theorem dX0_sameLetters_13 : decode cX0_sameLetters 13 = .ok (.iload 5, 2) := by decide +kernel
theorem dX0_sameLetters_15 : decode cX0_sameLetters 15 = .ok (.iadd, 1) := by decide +kernel
theorem dX0_sameLetters_16 : decode cX0_sameLetters 16 = .ok (.invokevirtual 43, 3) := by decide +kernel
theorem dX0_sameLetters_19 : decode cX0_sameLetters 19 = .ok (.istore 6, 2) := by decide +kernel
theorem dX0_sameLetters_21 : decode cX0_sameLetters 21 = .ok (.iload 6, 2) := by decide +kernel
theorem dX0_sameLetters_23 : decode cX0_sameLetters 23 = .ok (.ifCond .eq 18, 3) := by decide +kernel
theorem dX0_sameLetters_26 : decode cX0_sameLetters 26 = .ok (.iload 6, 2) := by decide +kernel
theorem dX0_sameLetters_28 : decode cX0_sameLetters 28 = .ok (.aload_n 0, 1) := by decide +kernel
theorem dX0_sameLetters_29 : decode cX0_sameLetters 29 = .ok (.iload_n 3, 1) := by decide +kernel
theorem dX0_sameLetters_30 : decode cX0_sameLetters 30 = .ok (.iload 4, 2) := by decide +kernel
theorem dX0_sameLetters_32 : decode cX0_sameLetters 32 = .ok (.iload 5, 2) := by decide +kernel
theorem dX0_sameLetters_34 : decode cX0_sameLetters 34 = .ok (.iadd, 1) := by decide +kernel
theorem dX0_sameLetters_35 : decode cX0_sameLetters 35 = .ok (.invokevirtual 43, 3) := by decide +kernel
theorem dX0_sameLetters_38 : decode cX0_sameLetters 38 = .ok (.if_icmp .eq 6, 3) := by decide +kernel
theorem dX0_sameLetters_41 : decode cX0_sameLetters 41 = .ok (.iload 5, 2) := by decide +kernel
theorem dX0_sameLetters_43 : decode cX0_sameLetters 43 = .ok (.ireturn, 1) := by decide +kernel
theorem dX0_sameLetters_44 : decode cX0_sameLetters 44 = .ok (.iinc 5 1, 3) := by decide +kernel
theorem dX0_sameLetters_47 : decode cX0_sameLetters 47 = .ok (.goto (-44), 3) := by decide +kernel
theorem dX0_sameLetters_50 : decode cX0_sameLetters 50 = .ok (.bipush 10, 2) := by decide +kernel
theorem dX0_sameLetters_52 : decode cX0_sameLetters 52 = .ok (.ireturn, 1) := by decide +kernel
theorem dX0_comesBefore_0 : decode cX0_comesBefore 0 = .ok (.iconst 0, 1) := by decide +kernel
theorem dX0_comesBefore_1 : decode cX0_comesBefore 1 = .ok (.istore 5, 2) := by decide +kernel
theorem dX0_comesBefore_3 : decode cX0_comesBefore 3 = .ok (.iload 5, 2) := by decide +kernel
theorem dX0_comesBefore_5 : decode cX0_comesBefore 5 = .ok (.bipush 10, 2) := by decide +kernel
theorem dX0_comesBefore_7 : decode cX0_comesBefore 7 = .ok (.if_icmp .ge 52, 3) := by decide +kernel
theorem dX0_comesBefore_10 : decode cX0_comesBefore 10 = .ok (.aload_n 0, 1) := by decide +kernel
theorem dX0_comesBefore_11 : decode cX0_comesBefore 11 = .ok (.iload_n 1, 1) := by decide +kernel
theorem dX0_comesBefore_12 : decode cX0_comesBefore 12 = .ok (.iload_n 2, 1) := by decide +kernel
theorem dX0_comesBefore_13 : decode cX0_comesBefore 13 = .ok (.iload 5, 2) := by decide +kernel
theorem dX0_comesBefore_15 : decode cX0_comesBefore 15 = .ok (.iadd, 1) := by decide +kernel
theorem dX0_comesBefore_16 : decode cX0_comesBefore 16 = .ok (.invokevirtual 43, 3) := by decide +kernel
theorem dX0_comesBefore_19 : decode cX0_comesBefore 19 = .ok (.istore 6, 2) := by decide +kernel
theorem dX0_comesBefore_21 : decode cX0_comesBefore 21 = .ok (.aload_n 0, 1) := by decide +kernel
theorem dX0_comesBefore_22 : decode cX0_comesBefore 22 = .ok (.iload_n 3, 1) := by decide +kernel
theorem dX0_comesBefore_23 : decode cX0_comesBefore 23 = .ok (.iload 4, 2) := by decide +kernel
theorem dX0_comesBefore_25 : decode cX0_comesBefore 25 = .ok (.iload 5, 2) := by decide +kernel
theorem dX0_comesBefore_27 : decode cX0_comesBefore 27 = .ok (.iadd, 1) := by decide +kernel
theorem dX0_comesBefore_28 : decode cX0_comesBefore 28 = .ok (.invokevirtual 43, 3) := by decide +kernel
theorem dX0_comesBefore_31 : decode cX0_comesBefore 31 = .ok (.istore 7, 2) := by decide +kernel
theorem dX0_comesBefore_33 : decode cX0_comesBefore 33 = .ok (.iload 6, 2) := by decide +kernel
theorem dX0_comesBefore_35 : decode cX0_comesBefore 35 = .ok (.iload 7, 2) := by decide +kernel
theorem dX0_comesBefore_37 : decode cX0_comesBefore 37 = .ok (.if_icmp .eq 16, 3) := by decide +kernel
theorem dX0_comesBefore_40 : decode cX0_comesBefore 40 = .ok (.iload 6, 2) := by decide +kernel
theorem dX0_comesBefore_42 : decode cX0_comesBefore 42 = .ok (.iload 7, 2) := by decide +kernel
theorem dX0_comesBefore_44 : decode cX0_comesBefore 44 = .ok (.if_icmp .ge 7, 3) := by decide +kernel
theorem dX0_comesBefore_47 : decode cX0_comesBefore 47 = .ok (.iconst 1, 1) := by decide +kernel
theorem dX0_comesBefore_48 : decode cX0_comesBefore 48 = .ok (.goto 4, 3) := by decide +kernel
theorem dX0_comesBefore_51 : decode cX0_comesBefore 51 = .ok (.iconst 0, 1) := by decide +kernel
theorem dX0_comesBefore_52 : decode cX0_comesBefore 52 = .ok (.ireturn, 1) := by decide +kernel
theorem dX0_comesBefore_53 : decode cX0_comesBefore 53 = .ok (.iinc 5 1, 3) := by decide +kernel
theorem dX0_comesBefore_56 : decode cX0_comesBefore 56 = .ok (.goto (-53), 3) := by decide +kernel
theorem dX0_comesBefore_59 : decode cX0_comesBefore 59 = .ok (.iload_n 1, 1) := by decide +kernel
theorem dX0_comesBefore_60 : decode cX0_comesBefore 60 = .ok (.iload_n 3, 1) := by decide +kernel
theorem dX0_comesBefore_61 : decode cX0_comesBefore 61 = .ok (.if_icmp .ge 7, 3) := by decide +kernel
theorem dX0_comesBefore_64 : decode cX0_comesBefore 64 = .ok (.iconst 1, 1) := by decide +kernel
theorem dX0_comesBefore_65 : decode cX0_comesBefore 65 = .ok (.goto 4, 3) := by decide +kernel
theorem dX0_comesBefore_68 : decode cX0_comesBefore 68 = .ok (.iconst 0, 1) := by decide +kernel
theorem dX0_comesBefore_69 : decode cX0_comesBefore 69 = .ok (.ireturn, 1) := by decide +kernel
theorem dX0_countEndingsBefore_0 : decode cX0_countEndingsBefore 0 = .ok (.iconst 0, 1) := by decide +kernel
theorem dX0_countEndingsBefore_1 : decode cX0_countEndingsBefore 1 = .ok (.istore_n 3, 1) := by decide +kernel
theorem dX0_countEndingsBefore_2 : decode cX0_countEndingsBefore 2 = .ok (.iconst 0, 1) := by decide +kernel
theorem dX0_countEndingsBefore_3 : decode cX0_countEndingsBefore 3 = .ok (.istore 4, 2) := by decide +kernel
theorem dX0_countEndingsBefore_5 : decode cX0_countEndingsBefore 5 = .ok (.iload 4, 2) := by decide +kernel
theorem dX0_countEndingsBefore_7 : decode cX0_countEndingsBefore 7 = .ok (.aload_n 0, 1) := by decide +kernel
theorem dX0_countEndingsBefore_8 : decode cX0_countEndingsBefore 8 = .ok (.getfield 19, 3) := by decide +kernel
theorem dX0_countEndingsBefore_11 : decode cX0_countEndingsBefore 11 = .ok (.if_icmp .ge 45, 3) := by decide +kernel
theorem dX0_countEndingsBefore_14 : decode cX0_countEndingsBefore 14 = .ok (.iconst 0, 1) := by decide +kernel
theorem dX0_countEndingsBefore_15 : decode cX0_countEndingsBefore 15 = .ok (.istore 5, 2) := by decide +kernel
theorem dX0_countEndingsBefore_17 : decode cX0_countEndingsBefore 17 = .ok (.iload 5, 2) := by decide +kernel
theorem dX0_countEndingsBefore_19 : decode cX0_countEndingsBefore 19 = .ok (.aload_n 0, 1) := by decide +kernel
theorem dX0_countEndingsBefore_20 : decode cX0_countEndingsBefore 20 = .ok (.iload 4, 2) := by decide +kernel
theorem dX0_countEndingsBefore_22 : decode cX0_countEndingsBefore 22 = .ok (.invokevirtual 39, 3) := by decide +kernel
theorem dX0_countEndingsBefore_25 : decode cX0_countEndingsBefore 25 = .ok (.if_icmp .ge 25, 3) := by decide +kernel
theorem dX0_countEndingsBefore_28 : decode cX0_countEndingsBefore 28 = .ok (.aload_n 0, 1) := by decide +kernel
theorem dX0_countEndingsBefore_29 : decode cX0_countEndingsBefore 29 = .ok (.iload 4, 2) := by decide +kernel
theorem dX0_countEndingsBefore_31 : decode cX0_countEndingsBefore 31 = .ok (.iload 5, 2) := by decide +kernel
theorem dX0_countEndingsBefore_33 : decode cX0_countEndingsBefore 33 = .ok (.iload_n 1, 1) := by decide +kernel
theorem dX0_countEndingsBefore_34 : decode cX0_countEndingsBefore 34 = .ok (.iload_n 2, 1) := by decide +kernel
theorem dX0_countEndingsBefore_35 : decode cX0_countEndingsBefore 35 = .ok (.invokevirtual 53, 3) := by decide +kernel
theorem dX0_countEndingsBefore_38 : decode cX0_countEndingsBefore 38 = .ok (.ifCond .eq 6, 3) := by decide +kernel
theorem dX0_countEndingsBefore_41 : decode cX0_countEndingsBefore 41 = .ok (.iinc 3 1, 3) := by decide +kernel
theorem dX0_countEndingsBefore_44 : decode cX0_countEndingsBefore 44 = .ok (.iinc 5 1, 3) := by decide +kernel
theorem dX0_countEndingsBefore_47 : decode cX0_countEndingsBefore 47 = .ok (.goto (-30), 3) := by decide +kernel
theorem dX0_countEndingsBefore_50 : decode cX0_countEndingsBefore 50 = .ok (.iinc 4 1, 3) := by decide +kernel
theorem dX0_countEndingsBefore_53 : decode cX0_countEndingsBefore 53 = .ok (.goto (-48), 3) := by decide +kernel
theorem dX0_countEndingsBefore_56 : decode cX0_countEndingsBefore 56 = .ok (.iload_n 3, 1) := by decide +kernel
theorem dX0_countEndingsBefore_57 : decode cX0_countEndingsBefore 57 = .ok (.ireturn, 1) := by decide +kernel
theorem dX0_isSame_0 : decode cX0_isSame 0 = .ok (.aload_n 0, 1) := by decide +kernel
theorem dX0_isSame_1 : decode cX0_isSame 1 = .ok (.iload_n 1, 1) := by decide +kernel
theorem dX0_isSame_2 : decode cX0_isSame 2 = .ok (.invokevirtual 39, 3) := by decide +kernel
theorem dX0_isSame_5 : decode cX0_isSame 5 = .ok (.istore_n 3, 1) := by decide +kernel
theorem dX0_isSame_6 : decode cX0_isSame 6 = .ok (.iload_n 3, 1) := by decide +kernel
theorem dX0_isSame_7 : decode cX0_isSame 7 = .ok (.aload_n 0, 1) := by decide +kernel
theorem dX0_isSame_8 : decode cX0_isSame 8 = .ok (.iload_n 2, 1) := by decide +kernel
theorem dX0_isSame_9 : decode cX0_isSame 9 = .ok (.invokevirtual 39, 3) := by decide +kernel
theorem dX0_isSame_12 : decode cX0_isSame 12 = .ok (.if_icmp .ne 19, 3) := by decide +kernel
theorem dX0_isSame_15 : decode cX0_isSame 15 = .ok (.aload_n 0, 1) := by decide +kernel
theorem dX0_isSame_16 : decode cX0_isSame 16 = .ok (.iload_n 1, 1) := by decide +kernel
theorem dX0_isSame_17 : decode cX0_isSame 17 = .ok (.iconst 0, 1) := by decide +kernel
theorem dX0_isSame_18 : decode cX0_isSame 18 = .ok (.iload_n 2, 1) := by decide +kernel
theorem dX0_isSame_19 : decode cX0_isSame 19 = .ok (.iconst 0, 1) := by decide +kernel
theorem dX0_isSame_20 : decode cX0_isSame 20 = .ok (.invokevirtual 57, 3) := by decide +kernel
theorem dX0_isSame_23 : decode cX0_isSame 23 = .ok (.iload_n 3, 1) := by decide +kernel
theorem dX0_isSame_24 : decode cX0_isSame 24 = .ok (.if_icmp .ne 7, 3) := by decide +kernel
theorem dX0_isSame_27 : decode cX0_isSame 27 = .ok (.iconst 1, 1) := by decide +kernel
theorem dX0_isSame_28 : decode cX0_isSame 28 = .ok (.goto 4, 3) := by decide +kernel
theorem dX0_isSame_31 : decode cX0_isSame 31 = .ok (.iconst 0, 1) := by decide +kernel
theorem dX0_isSame_32 : decode cX0_isSame 32 = .ok (.ireturn, 1) := by decide +kernel
theorem dX0_countSameLines_0 : decode cX0_countSameLines 0 = .ok (.iconst 0, 1) := by decide +kernel
theorem dX0_countSameLines_1 : decode cX0_countSameLines 1 = .ok (.istore_n 2, 1) := by decide +kernel
theorem dX0_countSameLines_2 : decode cX0_countSameLines 2 = .ok (.iconst 0, 1) := by decide +kernel
theorem dX0_countSameLines_3 : decode cX0_countSameLines 3 = .ok (.istore_n 3, 1) := by decide +kernel
theorem dX0_countSameLines_4 : decode cX0_countSameLines 4 = .ok (.iload_n 3, 1) := by decide +kernel
theorem dX0_countSameLines_5 : decode cX0_countSameLines 5 = .ok (.aload_n 0, 1) := by decide +kernel
theorem dX0_countSameLines_6 : decode cX0_countSameLines 6 = .ok (.getfield 19, 3) := by decide +kernel
theorem dX0_countSameLines_9 : decode cX0_countSameLines 9 = .ok (.if_icmp .ge 21, 3) := by decide +kernel
theorem dX0_countSameLines_12 : decode cX0_countSameLines 12 = .ok (.aload_n 0, 1) := by decide +kernel
theorem dX0_countSameLines_13 : decode cX0_countSameLines 13 = .ok (.iload_n 1, 1) := by decide +kernel
theorem dX0_countSameLines_14 : decode cX0_countSameLines 14 = .ok (.iload_n 3, 1) := by decide +kernel
theorem dX0_countSameLines_15 : decode cX0_countSameLines 15 = .ok (.invokevirtual 61, 3) := by decide +kernel
theorem dX0_countSameLines_18 : decode cX0_countSameLines 18 = .ok (.ifCond .eq 6, 3) := by decide +kernel
theorem dX0_countSameLines_21 : decode cX0_countSameLines 21 = .ok (.iinc 2 1, 3) := by decide +kernel
theorem dX0_countSameLines_24 : decode cX0_countSameLines 24 = .ok (.iinc 3 1, 3) := by decide +kernel
theorem dX0_countSameLines_27 : decode cX0_countSameLines 27 = .ok (.goto (-23), 3) := by decide +kernel
theorem dX0_countSameLines_30 : decode cX0_countSameLines 30 = .ok (.iload_n 2, 1) := by decide +kernel
theorem dX0_countSameLines_31 : decode cX0_countSameLines 31 = .ok (.ireturn, 1) := by decide +kernel
theorem dX0_countKinds_0 : decode cX0_countKinds 0 = .ok (.iconst 0, 1) := by decide +kernel
theorem dX0_countKinds_1 : decode cX0_countKinds 1 = .ok (.istore_n 1, 1) := by decide +kernel
theorem dX0_countKinds_2 : decode cX0_countKinds 2 = .ok (.iconst 0, 1) := by decide +kernel
theorem dX0_countKinds_3 : decode cX0_countKinds 3 = .ok (.istore_n 2, 1) := by decide +kernel
theorem dX0_countKinds_4 : decode cX0_countKinds 4 = .ok (.iload_n 2, 1) := by decide +kernel
theorem dX0_countKinds_5 : decode cX0_countKinds 5 = .ok (.aload_n 0, 1) := by decide +kernel
theorem dX0_countKinds_6 : decode cX0_countKinds 6 = .ok (.getfield 19, 3) := by decide +kernel
theorem dX0_countKinds_9 : decode cX0_countKinds 9 = .ok (.if_icmp .ge 39, 3) := by decide +kernel
theorem dX0_countKinds_12 : decode cX0_countKinds 12 = .ok (.iconst 0, 1) := by decide +kernel
theorem dX0_countKinds_13 : decode cX0_countKinds 13 = .ok (.istore_n 3, 1) := by decide +kernel
theorem dX0_countKinds_14 : decode cX0_countKinds 14 = .ok (.iload_n 3, 1) := by decide +kernel
theorem dX0_countKinds_15 : decode cX0_countKinds 15 = .ok (.iload_n 2, 1) := by decide +kernel
theorem dX0_countKinds_16 : decode cX0_countKinds 16 = .ok (.if_icmp .ge 18, 3) := by decide +kernel
theorem dX0_countKinds_19 : decode cX0_countKinds 19 = .ok (.aload_n 0, 1) := by decide +kernel
theorem dX0_countKinds_20 : decode cX0_countKinds 20 = .ok (.iload_n 3, 1) := by decide +kernel
theorem dX0_countKinds_21 : decode cX0_countKinds 21 = .ok (.iload_n 2, 1) := by decide +kernel
theorem dX0_countKinds_22 : decode cX0_countKinds 22 = .ok (.invokevirtual 61, 3) := by decide +kernel
theorem dX0_countKinds_25 : decode cX0_countKinds 25 = .ok (.ifCond .ne 9, 3) := by decide +kernel
theorem dX0_countKinds_28 : decode cX0_countKinds 28 = .ok (.iinc 3 1, 3) := by decide +kernel
theorem dX0_countKinds_31 : decode cX0_countKinds 31 = .ok (.goto (-17), 3) := by decide +kernel
theorem dX0_countKinds_34 : decode cX0_countKinds 34 = .ok (.iload_n 3, 1) := by decide +kernel
theorem dX0_countKinds_35 : decode cX0_countKinds 35 = .ok (.iload_n 2, 1) := by decide +kernel
theorem dX0_countKinds_36 : decode cX0_countKinds 36 = .ok (.if_icmp .ne 6, 3) := by decide +kernel
theorem dX0_countKinds_39 : decode cX0_countKinds 39 = .ok (.iinc 1 1, 3) := by decide +kernel
theorem dX0_countKinds_42 : decode cX0_countKinds 42 = .ok (.iinc 2 1, 3) := by decide +kernel
theorem dX0_countKinds_45 : decode cX0_countKinds 45 = .ok (.goto (-41), 3) := by decide +kernel
theorem dX0_countKinds_48 : decode cX0_countKinds 48 = .ok (.iload_n 1, 1) := by decide +kernel
theorem dX0_countKinds_49 : decode cX0_countKinds 49 = .ok (.ireturn, 1) := by decide +kernel
theorem dX0_isReverse_0 : decode cX0_isReverse 0 = .ok (.aload_n 0, 1) := by decide +kernel
theorem dX0_isReverse_1 : decode cX0_isReverse 1 = .ok (.iload_n 1, 1) := by decide +kernel
theorem dX0_isReverse_2 : decode cX0_isReverse 2 = .ok (.invokevirtual 39, 3) := by decide +kernel
theorem dX0_isReverse_5 : decode cX0_isReverse 5 = .ok (.istore_n 3, 1) := by decide +kernel
theorem dX0_isReverse_6 : decode cX0_isReverse 6 = .ok (.iload_n 3, 1) := by decide +kernel
theorem dX0_isReverse_7 : decode cX0_isReverse 7 = .ok (.aload_n 0, 1) := by decide +kernel
theorem dX0_isReverse_8 : decode cX0_isReverse 8 = .ok (.iload_n 2, 1) := by decide +kernel
theorem dX0_isReverse_9 : decode cX0_isReverse 9 = .ok (.invokevirtual 39, 3) := by decide +kernel
theorem dX0_isReverse_12 : decode cX0_isReverse 12 = .ok (.if_icmp .eq 5, 3) := by decide +kernel
theorem dX0_isReverse_15 : decode cX0_isReverse 15 = .ok (.iconst 0, 1) := by decide +kernel
theorem dX0_isReverse_16 : decode cX0_isReverse 16 = .ok (.ireturn, 1) := by decide +kernel
theorem dX0_isReverse_17 : decode cX0_isReverse 17 = .ok (.iconst 0, 1) := by decide +kernel
theorem dX0_isReverse_18 : decode cX0_isReverse 18 = .ok (.istore 4, 2) := by decide +kernel
theorem dX0_isReverse_20 : decode cX0_isReverse 20 = .ok (.iload 4, 2) := by decide +kernel
theorem dX0_isReverse_22 : decode cX0_isReverse 22 = .ok (.iload_n 3, 1) := by decide +kernel
theorem dX0_isReverse_23 : decode cX0_isReverse 23 = .ok (.if_icmp .ge 32, 3) := by decide +kernel
theorem dX0_isReverse_26 : decode cX0_isReverse 26 = .ok (.aload_n 0, 1) := by decide +kernel
theorem dX0_isReverse_27 : decode cX0_isReverse 27 = .ok (.iload_n 1, 1) := by decide +kernel
theorem dX0_isReverse_28 : decode cX0_isReverse 28 = .ok (.iload 4, 2) := by decide +kernel
theorem dX0_isReverse_30 : decode cX0_isReverse 30 = .ok (.invokevirtual 43, 3) := by decide +kernel
theorem dX0_isReverse_33 : decode cX0_isReverse 33 = .ok (.aload_n 0, 1) := by decide +kernel
theorem dX0_isReverse_34 : decode cX0_isReverse 34 = .ok (.iload_n 2, 1) := by decide +kernel
theorem dX0_isReverse_35 : decode cX0_isReverse 35 = .ok (.iload_n 3, 1) := by decide +kernel
theorem dX0_isReverse_36 : decode cX0_isReverse 36 = .ok (.iconst 1, 1) := by decide +kernel
theorem dX0_isReverse_37 : decode cX0_isReverse 37 = .ok (.isub, 1) := by decide +kernel
theorem dX0_isReverse_38 : decode cX0_isReverse 38 = .ok (.iload 4, 2) := by decide +kernel
theorem dX0_isReverse_40 : decode cX0_isReverse 40 = .ok (.isub, 1) := by decide +kernel
theorem dX0_isReverse_41 : decode cX0_isReverse 41 = .ok (.invokevirtual 43, 3) := by decide +kernel
theorem dX0_isReverse_44 : decode cX0_isReverse 44 = .ok (.if_icmp .eq 5, 3) := by decide +kernel
theorem dX0_isReverse_47 : decode cX0_isReverse 47 = .ok (.iconst 0, 1) := by decide +kernel
theorem dX0_isReverse_48 : decode cX0_isReverse 48 = .ok (.ireturn, 1) := by decide +kernel
theorem dX0_isReverse_49 : decode cX0_isReverse 49 = .ok (.iinc 4 1, 3) := by decide +kernel
theorem dX0_isReverse_52 : decode cX0_isReverse 52 = .ok (.goto (-32), 3) := by decide +kernel
theorem dX0_isReverse_55 : decode cX0_isReverse 55 = .ok (.iconst 1, 1) := by decide +kernel
theorem dX0_isReverse_56 : decode cX0_isReverse 56 = .ok (.ireturn, 1) := by decide +kernel
theorem dX0_countReversible_0 : decode cX0_countReversible 0 = .ok (.iconst 0, 1) := by decide +kernel
theorem dX0_countReversible_1 : decode cX0_countReversible 1 = .ok (.istore_n 1, 1) := by decide +kernel
theorem dX0_countReversible_2 : decode cX0_countReversible 2 = .ok (.iconst 0, 1) := by decide +kernel
theorem dX0_countReversible_3 : decode cX0_countReversible 3 = .ok (.istore_n 2, 1) := by decide +kernel
theorem dX0_countReversible_4 : decode cX0_countReversible 4 = .ok (.iload_n 2, 1) := by decide +kernel
theorem dX0_countReversible_5 : decode cX0_countReversible 5 = .ok (.aload_n 0, 1) := by decide +kernel
theorem dX0_countReversible_6 : decode cX0_countReversible 6 = .ok (.getfield 19, 3) := by decide +kernel
theorem dX0_countReversible_9 : decode cX0_countReversible 9 = .ok (.if_icmp .ge 21, 3) := by decide +kernel
theorem dX0_countReversible_12 : decode cX0_countReversible 12 = .ok (.aload_n 0, 1) := by decide +kernel
theorem dX0_countReversible_13 : decode cX0_countReversible 13 = .ok (.iload_n 2, 1) := by decide +kernel
theorem dX0_countReversible_14 : decode cX0_countReversible 14 = .ok (.iload_n 2, 1) := by decide +kernel
theorem dX0_countReversible_15 : decode cX0_countReversible 15 = .ok (.invokevirtual 64, 3) := by decide +kernel
theorem dX0_countReversible_18 : decode cX0_countReversible 18 = .ok (.ifCond .eq 6, 3) := by decide +kernel
theorem dX0_countReversible_21 : decode cX0_countReversible 21 = .ok (.iinc 1 1, 3) := by decide +kernel
theorem dX0_countReversible_24 : decode cX0_countReversible 24 = .ok (.iinc 2 1, 3) := by decide +kernel
theorem dX0_countReversible_27 : decode cX0_countReversible 27 = .ok (.goto (-23), 3) := by decide +kernel
theorem dX0_countReversible_30 : decode cX0_countReversible 30 = .ok (.iload_n 1, 1) := by decide +kernel
theorem dX0_countReversible_31 : decode cX0_countReversible 31 = .ok (.ireturn, 1) := by decide +kernel
theorem dX0_period_0 : decode cX0_period 0 = .ok (.aload_n 0, 1) := by decide +kernel
theorem dX0_period_1 : decode cX0_period 1 = .ok (.iload_n 1, 1) := by decide +kernel
theorem dX0_period_2 : decode cX0_period 2 = .ok (.invokevirtual 39, 3) := by decide +kernel
theorem dX0_period_5 : decode cX0_period 5 = .ok (.istore_n 2, 1) := by decide +kernel
theorem dX0_period_6 : decode cX0_period 6 = .ok (.iconst 1, 1) := by decide +kernel
theorem dX0_period_7 : decode cX0_period 7 = .ok (.istore_n 3, 1) := by decide +kernel
theorem dX0_period_8 : decode cX0_period 8 = .ok (.iload_n 3, 1) := by decide +kernel
theorem dX0_period_9 : decode cX0_period 9 = .ok (.iload_n 2, 1) := by decide +kernel
theorem dX0_period_10 : decode cX0_period 10 = .ok (.if_icmp .ge 23, 3) := by decide +kernel
theorem dX0_period_13 : decode cX0_period 13 = .ok (.aload_n 0, 1) := by decide +kernel
theorem dX0_period_14 : decode cX0_period 14 = .ok (.iload_n 1, 1) := by decide +kernel
theorem dX0_period_15 : decode cX0_period 15 = .ok (.iload_n 3, 1) := by decide +kernel
theorem dX0_period_16 : decode cX0_period 16 = .ok (.iload_n 1, 1) := by decide +kernel
theorem dX0_period_17 : decode cX0_period 17 = .ok (.iconst 0, 1) := by decide +kernel
theorem dX0_period_18 : decode cX0_period 18 = .ok (.invokevirtual 57, 3) := by decide +kernel
theorem dX0_period_21 : decode cX0_period 21 = .ok (.iload_n 2, 1) := by decide +kernel
theorem dX0_period_22 : decode cX0_period 22 = .ok (.iload_n 3, 1) := by decide +kernel
theorem dX0_period_23 : decode cX0_period 23 = .ok (.isub, 1) := by decide +kernel
theorem dX0_period_24 : decode cX0_period 24 = .ok (.if_icmp .ge 9, 3) := by decide +kernel
theorem dX0_period_27 : decode cX0_period 27 = .ok (.iinc 3 1, 3) := by decide +kernel
theorem dX0_period_30 : decode cX0_period 30 = .ok (.goto (-22), 3) := by decide +kernel
theorem dX0_period_33 : decode cX0_period 33 = .ok (.iload_n 3, 1) := by decide +kernel
theorem dX0_period_34 : decode cX0_period 34 = .ok (.ireturn, 1) := by decide +kernel
theorem dX0_letterSet_0 : decode cX0_letterSet 0 = .ok (.iconst 0, 1) := by decide +kernel
theorem dX0_letterSet_1 : decode cX0_letterSet 1 = .ok (.istore_n 2, 1) := by decide +kernel
theorem dX0_letterSet_2 : decode cX0_letterSet 2 = .ok (.iconst 0, 1) := by decide +kernel
theorem dX0_letterSet_3 : decode cX0_letterSet 3 = .ok (.istore_n 3, 1) := by decide +kernel
theorem dX0_letterSet_4 : decode cX0_letterSet 4 = .ok (.iload_n 3, 1) := by decide +kernel
theorem dX0_letterSet_5 : decode cX0_letterSet 5 = .ok (.aload_n 0, 1) := by decide +kernel
theorem dX0_letterSet_6 : decode cX0_letterSet 6 = .ok (.iload_n 1, 1) := by decide +kernel
theorem dX0_letterSet_7 : decode cX0_letterSet 7 = .ok (.invokevirtual 39, 3) := by decide +kernel
theorem dX0_letterSet_10 : decode cX0_letterSet 10 = .ok (.if_icmp .ge 23, 3) := by decide +kernel
theorem dX0_letterSet_13 : decode cX0_letterSet 13 = .ok (.iload_n 2, 1) := by decide +kernel
theorem dX0_letterSet_14 : decode cX0_letterSet 14 = .ok (.iconst 1, 1) := by decide +kernel
theorem dX0_letterSet_15 : decode cX0_letterSet 15 = .ok (.aload_n 0, 1) := by decide +kernel
theorem dX0_letterSet_16 : decode cX0_letterSet 16 = .ok (.iload_n 1, 1) := by decide +kernel
theorem dX0_letterSet_17 : decode cX0_letterSet 17 = .ok (.iload_n 3, 1) := by decide +kernel
theorem dX0_letterSet_18 : decode cX0_letterSet 18 = .ok (.invokevirtual 43, 3) := by decide +kernel
theorem dX0_letterSet_21 : decode cX0_letterSet 21 = .ok (.bipush 97, 2) := by decide +kernel
theorem dX0_letterSet_23 : decode cX0_letterSet 23 = .ok (.isub, 1) := by decide +kernel
theorem dX0_letterSet_24 : decode cX0_letterSet 24 = .ok (.ishl, 1) := by decide +kernel
theorem dX0_letterSet_25 : decode cX0_letterSet 25 = .ok (.ior, 1) := by decide +kernel
theorem dX0_letterSet_26 : decode cX0_letterSet 26 = .ok (.istore_n 2, 1) := by decide +kernel
theorem dX0_letterSet_27 : decode cX0_letterSet 27 = .ok (.iinc 3 1, 3) := by decide +kernel
theorem dX0_letterSet_30 : decode cX0_letterSet 30 = .ok (.goto (-26), 3) := by decide +kernel
theorem dX0_letterSet_33 : decode cX0_letterSet 33 = .ok (.iload_n 2, 1) := by decide +kernel
theorem dX0_letterSet_34 : decode cX0_letterSet 34 = .ok (.ireturn, 1) := by decide +kernel
theorem dX0_letterSet__0 : decode cX0_letterSet_ 0 = .ok (.iconst 0, 1) := by decide +kernel
theorem dX0_letterSet__1 : decode cX0_letterSet_ 1 = .ok (.istore_n 1, 1) := by decide +kernel
theorem dX0_letterSet__2 : decode cX0_letterSet_ 2 = .ok (.iconst 0, 1) := by decide +kernel
theorem dX0_letterSet__3 : decode cX0_letterSet_ 3 = .ok (.istore_n 2, 1) := by decide +kernel
theorem dX0_letterSet__4 : decode cX0_letterSet_ 4 = .ok (.iload_n 2, 1) := by decide +kernel
theorem dX0_letterSet__5 : decode cX0_letterSet_ 5 = .ok (.aload_n 0, 1) := by decide +kernel
theorem dX0_letterSet__6 : decode cX0_letterSet_ 6 = .ok (.getfield 19, 3) := by decide +kernel
theorem dX0_letterSet__9 : decode cX0_letterSet_ 9 = .ok (.if_icmp .ge 17, 3) := by decide +kernel
theorem dX0_letterSet__12 : decode cX0_letterSet_ 12 = .ok (.iload_n 1, 1) := by decide +kernel
theorem dX0_letterSet__13 : decode cX0_letterSet_ 13 = .ok (.aload_n 0, 1) := by decide +kernel
theorem dX0_letterSet__14 : decode cX0_letterSet_ 14 = .ok (.iload_n 2, 1) := by decide +kernel
theorem dX0_letterSet__15 : decode cX0_letterSet_ 15 = .ok (.invokevirtual 67, 3) := by decide +kernel
theorem dX0_letterSet__18 : decode cX0_letterSet_ 18 = .ok (.ior, 1) := by decide +kernel
theorem dX0_letterSet__19 : decode cX0_letterSet_ 19 = .ok (.istore_n 1, 1) := by decide +kernel
theorem dX0_letterSet__20 : decode cX0_letterSet_ 20 = .ok (.iinc 2 1, 3) := by decide +kernel
theorem dX0_letterSet__23 : decode cX0_letterSet_ 23 = .ok (.goto (-19), 3) := by decide +kernel
theorem dX0_letterSet__26 : decode cX0_letterSet_ 26 = .ok (.iload_n 1, 1) := by decide +kernel
theorem dX0_letterSet__27 : decode cX0_letterSet_ 27 = .ok (.ireturn, 1) := by decide +kernel
theorem dX1_addText_0 : decode cX1_addText 0 = .ok (.aload_n 2, 1) := by decide +kernel
theorem dX1_addText_1 : decode cX1_addText 1 = .ok (.invokevirtual 9, 3) := by decide +kernel
theorem dX1_addText_4 : decode cX1_addText 4 = .ok (.ifCond .ne 15, 3) := by decide +kernel
theorem dX1_addText_7 : decode cX1_addText 7 = .ok (.aload_n 1, 1) := by decide +kernel
theorem dX1_addText_8 : decode cX1_addText 8 = .ok (.bipush 9, 2) := by decide +kernel
theorem dX1_addText_10 : decode cX1_addText 10 = .ok (.aload_n 2, 1) := by decide +kernel
theorem dX1_addText_11 : decode cX1_addText 11 = .ok (.invokevirtual 15, 3) := by decide +kernel
theorem dX1_addText_14 : decode cX1_addText 14 = .ok (.invokevirtual 19, 3) := by decide +kernel
theorem dX1_addText_17 : decode cX1_addText 17 = .ok (.iconst 0, 1) := by decide +kernel
theorem dX1_addText_18 : decode cX1_addText 18 = .ok (.ireturn, 1) := by decide +kernel
theorem dX1_addText_19 : decode cX1_addText 19 = .ok (.aload_n 0, 1) := by decide +kernel
theorem dX1_addText_20 : decode cX1_addText 20 = .ok (.aload_n 1, 1) := by decide +kernel
theorem dX1_addText_21 : decode cX1_addText 21 = .ok (.aload_n 2, 1) := by decide +kernel
theorem dX1_addText_22 : decode cX1_addText 22 = .ok (.iconst 0, 1) := by decide +kernel
theorem dX1_addText_23 : decode cX1_addText 23 = .ok (.aload_n 2, 1) := by decide +kernel
theorem dX1_addText_24 : decode cX1_addText 24 = .ok (.invokevirtual 15, 3) := by decide +kernel
theorem dX1_addText_27 : decode cX1_addText 27 = .ok (.invokestatic 25, 3) := by decide +kernel
theorem dX1_addText_30 : decode cX1_addText 30 = .ok (.ireturn, 1) := by decide +kernel
theorem dX1_addWord_0 : decode cX1_addWord 0 = .ok (.aload_n 0, 1) := by decide +kernel
theorem dX1_addWord_1 : decode cX1_addWord 1 = .ok (.invokevirtual 31, 3) := by decide +kernel
theorem dX1_addWord_4 : decode cX1_addWord 4 = .ok (.istore 5, 2) := by decide +kernel
theorem dX1_addWord_6 : decode cX1_addWord 6 = .ok (.iload 5, 2) := by decide +kernel
theorem dX1_addWord_8 : decode cX1_addWord 8 = .ok (.bipush 8, 2) := by decide +kernel
theorem dX1_addWord_10 : decode cX1_addWord 10 = .ok (.if_icmp .lt 12, 3) := by decide +kernel
theorem dX1_addWord_13 : decode cX1_addWord 13 = .ok (.aload_n 1, 1) := by decide +kernel
theorem dX1_addWord_14 : decode cX1_addWord 14 = .ok (.iconst 1, 1) := by decide +kernel
theorem dX1_addWord_15 : decode cX1_addWord 15 = .ok (.iload 5, 2) := by decide +kernel
theorem dX1_addWord_17 : decode cX1_addWord 17 = .ok (.invokevirtual 19, 3) := by decide +kernel
theorem dX1_addWord_20 : decode cX1_addWord 20 = .ok (.iconst 0, 1) := by decide +kernel
theorem dX1_addWord_21 : decode cX1_addWord 21 = .ok (.ireturn, 1) := by decide +kernel
theorem dX1_addWord_22 : decode cX1_addWord 22 = .ok (.aload_n 0, 1) := by decide +kernel
theorem dX1_addWord_23 : decode cX1_addWord 23 = .ok (.invokevirtual 36, 3) := by decide +kernel
theorem dX1_addWord_26 : decode cX1_addWord 26 = .ok (.iload_n 3, 1) := by decide +kernel
theorem dX1_addWord_27 : decode cX1_addWord 27 = .ok (.istore 6, 2) := by decide +kernel
theorem dX1_addWord_29 : decode cX1_addWord 29 = .ok (.iload 6, 2) := by decide +kernel
theorem dX1_addWord_31 : decode cX1_addWord 31 = .ok (.iload 4, 2) := by decide +kernel
theorem dX1_addWord_33 : decode cX1_addWord 33 = .ok (.if_icmp .ge 21, 3) := by decide +kernel
theorem dX1_addWord_36 : decode cX1_addWord 36 = .ok (.aload_n 0, 1) := by decide +kernel
theorem dX1_addWord_37 : decode cX1_addWord 37 = .ok (.iload 5, 2) := by decide +kernel
theorem dX1_addWord_39 : decode cX1_addWord 39 = .ok (.aload_n 2, 1) := by decide +kernel
theorem dX1_addWord_40 : decode cX1_addWord 40 = .ok (.iload 6, 2) := by decide +kernel
theorem dX1_addWord_42 : decode cX1_addWord 42 = .ok (.invokevirtual 39, 3) := by decide +kernel
theorem dX1_addWord_45 : decode cX1_addWord 45 = .ok (.invokevirtual 43, 3) := by decide +kernel
theorem dX1_addWord_48 : decode cX1_addWord 48 = .ok (.iinc 6 1, 3) := by decide +kernel
theorem dX1_addWord_51 : decode cX1_addWord 51 = .ok (.goto (-22), 3) := by decide +kernel
theorem dX1_addWord_54 : decode cX1_addWord 54 = .ok (.iconst 1, 1) := by decide +kernel
theorem dX1_addWord_55 : decode cX1_addWord 55 = .ok (.ireturn, 1) := by decide +kernel
theorem dX1_cutLine_0 : decode cX1_cutLine 0 = .ok (.aload_n 0, 1) := by decide +kernel
theorem dX1_cutLine_1 : decode cX1_cutLine 1 = .ok (.aload_n 1, 1) := by decide +kernel
theorem dX1_cutLine_2 : decode cX1_cutLine 2 = .ok (.iload_n 2, 1) := by decide +kernel
theorem dX1_cutLine_3 : decode cX1_cutLine 3 = .ok (.invokestatic 47, 3) := by decide +kernel
theorem dX1_cutLine_6 : decode cX1_cutLine 6 = .ok (.ifCond .eq 5, 3) := by decide +kernel
theorem dX1_cutLine_9 : decode cX1_cutLine 9 = .ok (.iconst 0, 1) := by decide +kernel
theorem dX1_cutLine_10 : decode cX1_cutLine 10 = .ok (.ireturn, 1) := by decide +kernel
theorem dX1_cutLine_11 : decode cX1_cutLine 11 = .ok (.aload_n 0, 1) := by decide +kernel
theorem dX1_cutLine_12 : decode cX1_cutLine 12 = .ok (.iload_n 2, 1) := by decide +kernel
theorem dX1_cutLine_13 : decode cX1_cutLine 13 = .ok (.invokevirtual 51, 3) := by decide +kernel
theorem dX1_cutLine_16 : decode cX1_cutLine 16 = .ok (.iconst 1, 1) := by decide +kernel
theorem dX1_cutLine_17 : decode cX1_cutLine 17 = .ok (.ireturn, 1) := by decide +kernel
theorem dX1_changeLetter_0 : decode cX1_changeLetter 0 = .ok (.aload_n 0, 1) := by decide +kernel
theorem dX1_changeLetter_1 : decode cX1_changeLetter 1 = .ok (.aload_n 1, 1) := by decide +kernel
theorem dX1_changeLetter_2 : decode cX1_changeLetter 2 = .ok (.iload_n 2, 1) := by decide +kernel
theorem dX1_changeLetter_3 : decode cX1_changeLetter 3 = .ok (.invokestatic 47, 3) := by decide +kernel
theorem dX1_changeLetter_6 : decode cX1_changeLetter 6 = .ok (.ifCond .eq 5, 3) := by decide +kernel
theorem dX1_changeLetter_9 : decode cX1_changeLetter 9 = .ok (.iconst 0, 1) := by decide +kernel
theorem dX1_changeLetter_10 : decode cX1_changeLetter 10 = .ok (.ireturn, 1) := by decide +kernel
theorem dX1_changeLetter_11 : decode cX1_changeLetter 11 = .ok (.aload_n 0, 1) := by decide +kernel
theorem dX1_changeLetter_12 : decode cX1_changeLetter 12 = .ok (.iload_n 2, 1) := by decide +kernel
theorem dX1_changeLetter_13 : decode cX1_changeLetter 13 = .ok (.iload_n 3, 1) := by decide +kernel
theorem dX1_changeLetter_14 : decode cX1_changeLetter 14 = .ok (.invokevirtual 55, 3) := by decide +kernel
theorem dX1_changeLetter_17 : decode cX1_changeLetter 17 = .ok (.ifCond .ne 11, 3) := by decide +kernel
theorem dX1_changeLetter_20 : decode cX1_changeLetter 20 = .ok (.aload_n 1, 1) := by decide +kernel
theorem dX1_changeLetter_21 : decode cX1_changeLetter 21 = .ok (.iconst 3, 1) := by decide +kernel
theorem dX1_changeLetter_22 : decode cX1_changeLetter 22 = .ok (.iload_n 3, 1) := by decide +kernel
theorem dX1_changeLetter_23 : decode cX1_changeLetter 23 = .ok (.invokevirtual 19, 3) := by decide +kernel
theorem dX1_changeLetter_26 : decode cX1_changeLetter 26 = .ok (.iconst 0, 1) := by decide +kernel
theorem dX1_changeLetter_27 : decode cX1_changeLetter 27 = .ok (.ireturn, 1) := by decide +kernel
theorem dX1_changeLetter_28 : decode cX1_changeLetter 28 = .ok (.iload 4, 2) := by decide +kernel
theorem dX1_changeLetter_30 : decode cX1_changeLetter 30 = .ok (.invokestatic 59, 3) := by decide +kernel
theorem dX1_changeLetter_33 : decode cX1_changeLetter 33 = .ok (.ifCond .ne 12, 3) := by decide +kernel
theorem dX1_changeLetter_36 : decode cX1_changeLetter 36 = .ok (.aload_n 1, 1) := by decide +kernel
theorem dX1_changeLetter_37 : decode cX1_changeLetter 37 = .ok (.iconst 4, 1) := by decide +kernel
theorem dX1_changeLetter_38 : decode cX1_changeLetter 38 = .ok (.iload 4, 2) := by decide +kernel
theorem dX1_changeLetter_40 : decode cX1_changeLetter 40 = .ok (.invokevirtual 19, 3) := by decide +kernel
theorem dX1_changeLetter_43 : decode cX1_changeLetter 43 = .ok (.iconst 0, 1) := by decide +kernel
theorem dX1_changeLetter_44 : decode cX1_changeLetter 44 = .ok (.ireturn, 1) := by decide +kernel
theorem dX1_changeLetter_45 : decode cX1_changeLetter 45 = .ok (.aload_n 0, 1) := by decide +kernel
theorem dX1_changeLetter_46 : decode cX1_changeLetter 46 = .ok (.iload_n 2, 1) := by decide +kernel
theorem dX1_changeLetter_47 : decode cX1_changeLetter 47 = .ok (.iload_n 3, 1) := by decide +kernel
theorem dX1_changeLetter_48 : decode cX1_changeLetter 48 = .ok (.invokevirtual 63, 3) := by decide +kernel
theorem dX1_changeLetter_51 : decode cX1_changeLetter 51 = .ok (.iload 4, 2) := by decide +kernel
theorem dX1_changeLetter_53 : decode cX1_changeLetter 53 = .ok (.if_icmp .ne 11, 3) := by decide +kernel
theorem dX1_changeLetter_56 : decode cX1_changeLetter 56 = .ok (.aload_n 1, 1) := by decide +kernel
theorem dX1_changeLetter_57 : decode cX1_changeLetter 57 = .ok (.iconst 5, 1) := by decide +kernel
theorem dX1_changeLetter_58 : decode cX1_changeLetter 58 = .ok (.iload_n 3, 1) := by decide +kernel
theorem dX1_changeLetter_59 : decode cX1_changeLetter 59 = .ok (.invokevirtual 19, 3) := by decide +kernel
theorem dX1_changeLetter_62 : decode cX1_changeLetter 62 = .ok (.iconst 0, 1) := by decide +kernel
theorem dX1_changeLetter_63 : decode cX1_changeLetter 63 = .ok (.ireturn, 1) := by decide +kernel
theorem dX1_changeLetter_64 : decode cX1_changeLetter 64 = .ok (.aload_n 0, 1) := by decide +kernel
theorem dX1_changeLetter_65 : decode cX1_changeLetter 65 = .ok (.iload_n 2, 1) := by decide +kernel
theorem dX1_changeLetter_66 : decode cX1_changeLetter 66 = .ok (.iload_n 3, 1) := by decide +kernel
theorem dX1_changeLetter_67 : decode cX1_changeLetter 67 = .ok (.iload 4, 2) := by decide +kernel
theorem dX1_changeLetter_69 : decode cX1_changeLetter 69 = .ok (.invokevirtual 67, 3) := by decide +kernel
theorem dX1_changeLetter_72 : decode cX1_changeLetter 72 = .ok (.iconst 1, 1) := by decide +kernel
theorem dX1_changeLetter_73 : decode cX1_changeLetter 73 = .ok (.ireturn, 1) := by decide +kernel
theorem dX1_swapLines_0 : decode cX1_swapLines 0 = .ok (.aload_n 0, 1) := by decide +kernel
theorem dX1_swapLines_1 : decode cX1_swapLines 1 = .ok (.aload_n 1, 1) := by decide +kernel
theorem dX1_swapLines_2 : decode cX1_swapLines 2 = .ok (.iload_n 2, 1) := by decide +kernel
theorem dX1_swapLines_3 : decode cX1_swapLines 3 = .ok (.iload_n 3, 1) := by decide +kernel
theorem dX1_swapLines_4 : decode cX1_swapLines 4 = .ok (.invokestatic 71, 3) := by decide +kernel
theorem dX1_swapLines_7 : decode cX1_swapLines 7 = .ok (.ifCond .eq 5, 3) := by decide +kernel
theorem dX1_swapLines_10 : decode cX1_swapLines 10 = .ok (.iconst 0, 1) := by decide +kernel
theorem dX1_swapLines_11 : decode cX1_swapLines 11 = .ok (.ireturn, 1) := by decide +kernel
theorem dX1_swapLines_12 : decode cX1_swapLines 12 = .ok (.aload_n 0, 1) := by decide +kernel
theorem dX1_swapLines_13 : decode cX1_swapLines 13 = .ok (.iload_n 2, 1) := by decide +kernel
theorem dX1_swapLines_14 : decode cX1_swapLines 14 = .ok (.iload_n 3, 1) := by decide +kernel
theorem dX1_swapLines_15 : decode cX1_swapLines 15 = .ok (.invokevirtual 75, 3) := by decide +kernel
theorem dX1_swapLines_18 : decode cX1_swapLines 18 = .ok (.iconst 1, 1) := by decide +kernel
theorem dX1_swapLines_19 : decode cX1_swapLines 19 = .ok (.ireturn, 1) := by decide +kernel
theorem dX1_joinLines_0 : decode cX1_joinLines 0 = .ok (.aload_n 0, 1) := by decide +kernel
theorem dX1_joinLines_1 : decode cX1_joinLines 1 = .ok (.aload_n 1, 1) := by decide +kernel
theorem dX1_joinLines_2 : decode cX1_joinLines 2 = .ok (.iload_n 2, 1) := by decide +kernel
theorem dX1_joinLines_3 : decode cX1_joinLines 3 = .ok (.iload_n 3, 1) := by decide +kernel
theorem dX1_joinLines_4 : decode cX1_joinLines 4 = .ok (.invokestatic 71, 3) := by decide +kernel
theorem dX1_joinLines_7 : decode cX1_joinLines 7 = .ok (.ifCond .eq 5, 3) := by decide +kernel
theorem dX1_joinLines_10 : decode cX1_joinLines 10 = .ok (.iconst 0, 1) := by decide +kernel
theorem dX1_joinLines_11 : decode cX1_joinLines 11 = .ok (.ireturn, 1) := by decide +kernel
theorem dX1_joinLines_12 : decode cX1_joinLines 12 = .ok (.aload_n 0, 1) := by decide +kernel
theorem dX1_joinLines_13 : decode cX1_joinLines 13 = .ok (.iload_n 2, 1) := by decide +kernel
theorem dX1_joinLines_14 : decode cX1_joinLines 14 = .ok (.invokevirtual 78, 3) := by decide +kernel
theorem dX1_joinLines_17 : decode cX1_joinLines 17 = .ok (.aload_n 0, 1) := by decide +kernel
theorem dX1_joinLines_18 : decode cX1_joinLines 18 = .ok (.iload_n 3, 1) := by decide +kernel
theorem dX1_joinLines_19 : decode cX1_joinLines 19 = .ok (.invokevirtual 78, 3) := by decide +kernel
theorem dX1_joinLines_22 : decode cX1_joinLines 22 = .ok (.iadd, 1) := by decide +kernel
theorem dX1_joinLines_23 : decode cX1_joinLines 23 = .ok (.istore 4, 2) := by decide +kernel
theorem dX1_joinLines_25 : decode cX1_joinLines 25 = .ok (.iload 4, 2) := by decide +kernel
theorem dX1_joinLines_27 : decode cX1_joinLines 27 = .ok (.bipush 10, 2) := by decide +kernel
theorem dX1_joinLines_29 : decode cX1_joinLines 29 = .ok (.if_icmp .le 24, 3) := by decide +kernel
theorem dX1_joinLines_32 : decode cX1_joinLines 32 = .ok (.aload_n 1, 1) := by decide +kernel
theorem dX1_joinLines_33 : decode cX1_joinLines 33 = .ok (.bipush 7, 2) := by decide +kernel
theorem dX1_joinLines_35 : decode cX1_joinLines 35 = .ok (.iload 4, 2) := by decide +kernel
theorem dX1_joinLines_37 : decode cX1_joinLines 37 = .ok (.invokevirtual 19, 3) := by decide +kernel
theorem dX1_joinLines_40 : decode cX1_joinLines 40 = .ok (.aload_n 1, 1) := by decide +kernel
theorem dX1_joinLines_41 : decode cX1_joinLines 41 = .ok (.bipush 11, 2) := by decide +kernel
theorem dX1_joinLines_43 : decode cX1_joinLines 43 = .ok (.aload_n 0, 1) := by decide +kernel
theorem dX1_joinLines_44 : decode cX1_joinLines 44 = .ok (.iload_n 3, 1) := by decide +kernel
theorem dX1_joinLines_45 : decode cX1_joinLines 45 = .ok (.invokevirtual 78, 3) := by decide +kernel
theorem dX1_joinLines_48 : decode cX1_joinLines 48 = .ok (.invokevirtual 82, 3) := by decide +kernel
theorem dX1_joinLines_51 : decode cX1_joinLines 51 = .ok (.iconst 0, 1) := by decide +kernel
theorem dX1_joinLines_52 : decode cX1_joinLines 52 = .ok (.ireturn, 1) := by decide +kernel
theorem dX1_joinLines_53 : decode cX1_joinLines 53 = .ok (.iconst 0, 1) := by decide +kernel
theorem dX1_joinLines_54 : decode cX1_joinLines 54 = .ok (.istore 5, 2) := by decide +kernel
theorem dX1_joinLines_56 : decode cX1_joinLines 56 = .ok (.iload 5, 2) := by decide +kernel
theorem dX1_joinLines_58 : decode cX1_joinLines 58 = .ok (.aload_n 0, 1) := by decide +kernel
theorem dX1_joinLines_59 : decode cX1_joinLines 59 = .ok (.iload_n 3, 1) := by decide +kernel
theorem dX1_joinLines_60 : decode cX1_joinLines 60 = .ok (.invokevirtual 78, 3) := by decide +kernel
theorem dX1_joinLines_63 : decode cX1_joinLines 63 = .ok (.if_icmp .ge 21, 3) := by decide +kernel
theorem dX1_joinLines_66 : decode cX1_joinLines 66 = .ok (.aload_n 0, 1) := by decide +kernel
theorem dX1_joinLines_67 : decode cX1_joinLines 67 = .ok (.iload_n 2, 1) := by decide +kernel
theorem dX1_joinLines_68 : decode cX1_joinLines 68 = .ok (.aload_n 0, 1) := by decide +kernel
theorem dX1_joinLines_69 : decode cX1_joinLines 69 = .ok (.iload_n 3, 1) := by decide +kernel
theorem dX1_joinLines_70 : decode cX1_joinLines 70 = .ok (.iload 5, 2) := by decide +kernel
theorem dX1_joinLines_72 : decode cX1_joinLines 72 = .ok (.invokevirtual 63, 3) := by decide +kernel
theorem dX1_joinLines_75 : decode cX1_joinLines 75 = .ok (.invokevirtual 43, 3) := by decide +kernel
theorem dX1_joinLines_78 : decode cX1_joinLines 78 = .ok (.iinc 5 1, 3) := by decide +kernel
theorem dX1_joinLines_81 : decode cX1_joinLines 81 = .ok (.goto (-25), 3) := by decide +kernel
theorem dX1_joinLines_84 : decode cX1_joinLines 84 = .ok (.aload_n 0, 1) := by decide +kernel
theorem dX1_joinLines_85 : decode cX1_joinLines 85 = .ok (.iload_n 3, 1) := by decide +kernel
theorem dX1_joinLines_86 : decode cX1_joinLines 86 = .ok (.invokevirtual 51, 3) := by decide +kernel
theorem dX1_joinLines_89 : decode cX1_joinLines 89 = .ok (.iconst 1, 1) := by decide +kernel
theorem dX1_joinLines_90 : decode cX1_joinLines 90 = .ok (.ireturn, 1) := by decide +kernel
theorem dX1_turnLine_0 : decode cX1_turnLine 0 = .ok (.aload_n 0, 1) := by decide +kernel
theorem dX1_turnLine_1 : decode cX1_turnLine 1 = .ok (.aload_n 1, 1) := by decide +kernel
theorem dX1_turnLine_2 : decode cX1_turnLine 2 = .ok (.iload_n 2, 1) := by decide +kernel
theorem dX1_turnLine_3 : decode cX1_turnLine 3 = .ok (.invokestatic 47, 3) := by decide +kernel
theorem dX1_turnLine_6 : decode cX1_turnLine 6 = .ok (.ifCond .eq 5, 3) := by decide +kernel
theorem dX1_turnLine_9 : decode cX1_turnLine 9 = .ok (.iconst 0, 1) := by decide +kernel
theorem dX1_turnLine_10 : decode cX1_turnLine 10 = .ok (.ireturn, 1) := by decide +kernel
theorem dX1_turnLine_11 : decode cX1_turnLine 11 = .ok (.aload_n 0, 1) := by decide +kernel
theorem dX1_turnLine_12 : decode cX1_turnLine 12 = .ok (.iload_n 2, 1) := by decide +kernel
theorem dX1_turnLine_13 : decode cX1_turnLine 13 = .ok (.iload_n 2, 1) := by decide +kernel
theorem dX1_turnLine_14 : decode cX1_turnLine 14 = .ok (.invokevirtual 85, 3) := by decide +kernel
theorem dX1_turnLine_17 : decode cX1_turnLine 17 = .ok (.ifCond .eq 12, 3) := by decide +kernel
theorem dX1_turnLine_20 : decode cX1_turnLine 20 = .ok (.aload_n 1, 1) := by decide +kernel
theorem dX1_turnLine_21 : decode cX1_turnLine 21 = .ok (.bipush 8, 2) := by decide +kernel
theorem dX1_turnLine_23 : decode cX1_turnLine 23 = .ok (.iload_n 2, 1) := by decide +kernel
theorem dX1_turnLine_24 : decode cX1_turnLine 24 = .ok (.invokevirtual 19, 3) := by decide +kernel
theorem dX1_turnLine_27 : decode cX1_turnLine 27 = .ok (.iconst 0, 1) := by decide +kernel
theorem dX1_turnLine_28 : decode cX1_turnLine 28 = .ok (.ireturn, 1) := by decide +kernel
theorem dX1_turnLine_29 : decode cX1_turnLine 29 = .ok (.aload_n 0, 1) := by decide +kernel
theorem dX1_turnLine_30 : decode cX1_turnLine 30 = .ok (.iload_n 2, 1) := by decide +kernel
theorem dX1_turnLine_31 : decode cX1_turnLine 31 = .ok (.invokevirtual 88, 3) := by decide +kernel
theorem dX1_turnLine_34 : decode cX1_turnLine 34 = .ok (.iconst 1, 1) := by decide +kernel
theorem dX1_turnLine_35 : decode cX1_turnLine 35 = .ok (.ireturn, 1) := by decide +kernel
theorem dX1_isNoPair_0 : decode cX1_isNoPair 0 = .ok (.aload_n 0, 1) := by decide +kernel
theorem dX1_isNoPair_1 : decode cX1_isNoPair 1 = .ok (.aload_n 1, 1) := by decide +kernel
theorem dX1_isNoPair_2 : decode cX1_isNoPair 2 = .ok (.iload_n 2, 1) := by decide +kernel
theorem dX1_isNoPair_3 : decode cX1_isNoPair 3 = .ok (.invokestatic 47, 3) := by decide +kernel
theorem dX1_isNoPair_6 : decode cX1_isNoPair 6 = .ok (.ifCond .ne 12, 3) := by decide +kernel
theorem dX1_isNoPair_9 : decode cX1_isNoPair 9 = .ok (.aload_n 0, 1) := by decide +kernel
theorem dX1_isNoPair_10 : decode cX1_isNoPair 10 = .ok (.aload_n 1, 1) := by decide +kernel
theorem dX1_isNoPair_11 : decode cX1_isNoPair 11 = .ok (.iload_n 3, 1) := by decide +kernel
theorem dX1_isNoPair_12 : decode cX1_isNoPair 12 = .ok (.invokestatic 47, 3) := by decide +kernel
theorem dX1_isNoPair_15 : decode cX1_isNoPair 15 = .ok (.ifCond .eq 5, 3) := by decide +kernel
theorem dX1_isNoPair_18 : decode cX1_isNoPair 18 = .ok (.iconst 1, 1) := by decide +kernel
theorem dX1_isNoPair_19 : decode cX1_isNoPair 19 = .ok (.ireturn, 1) := by decide +kernel
theorem dX1_isNoPair_20 : decode cX1_isNoPair 20 = .ok (.iload_n 2, 1) := by decide +kernel
theorem dX1_isNoPair_21 : decode cX1_isNoPair 21 = .ok (.iload_n 3, 1) := by decide +kernel
theorem dX1_isNoPair_22 : decode cX1_isNoPair 22 = .ok (.if_icmp .ne 12, 3) := by decide +kernel
theorem dX1_isNoPair_25 : decode cX1_isNoPair 25 = .ok (.aload_n 1, 1) := by decide +kernel
theorem dX1_isNoPair_26 : decode cX1_isNoPair 26 = .ok (.bipush 6, 2) := by decide +kernel
theorem dX1_isNoPair_28 : decode cX1_isNoPair 28 = .ok (.iload_n 2, 1) := by decide +kernel
theorem dX1_isNoPair_29 : decode cX1_isNoPair 29 = .ok (.invokevirtual 19, 3) := by decide +kernel
theorem dX1_isNoPair_32 : decode cX1_isNoPair 32 = .ok (.iconst 1, 1) := by decide +kernel
theorem dX1_isNoPair_33 : decode cX1_isNoPair 33 = .ok (.ireturn, 1) := by decide +kernel
theorem dX1_isNoPair_34 : decode cX1_isNoPair 34 = .ok (.iconst 0, 1) := by decide +kernel
theorem dX1_isNoPair_35 : decode cX1_isNoPair 35 = .ok (.ireturn, 1) := by decide +kernel
theorem dX1_isMissing_0 : decode cX1_isMissing 0 = .ok (.aload_n 0, 1) := by decide +kernel
theorem dX1_isMissing_1 : decode cX1_isMissing 1 = .ok (.iload_n 2, 1) := by decide +kernel
theorem dX1_isMissing_2 : decode cX1_isMissing 2 = .ok (.invokevirtual 91, 3) := by decide +kernel
theorem dX1_isMissing_5 : decode cX1_isMissing 5 = .ok (.ifCond .eq 5, 3) := by decide +kernel
theorem dX1_isMissing_8 : decode cX1_isMissing 8 = .ok (.iconst 0, 1) := by decide +kernel
theorem dX1_isMissing_9 : decode cX1_isMissing 9 = .ok (.ireturn, 1) := by decide +kernel
theorem dX1_isMissing_10 : decode cX1_isMissing 10 = .ok (.aload_n 1, 1) := by decide +kernel
theorem dX1_isMissing_11 : decode cX1_isMissing 11 = .ok (.iconst 2, 1) := by decide +kernel
theorem dX1_isMissing_12 : decode cX1_isMissing 12 = .ok (.iload_n 2, 1) := by decide +kernel
theorem dX1_isMissing_13 : decode cX1_isMissing 13 = .ok (.invokevirtual 19, 3) := by decide +kernel
theorem dX1_isMissing_16 : decode cX1_isMissing 16 = .ok (.iconst 1, 1) := by decide +kernel
theorem dX1_isMissing_17 : decode cX1_isMissing 17 = .ok (.ireturn, 1) := by decide +kernel
theorem dX2_init_0 : decode cX2_init 0 = .ok (.aload_n 0, 1) := by decide +kernel
theorem dX2_init_1 : decode cX2_init 1 = .ok (.invokespecial 3, 3) := by decide +kernel
theorem dX2_init_4 : decode cX2_init 4 = .ok (.aload_n 0, 1) := by decide +kernel
theorem dX2_init_5 : decode cX2_init 5 = .ok (.bipush 60, 2) := by decide +kernel
theorem dX2_init_7 : decode cX2_init 7 = .ok (.newarray .int, 2) := by decide +kernel
theorem dX2_init_9 : decode cX2_init 9 = .ok (.putfield 9, 3) := by decide +kernel
theorem dX2_init_12 : decode cX2_init 12 = .ok (.aload_n 0, 1) := by decide +kernel
theorem dX2_init_13 : decode cX2_init 13 = .ok (.iconst 0, 1) := by decide +kernel
theorem dX2_init_14 : decode cX2_init 14 = .ok (.putfield 15, 3) := by decide +kernel
theorem dX2_init_17 : decode cX2_init 17 = .ok (.aload_n 0, 1) := by decide +kernel
theorem dX2_init_18 : decode cX2_init 18 = .ok (.ldc 19, 2) := by decide +kernel
theorem dX2_init_20 : decode cX2_init 20 = .ok (.putfield 21, 3) := by decide +kernel
theorem dX2_init_23 : decode cX2_init 23 = .ok (.aload_n 0, 1) := by decide +kernel
theorem dX2_init_24 : decode cX2_init 24 = .ok (.iconst 0, 1) := by decide +kernel
theorem dX2_init_25 : decode cX2_init 25 = .ok (.putfield 25, 3) := by decide +kernel
theorem dX2_init_28 : decode cX2_init 28 = .ok (.return_, 1) := by decide +kernel
theorem dX2_commandCount_0 : decode cX2_commandCount 0 = .ok (.aload_n 0, 1) := by decide +kernel
theorem dX2_commandCount_1 : decode cX2_commandCount 1 = .ok (.getfield 15, 3) := by decide +kernel
theorem dX2_commandCount_4 : decode cX2_commandCount 4 = .ok (.ireturn, 1) := by decide +kernel
theorem dX2_read_0 : decode cX2_read 0 = .ok (.aload_n 0, 1) := by decide +kernel
theorem dX2_read_1 : decode cX2_read 1 = .ok (.iconst 0, 1) := by decide +kernel
theorem dX2_read_2 : decode cX2_read 2 = .ok (.putfield 15, 3) := by decide +kernel
theorem dX2_read_5 : decode cX2_read 5 = .ok (.aload_n 0, 1) := by decide +kernel
theorem dX2_read_6 : decode cX2_read 6 = .ok (.iconst 0, 1) := by decide +kernel
theorem dX2_read_7 : decode cX2_read 7 = .ok (.invokevirtual 28, 3) := by decide +kernel
theorem dX2_read_10 : decode cX2_read 10 = .ok (.iconst 0, 1) := by decide +kernel
theorem dX2_read_11 : decode cX2_read 11 = .ok (.istore_n 2, 1) := by decide +kernel
theorem dX2_read_12 : decode cX2_read 12 = .ok (.iload_n 2, 1) := by decide +kernel
theorem dX2_read_13 : decode cX2_read 13 = .ok (.aload_n 1, 1) := by decide +kernel
theorem dX2_read_14 : decode cX2_read 14 = .ok (.invokevirtual 32, 3) := by decide +kernel
theorem dX2_read_17 : decode cX2_read 17 = .ok (.if_icmp .ge 24, 3) := by decide +kernel
theorem dX2_read_20 : decode cX2_read 20 = .ok (.aload_n 0, 1) := by decide +kernel
theorem dX2_read_21 : decode cX2_read 21 = .ok (.aload_n 1, 1) := by decide +kernel
theorem dX2_read_22 : decode cX2_read 22 = .ok (.iload_n 2, 1) := by decide +kernel
theorem dX2_read_23 : decode cX2_read 23 = .ok (.invokevirtual 38, 3) := by decide +kernel
theorem dX2_read_26 : decode cX2_read 26 = .ok (.iload_n 2, 1) := by decide +kernel
theorem dX2_read_27 : decode cX2_read 27 = .ok (.invokevirtual 42, 3) := by decide +kernel
theorem dX2_read_30 : decode cX2_read 30 = .ok (.ifCond .ne 5, 3) := by decide +kernel
theorem dX2_read_33 : decode cX2_read 33 = .ok (.iload_n 2, 1) := by decide +kernel
theorem dX2_read_34 : decode cX2_read 34 = .ok (.ireturn, 1) := by decide +kernel
theorem dX2_read_35 : decode cX2_read 35 = .ok (.iinc 2 1, 3) := by decide +kernel
theorem dX2_read_38 : decode cX2_read 38 = .ok (.goto (-26), 3) := by decide +kernel
theorem dX2_read_41 : decode cX2_read 41 = .ok (.aload_n 0, 1) := by decide +kernel
theorem dX2_read_42 : decode cX2_read 42 = .ok (.invokevirtual 46, 3) := by decide +kernel
theorem dX2_read_45 : decode cX2_read 45 = .ok (.ifCond .eq 7, 3) := by decide +kernel
theorem dX2_read_48 : decode cX2_read 48 = .ok (.iconst (-1), 1) := by decide +kernel
theorem dX2_read_49 : decode cX2_read 49 = .ok (.goto 7, 3) := by decide +kernel
theorem dX2_read_52 : decode cX2_read 52 = .ok (.aload_n 1, 1) := by decide +kernel
theorem dX2_read_53 : decode cX2_read 53 = .ok (.invokevirtual 32, 3) := by decide +kernel
theorem dX2_read_56 : decode cX2_read 56 = .ok (.ireturn, 1) := by decide +kernel
theorem dX2_startCommand_0 : decode cX2_startCommand 0 = .ok (.aload_n 0, 1) := by decide +kernel
theorem dX2_startCommand_1 : decode cX2_startCommand 1 = .ok (.getfield 15, 3) := by decide +kernel
theorem dX2_startCommand_4 : decode cX2_startCommand 4 = .ok (.bipush 60, 2) := by decide +kernel
theorem dX2_startCommand_6 : decode cX2_startCommand 6 = .ok (.if_icmp .ge 23, 3) := by decide +kernel
theorem dX2_startCommand_9 : decode cX2_startCommand 9 = .ok (.aload_n 0, 1) := by decide +kernel
theorem dX2_startCommand_10 : decode cX2_startCommand 10 = .ok (.getfield 9, 3) := by decide +kernel
theorem dX2_startCommand_13 : decode cX2_startCommand 13 = .ok (.aload_n 0, 1) := by decide +kernel
theorem dX2_startCommand_14 : decode cX2_startCommand 14 = .ok (.getfield 15, 3) := by decide +kernel
theorem dX2_startCommand_17 : decode cX2_startCommand 17 = .ok (.iload_n 1, 1) := by decide +kernel
theorem dX2_startCommand_18 : decode cX2_startCommand 18 = .ok (.iastore, 1) := by decide +kernel
theorem dX2_startCommand_19 : decode cX2_startCommand 19 = .ok (.aload_n 0, 1) := by decide +kernel
theorem dX2_startCommand_20 : decode cX2_startCommand 20 = .ok (.dup, 1) := by decide +kernel
theorem dX2_startCommand_21 : decode cX2_startCommand 21 = .ok (.getfield 15, 3) := by decide +kernel
theorem dX2_startCommand_24 : decode cX2_startCommand 24 = .ok (.iconst 1, 1) := by decide +kernel
theorem dX2_startCommand_25 : decode cX2_startCommand 25 = .ok (.iadd, 1) := by decide +kernel
theorem dX2_startCommand_26 : decode cX2_startCommand 26 = .ok (.putfield 15, 3) := by decide +kernel
theorem dX2_startCommand_29 : decode cX2_startCommand 29 = .ok (.aload_n 0, 1) := by decide +kernel
theorem dX2_startCommand_30 : decode cX2_startCommand 30 = .ok (.ldc 19, 2) := by decide +kernel
theorem dX2_startCommand_32 : decode cX2_startCommand 32 = .ok (.putfield 21, 3) := by decide +kernel
theorem dX2_startCommand_35 : decode cX2_startCommand 35 = .ok (.aload_n 0, 1) := by decide +kernel
theorem dX2_startCommand_36 : decode cX2_startCommand 36 = .ok (.iconst 0, 1) := by decide +kernel
theorem dX2_startCommand_37 : decode cX2_startCommand 37 = .ok (.putfield 25, 3) := by decide +kernel
theorem dX2_startCommand_40 : decode cX2_startCommand 40 = .ok (.return_, 1) := by decide +kernel
theorem dX2_takes_0 : decode cX2_takes 0 = .ok (.iload_n 1, 1) := by decide +kernel
theorem dX2_takes_1 : decode cX2_takes 1 = .ok (.bipush 59, 2) := by decide +kernel
theorem dX2_takes_3 : decode cX2_takes 3 = .ok (.if_icmp .ne 19, 3) := by decide +kernel
theorem dX2_takes_6 : decode cX2_takes 6 = .ok (.aload_n 0, 1) := by decide +kernel
theorem dX2_takes_7 : decode cX2_takes 7 = .ok (.invokevirtual 46, 3) := by decide +kernel
theorem dX2_takes_10 : decode cX2_takes 10 = .ok (.ifCond .eq 12, 3) := by decide +kernel
theorem dX2_takes_13 : decode cX2_takes 13 = .ok (.aload_n 0, 1) := by decide +kernel
theorem dX2_takes_14 : decode cX2_takes 14 = .ok (.iload_n 2, 1) := by decide +kernel
theorem dX2_takes_15 : decode cX2_takes 15 = .ok (.iconst 1, 1) := by decide +kernel
theorem dX2_takes_16 : decode cX2_takes 16 = .ok (.iadd, 1) := by decide +kernel
theorem dX2_takes_17 : decode cX2_takes 17 = .ok (.invokevirtual 28, 3) := by decide +kernel
theorem dX2_takes_20 : decode cX2_takes 20 = .ok (.iconst 1, 1) := by decide +kernel
theorem dX2_takes_21 : decode cX2_takes 21 = .ok (.ireturn, 1) := by decide +kernel
theorem dX2_takes_22 : decode cX2_takes 22 = .ok (.aload_n 0, 1) := by decide +kernel
theorem dX2_takes_23 : decode cX2_takes 23 = .ok (.dup, 1) := by decide +kernel
theorem dX2_takes_24 : decode cX2_takes 24 = .ok (.getfield 25, 3) := by decide +kernel
theorem dX2_takes_27 : decode cX2_takes 27 = .ok (.iconst 1, 1) := by decide +kernel
theorem dX2_takes_28 : decode cX2_takes 28 = .ok (.iadd, 1) := by decide +kernel
theorem dX2_takes_29 : decode cX2_takes 29 = .ok (.putfield 25, 3) := by decide +kernel
theorem dX2_takes_32 : decode cX2_takes 32 = .ok (.aload_n 0, 1) := by decide +kernel
theorem dX2_takes_33 : decode cX2_takes 33 = .ok (.getfield 25, 3) := by decide +kernel
theorem dX2_takes_36 : decode cX2_takes 36 = .ok (.iconst 1, 1) := by decide +kernel
theorem dX2_takes_37 : decode cX2_takes 37 = .ok (.if_icmp .ne 27, 3) := by decide +kernel
theorem dX2_takes_40 : decode cX2_takes 40 = .ok (.aload_n 0, 1) := by decide +kernel
theorem dX2_takes_41 : decode cX2_takes 41 = .ok (.iload_n 1, 1) := by decide +kernel
theorem dX2_takes_42 : decode cX2_takes 42 = .ok (.invokestatic 50, 3) := by decide +kernel
theorem dX2_takes_45 : decode cX2_takes 45 = .ok (.putfield 21, 3) := by decide +kernel
theorem dX2_takes_48 : decode cX2_takes 48 = .ok (.aload_n 0, 1) := by decide +kernel
theorem dX2_takes_49 : decode cX2_takes 49 = .ok (.getfield 21, 3) := by decide +kernel
theorem dX2_takes_52 : decode cX2_takes 52 = .ok (.invokevirtual 54, 3) := by decide +kernel
theorem dX2_takes_55 : decode cX2_takes 55 = .ok (.ifCond .ne 7, 3) := by decide +kernel
theorem dX2_takes_58 : decode cX2_takes 58 = .ok (.iconst 1, 1) := by decide +kernel
theorem dX2_takes_59 : decode cX2_takes 59 = .ok (.goto 4, 3) := by decide +kernel
theorem dX2_takes_62 : decode cX2_takes 62 = .ok (.iconst 0, 1) := by decide +kernel
theorem dX2_takes_63 : decode cX2_takes 63 = .ok (.ireturn, 1) := by decide +kernel
theorem dX2_takes_64 : decode cX2_takes 64 = .ok (.aload_n 0, 1) := by decide +kernel
theorem dX2_takes_65 : decode cX2_takes 65 = .ok (.getfield 25, 3) := by decide +kernel
theorem dX2_takes_68 : decode cX2_takes 68 = .ok (.aload_n 0, 1) := by decide +kernel
theorem dX2_takes_69 : decode cX2_takes 69 = .ok (.getfield 21, 3) := by decide +kernel
theorem dX2_takes_72 : decode cX2_takes 72 = .ok (.invokevirtual 59, 3) := by decide +kernel
theorem dX2_takes_75 : decode cX2_takes 75 = .ok (.if_icmp .gt 27, 3) := by decide +kernel
theorem dX2_takes_78 : decode cX2_takes 78 = .ok (.iload_n 1, 1) := by decide +kernel
theorem dX2_takes_79 : decode cX2_takes 79 = .ok (.aload_n 0, 1) := by decide +kernel
theorem dX2_takes_80 : decode cX2_takes 80 = .ok (.getfield 21, 3) := by decide +kernel
theorem dX2_takes_83 : decode cX2_takes 83 = .ok (.aload_n 0, 1) := by decide +kernel
theorem dX2_takes_84 : decode cX2_takes 84 = .ok (.getfield 25, 3) := by decide +kernel
theorem dX2_takes_87 : decode cX2_takes 87 = .ok (.iconst 1, 1) := by decide +kernel
theorem dX2_takes_88 : decode cX2_takes 88 = .ok (.isub, 1) := by decide +kernel
theorem dX2_takes_89 : decode cX2_takes 89 = .ok (.invokevirtual 60, 3) := by decide +kernel
theorem dX2_takes_92 : decode cX2_takes 92 = .ok (.invokestatic 63, 3) := by decide +kernel
theorem dX2_takes_95 : decode cX2_takes 95 = .ok (.ifCond .eq 7, 3) := by decide +kernel
theorem dX2_takes_98 : decode cX2_takes 98 = .ok (.iconst 1, 1) := by decide +kernel
theorem dX2_takes_99 : decode cX2_takes 99 = .ok (.goto 4, 3) := by decide +kernel
theorem dX2_takes_102 : decode cX2_takes 102 = .ok (.iconst 0, 1) := by decide +kernel
theorem dX2_takes_103 : decode cX2_takes 103 = .ok (.ireturn, 1) := by decide +kernel
theorem dX2_shapeOf_0 : decode cX2_shapeOf 0 = .ok (.iload_n 0, 1) := by decide +kernel
theorem dX2_shapeOf_1 : decode cX2_shapeOf 1 = .ok (.lookupswitch 71 #[(43, 59), (45, 62), (61, 68), (106, 65), (116, 62), (120, 65)], 59) := by decide +kernel
theorem dX2_shapeOf_60 : decode cX2_shapeOf 60 = .ok (.ldc 67, 2) := by decide +kernel
theorem dX2_shapeOf_62 : decode cX2_shapeOf 62 = .ok (.areturn, 1) := by decide +kernel
theorem dX2_shapeOf_63 : decode cX2_shapeOf 63 = .ok (.ldc 69, 2) := by decide +kernel
theorem dX2_shapeOf_65 : decode cX2_shapeOf 65 = .ok (.areturn, 1) := by decide +kernel
theorem dX2_shapeOf_66 : decode cX2_shapeOf 66 = .ok (.ldc 71, 2) := by decide +kernel
theorem dX2_shapeOf_68 : decode cX2_shapeOf 68 = .ok (.areturn, 1) := by decide +kernel
theorem dX2_shapeOf_69 : decode cX2_shapeOf 69 = .ok (.ldc 73, 2) := by decide +kernel
theorem dX2_shapeOf_71 : decode cX2_shapeOf 71 = .ok (.areturn, 1) := by decide +kernel
theorem dX2_shapeOf_72 : decode cX2_shapeOf 72 = .ok (.ldc 19, 2) := by decide +kernel
theorem dX2_shapeOf_74 : decode cX2_shapeOf 74 = .ok (.areturn, 1) := by decide +kernel
theorem dX2_fits_0 : decode cX2_fits 0 = .ok (.iload_n 1, 1) := by decide +kernel
theorem dX2_fits_1 : decode cX2_fits 1 = .ok (.bipush 100, 2) := by decide +kernel
theorem dX2_fits_3 : decode cX2_fits 3 = .ok (.if_icmp .ne 23, 3) := by decide +kernel
theorem dX2_fits_6 : decode cX2_fits 6 = .ok (.iload_n 0, 1) := by decide +kernel
theorem dX2_fits_7 : decode cX2_fits 7 = .ok (.bipush 48, 2) := by decide +kernel
theorem dX2_fits_9 : decode cX2_fits 9 = .ok (.if_icmp .lt 13, 3) := by decide +kernel
theorem dX2_fits_12 : decode cX2_fits 12 = .ok (.iload_n 0, 1) := by decide +kernel
theorem dX2_fits_13 : decode cX2_fits 13 = .ok (.bipush 57, 2) := by decide +kernel
theorem dX2_fits_15 : decode cX2_fits 15 = .ok (.if_icmp .gt 7, 3) := by decide +kernel
theorem dX2_fits_18 : decode cX2_fits 18 = .ok (.iconst 1, 1) := by decide +kernel
theorem dX2_fits_19 : decode cX2_fits 19 = .ok (.goto 11, 3) := by decide +kernel
theorem dX2_fits_22 : decode cX2_fits 22 = .ok (.iconst 0, 1) := by decide +kernel
theorem dX2_fits_23 : decode cX2_fits 23 = .ok (.goto 7, 3) := by decide +kernel
theorem dX2_fits_26 : decode cX2_fits 26 = .ok (.iload_n 0, 1) := by decide +kernel
theorem dX2_fits_27 : decode cX2_fits 27 = .ok (.invokestatic 75, 3) := by decide +kernel
theorem dX2_fits_30 : decode cX2_fits 30 = .ok (.ireturn, 1) := by decide +kernel
theorem dX2_isWhole_0 : decode cX2_isWhole 0 = .ok (.aload_n 0, 1) := by decide +kernel
theorem dX2_isWhole_1 : decode cX2_isWhole 1 = .ok (.getfield 25, 3) := by decide +kernel
theorem dX2_isWhole_4 : decode cX2_isWhole 4 = .ok (.ifCond .le 37, 3) := by decide +kernel
theorem dX2_isWhole_7 : decode cX2_isWhole 7 = .ok (.aload_n 0, 1) := by decide +kernel
theorem dX2_isWhole_8 : decode cX2_isWhole 8 = .ok (.getfield 25, 3) := by decide +kernel
theorem dX2_isWhole_11 : decode cX2_isWhole 11 = .ok (.aload_n 0, 1) := by decide +kernel
theorem dX2_isWhole_12 : decode cX2_isWhole 12 = .ok (.getfield 21, 3) := by decide +kernel
theorem dX2_isWhole_15 : decode cX2_isWhole 15 = .ok (.invokevirtual 59, 3) := by decide +kernel
theorem dX2_isWhole_18 : decode cX2_isWhole 18 = .ok (.if_icmp .ge 19, 3) := by decide +kernel
theorem dX2_isWhole_21 : decode cX2_isWhole 21 = .ok (.aload_n 0, 1) := by decide +kernel
theorem dX2_isWhole_22 : decode cX2_isWhole 22 = .ok (.getfield 21, 3) := by decide +kernel
theorem dX2_isWhole_25 : decode cX2_isWhole 25 = .ok (.aload_n 0, 1) := by decide +kernel
theorem dX2_isWhole_26 : decode cX2_isWhole 26 = .ok (.getfield 25, 3) := by decide +kernel
theorem dX2_isWhole_29 : decode cX2_isWhole 29 = .ok (.invokevirtual 60, 3) := by decide +kernel
theorem dX2_isWhole_32 : decode cX2_isWhole 32 = .ok (.bipush 109, 2) := by decide +kernel
theorem dX2_isWhole_34 : decode cX2_isWhole 34 = .ok (.if_icmp .ne 7, 3) := by decide +kernel
theorem dX2_isWhole_37 : decode cX2_isWhole 37 = .ok (.iconst 1, 1) := by decide +kernel
theorem dX2_isWhole_38 : decode cX2_isWhole 38 = .ok (.goto 4, 3) := by decide +kernel
theorem dX2_isWhole_41 : decode cX2_isWhole 41 = .ok (.iconst 0, 1) := by decide +kernel
theorem dX2_isWhole_42 : decode cX2_isWhole 42 = .ok (.ireturn, 1) := by decide +kernel
theorem dX2_carryOut_0 : decode cX2_carryOut 0 = .ok (.iconst 0, 1) := by decide +kernel
theorem dX2_carryOut_1 : decode cX2_carryOut 1 = .ok (.istore 4, 2) := by decide +kernel
theorem dX2_carryOut_3 : decode cX2_carryOut 3 = .ok (.iload 4, 2) := by decide +kernel
theorem dX2_carryOut_5 : decode cX2_carryOut 5 = .ok (.aload_n 0, 1) := by decide +kernel
theorem dX2_carryOut_6 : decode cX2_carryOut 6 = .ok (.getfield 15, 3) := by decide +kernel
theorem dX2_carryOut_9 : decode cX2_carryOut 9 = .ok (.if_icmp .ge 31, 3) := by decide +kernel
theorem dX2_carryOut_12 : decode cX2_carryOut 12 = .ok (.aload_n 0, 1) := by decide +kernel
theorem dX2_carryOut_13 : decode cX2_carryOut 13 = .ok (.aload_n 1, 1) := by decide +kernel
theorem dX2_carryOut_14 : decode cX2_carryOut 14 = .ok (.iload 4, 2) := by decide +kernel
theorem dX2_carryOut_16 : decode cX2_carryOut 16 = .ok (.aload_n 2, 1) := by decide +kernel
theorem dX2_carryOut_17 : decode cX2_carryOut 17 = .ok (.aload_n 3, 1) := by decide +kernel
theorem dX2_carryOut_18 : decode cX2_carryOut 18 = .ok (.invokevirtual 79, 3) := by decide +kernel
theorem dX2_carryOut_21 : decode cX2_carryOut 21 = .ok (.ifCond .ne 13, 3) := by decide +kernel
theorem dX2_carryOut_24 : decode cX2_carryOut 24 = .ok (.aload_n 3, 1) := by decide +kernel
theorem dX2_carryOut_25 : decode cX2_carryOut 25 = .ok (.bipush 10, 2) := by decide +kernel
theorem dX2_carryOut_27 : decode cX2_carryOut 27 = .ok (.iload 4, 2) := by decide +kernel
theorem dX2_carryOut_29 : decode cX2_carryOut 29 = .ok (.invokevirtual 83, 3) := by decide +kernel
theorem dX2_carryOut_32 : decode cX2_carryOut 32 = .ok (.iconst 0, 1) := by decide +kernel
theorem dX2_carryOut_33 : decode cX2_carryOut 33 = .ok (.ireturn, 1) := by decide +kernel
theorem dX2_carryOut_34 : decode cX2_carryOut 34 = .ok (.iinc 4 1, 3) := by decide +kernel
theorem dX2_carryOut_37 : decode cX2_carryOut 37 = .ok (.goto (-34), 3) := by decide +kernel
theorem dX2_carryOut_40 : decode cX2_carryOut 40 = .ok (.iconst 1, 1) := by decide +kernel
theorem dX2_carryOut_41 : decode cX2_carryOut 41 = .ok (.ireturn, 1) := by decide +kernel
theorem dX2_carryOutOne_0 : decode cX2_carryOutOne 0 = .ok (.aload_n 0, 1) := by decide +kernel
theorem dX2_carryOutOne_1 : decode cX2_carryOutOne 1 = .ok (.getfield 9, 3) := by decide +kernel
theorem dX2_carryOutOne_4 : decode cX2_carryOutOne 4 = .ok (.iload_n 2, 1) := by decide +kernel
theorem dX2_carryOutOne_5 : decode cX2_carryOutOne 5 = .ok (.iaload, 1) := by decide +kernel
theorem dX2_carryOutOne_6 : decode cX2_carryOutOne 6 = .ok (.istore 5, 2) := by decide +kernel
theorem dX2_carryOutOne_8 : decode cX2_carryOutOne 8 = .ok (.aload_n 1, 1) := by decide +kernel
theorem dX2_carryOutOne_9 : decode cX2_carryOutOne 9 = .ok (.iload 5, 2) := by decide +kernel
theorem dX2_carryOutOne_11 : decode cX2_carryOutOne 11 = .ok (.iconst 1, 1) := by decide +kernel
theorem dX2_carryOutOne_12 : decode cX2_carryOutOne 12 = .ok (.iadd, 1) := by decide +kernel
theorem dX2_carryOutOne_13 : decode cX2_carryOutOne 13 = .ok (.invokevirtual 89, 3) := by decide +kernel
theorem dX2_carryOutOne_16 : decode cX2_carryOutOne 16 = .ok (.istore 6, 2) := by decide +kernel
theorem dX2_carryOutOne_18 : decode cX2_carryOutOne 18 = .ok (.aload_n 1, 1) := by decide +kernel
theorem dX2_carryOutOne_19 : decode cX2_carryOutOne 19 = .ok (.iload 5, 2) := by decide +kernel
theorem dX2_carryOutOne_21 : decode cX2_carryOutOne 21 = .ok (.iconst 2, 1) := by decide +kernel
theorem dX2_carryOutOne_22 : decode cX2_carryOutOne 22 = .ok (.iadd, 1) := by decide +kernel
theorem dX2_carryOutOne_23 : decode cX2_carryOutOne 23 = .ok (.invokevirtual 89, 3) := by decide +kernel
theorem dX2_carryOutOne_26 : decode cX2_carryOutOne 26 = .ok (.istore 7, 2) := by decide +kernel
theorem dX2_carryOutOne_28 : decode cX2_carryOutOne 28 = .ok (.aload_n 1, 1) := by decide +kernel
theorem dX2_carryOutOne_29 : decode cX2_carryOutOne 29 = .ok (.iload 5, 2) := by decide +kernel
theorem dX2_carryOutOne_31 : decode cX2_carryOutOne 31 = .ok (.invokevirtual 38, 3) := by decide +kernel
theorem dX2_carryOutOne_34 : decode cX2_carryOutOne 34 = .ok (.lookupswitch 118 #[(43, 50), (45, 68), (61, 77), (106, 107), (120, 96)], 50) := by decide +kernel
theorem dX2_carryOutOne_84 : decode cX2_carryOutOne 84 = .ok (.aload_n 3, 1) := by decide +kernel
theorem dX2_carryOutOne_85 : decode cX2_carryOutOne 85 = .ok (.aload 4, 2) := by decide +kernel
theorem dX2_carryOutOne_87 : decode cX2_carryOutOne 87 = .ok (.aload_n 1, 1) := by decide +kernel
theorem dX2_carryOutOne_88 : decode cX2_carryOutOne 88 = .ok (.iload 5, 2) := by decide +kernel
theorem dX2_carryOutOne_90 : decode cX2_carryOutOne 90 = .ok (.iconst 1, 1) := by decide +kernel
theorem dX2_carryOutOne_91 : decode cX2_carryOutOne 91 = .ok (.iadd, 1) := by decide +kernel
theorem dX2_carryOutOne_92 : decode cX2_carryOutOne 92 = .ok (.aload_n 0, 1) := by decide +kernel
theorem dX2_carryOutOne_93 : decode cX2_carryOutOne 93 = .ok (.iload_n 2, 1) := by decide +kernel
theorem dX2_carryOutOne_94 : decode cX2_carryOutOne 94 = .ok (.aload_n 1, 1) := by decide +kernel
theorem dX2_carryOutOne_95 : decode cX2_carryOutOne 95 = .ok (.invokevirtual 93, 3) := by decide +kernel
theorem dX2_carryOutOne_98 : decode cX2_carryOutOne 98 = .ok (.invokestatic 97, 3) := by decide +kernel
theorem dX2_carryOutOne_101 : decode cX2_carryOutOne 101 = .ok (.ireturn, 1) := by decide +kernel
theorem dX2_carryOutOne_102 : decode cX2_carryOutOne 102 = .ok (.aload_n 3, 1) := by decide +kernel
theorem dX2_carryOutOne_103 : decode cX2_carryOutOne 103 = .ok (.aload 4, 2) := by decide +kernel
theorem dX2_carryOutOne_105 : decode cX2_carryOutOne 105 = .ok (.iload 6, 2) := by decide +kernel
theorem dX2_carryOutOne_107 : decode cX2_carryOutOne 107 = .ok (.invokestatic 103, 3) := by decide +kernel
theorem dX2_carryOutOne_110 : decode cX2_carryOutOne 110 = .ok (.ireturn, 1) := by decide +kernel
theorem dX2_carryOutOne_111 : decode cX2_carryOutOne 111 = .ok (.aload_n 3, 1) := by decide +kernel
theorem dX2_carryOutOne_112 : decode cX2_carryOutOne 112 = .ok (.aload 4, 2) := by decide +kernel
theorem dX2_carryOutOne_114 : decode cX2_carryOutOne 114 = .ok (.iload 6, 2) := by decide +kernel
theorem dX2_carryOutOne_116 : decode cX2_carryOutOne 116 = .ok (.iload 7, 2) := by decide +kernel
theorem dX2_carryOutOne_118 : decode cX2_carryOutOne 118 = .ok (.aload_n 1, 1) := by decide +kernel
theorem dX2_carryOutOne_119 : decode cX2_carryOutOne 119 = .ok (.iload 5, 2) := by decide +kernel
theorem dX2_carryOutOne_121 : decode cX2_carryOutOne 121 = .ok (.iconst 3, 1) := by decide +kernel
theorem dX2_carryOutOne_122 : decode cX2_carryOutOne 122 = .ok (.iadd, 1) := by decide +kernel
theorem dX2_carryOutOne_123 : decode cX2_carryOutOne 123 = .ok (.invokevirtual 38, 3) := by decide +kernel
theorem dX2_carryOutOne_126 : decode cX2_carryOutOne 126 = .ok (.invokestatic 107, 3) := by decide +kernel
theorem dX2_carryOutOne_129 : decode cX2_carryOutOne 129 = .ok (.ireturn, 1) := by decide +kernel
theorem dX2_carryOutOne_130 : decode cX2_carryOutOne 130 = .ok (.aload_n 3, 1) := by decide +kernel
theorem dX2_carryOutOne_131 : decode cX2_carryOutOne 131 = .ok (.aload 4, 2) := by decide +kernel
theorem dX2_carryOutOne_133 : decode cX2_carryOutOne 133 = .ok (.iload 6, 2) := by decide +kernel
theorem dX2_carryOutOne_135 : decode cX2_carryOutOne 135 = .ok (.iload 7, 2) := by decide +kernel
theorem dX2_carryOutOne_137 : decode cX2_carryOutOne 137 = .ok (.invokestatic 111, 3) := by decide +kernel
theorem dX2_carryOutOne_140 : decode cX2_carryOutOne 140 = .ok (.ireturn, 1) := by decide +kernel
theorem dX2_carryOutOne_141 : decode cX2_carryOutOne 141 = .ok (.aload_n 3, 1) := by decide +kernel
theorem dX2_carryOutOne_142 : decode cX2_carryOutOne 142 = .ok (.aload 4, 2) := by decide +kernel
theorem dX2_carryOutOne_144 : decode cX2_carryOutOne 144 = .ok (.iload 6, 2) := by decide +kernel
theorem dX2_carryOutOne_146 : decode cX2_carryOutOne 146 = .ok (.iload 7, 2) := by decide +kernel
theorem dX2_carryOutOne_148 : decode cX2_carryOutOne 148 = .ok (.invokestatic 115, 3) := by decide +kernel
theorem dX2_carryOutOne_151 : decode cX2_carryOutOne 151 = .ok (.ireturn, 1) := by decide +kernel
theorem dX2_carryOutOne_152 : decode cX2_carryOutOne 152 = .ok (.aload_n 3, 1) := by decide +kernel
theorem dX2_carryOutOne_153 : decode cX2_carryOutOne 153 = .ok (.aload 4, 2) := by decide +kernel
theorem dX2_carryOutOne_155 : decode cX2_carryOutOne 155 = .ok (.iload 6, 2) := by decide +kernel
theorem dX2_carryOutOne_157 : decode cX2_carryOutOne 157 = .ok (.invokestatic 118, 3) := by decide +kernel
theorem dX2_carryOutOne_160 : decode cX2_carryOutOne 160 = .ok (.ireturn, 1) := by decide +kernel
theorem dX2_endOf_0 : decode cX2_endOf 0 = .ok (.iload_n 1, 1) := by decide +kernel
theorem dX2_endOf_1 : decode cX2_endOf 1 = .ok (.iconst 1, 1) := by decide +kernel
theorem dX2_endOf_2 : decode cX2_endOf 2 = .ok (.iadd, 1) := by decide +kernel
theorem dX2_endOf_3 : decode cX2_endOf 3 = .ok (.aload_n 0, 1) := by decide +kernel
theorem dX2_endOf_4 : decode cX2_endOf 4 = .ok (.getfield 15, 3) := by decide +kernel
theorem dX2_endOf_7 : decode cX2_endOf 7 = .ok (.if_icmp .ge 16, 3) := by decide +kernel
theorem dX2_endOf_10 : decode cX2_endOf 10 = .ok (.aload_n 0, 1) := by decide +kernel
theorem dX2_endOf_11 : decode cX2_endOf 11 = .ok (.getfield 9, 3) := by decide +kernel
theorem dX2_endOf_14 : decode cX2_endOf 14 = .ok (.iload_n 1, 1) := by decide +kernel
theorem dX2_endOf_15 : decode cX2_endOf 15 = .ok (.iconst 1, 1) := by decide +kernel
theorem dX2_endOf_16 : decode cX2_endOf 16 = .ok (.iadd, 1) := by decide +kernel
theorem dX2_endOf_17 : decode cX2_endOf 17 = .ok (.iaload, 1) := by decide +kernel
theorem dX2_endOf_18 : decode cX2_endOf 18 = .ok (.iconst 1, 1) := by decide +kernel
theorem dX2_endOf_19 : decode cX2_endOf 19 = .ok (.isub, 1) := by decide +kernel
theorem dX2_endOf_20 : decode cX2_endOf 20 = .ok (.goto 7, 3) := by decide +kernel
theorem dX2_endOf_23 : decode cX2_endOf 23 = .ok (.aload_n 2, 1) := by decide +kernel
theorem dX2_endOf_24 : decode cX2_endOf 24 = .ok (.invokevirtual 32, 3) := by decide +kernel
theorem dX2_endOf_27 : decode cX2_endOf 27 = .ok (.ireturn, 1) := by decide +kernel
theorem dX3_init_0 : decode cX3_init 0 = .ok (.aload_n 0, 1) := by decide +kernel
theorem dX3_init_1 : decode cX3_init 1 = .ok (.invokespecial 3, 3) := by decide +kernel
theorem dX3_init_4 : decode cX3_init 4 = .ok (.aload_n 0, 1) := by decide +kernel
theorem dX3_init_5 : decode cX3_init 5 = .ok (.bipush 80, 2) := by decide +kernel
theorem dX3_init_7 : decode cX3_init 7 = .ok (.newarray .int, 2) := by decide +kernel
theorem dX3_init_9 : decode cX3_init 9 = .ok (.putfield 9, 3) := by decide +kernel
theorem dX3_init_12 : decode cX3_init 12 = .ok (.aload_n 0, 1) := by decide +kernel
theorem dX3_init_13 : decode cX3_init 13 = .ok (.bipush 80, 2) := by decide +kernel
theorem dX3_init_15 : decode cX3_init 15 = .ok (.newarray .int, 2) := by decide +kernel
theorem dX3_init_17 : decode cX3_init 17 = .ok (.putfield 15, 3) := by decide +kernel
theorem dX3_init_20 : decode cX3_init 20 = .ok (.aload_n 0, 1) := by decide +kernel
theorem dX3_init_21 : decode cX3_init 21 = .ok (.bipush 80, 2) := by decide +kernel
theorem dX3_init_23 : decode cX3_init 23 = .ok (.newarray .int, 2) := by decide +kernel
theorem dX3_init_25 : decode cX3_init 25 = .ok (.putfield 18, 3) := by decide +kernel
theorem dX3_init_28 : decode cX3_init 28 = .ok (.aload_n 0, 1) := by decide +kernel
theorem dX3_init_29 : decode cX3_init 29 = .ok (.iconst 0, 1) := by decide +kernel
theorem dX3_init_30 : decode cX3_init 30 = .ok (.putfield 21, 3) := by decide +kernel
theorem dX3_init_33 : decode cX3_init 33 = .ok (.return_, 1) := by decide +kernel
theorem dX3_endings_0 : decode cX3_endings 0 = .ok (.aload_n 0, 1) := by decide +kernel
theorem dX3_endings_1 : decode cX3_endings 1 = .ok (.getfield 21, 3) := by decide +kernel
theorem dX3_endings_4 : decode cX3_endings 4 = .ok (.ireturn, 1) := by decide +kernel
theorem dX3_hasRank_0 : decode cX3_hasRank 0 = .ok (.iload_n 1, 1) := by decide +kernel
theorem dX3_hasRank_1 : decode cX3_hasRank 1 = .ok (.ifCond .lt 15, 3) := by decide +kernel
theorem dX3_hasRank_4 : decode cX3_hasRank 4 = .ok (.iload_n 1, 1) := by decide +kernel
theorem dX3_hasRank_5 : decode cX3_hasRank 5 = .ok (.aload_n 0, 1) := by decide +kernel
theorem dX3_hasRank_6 : decode cX3_hasRank 6 = .ok (.getfield 21, 3) := by decide +kernel
theorem dX3_hasRank_9 : decode cX3_hasRank 9 = .ok (.if_icmp .ge 7, 3) := by decide +kernel
theorem dX3_hasRank_12 : decode cX3_hasRank 12 = .ok (.iconst 1, 1) := by decide +kernel
theorem dX3_hasRank_13 : decode cX3_hasRank 13 = .ok (.goto 4, 3) := by decide +kernel
theorem dX3_hasRank_16 : decode cX3_hasRank 16 = .ok (.iconst 0, 1) := by decide +kernel
theorem dX3_hasRank_17 : decode cX3_hasRank 17 = .ok (.ireturn, 1) := by decide +kernel
theorem dX3_lineAt_0 : decode cX3_lineAt 0 = .ok (.aload_n 0, 1) := by decide +kernel
theorem dX3_lineAt_1 : decode cX3_lineAt 1 = .ok (.iload_n 1, 1) := by decide +kernel
theorem dX3_lineAt_2 : decode cX3_lineAt 2 = .ok (.invokevirtual 25, 3) := by decide +kernel
theorem dX3_lineAt_5 : decode cX3_lineAt 5 = .ok (.ifCond .eq 12, 3) := by decide +kernel
theorem dX3_lineAt_8 : decode cX3_lineAt 8 = .ok (.aload_n 0, 1) := by decide +kernel
theorem dX3_lineAt_9 : decode cX3_lineAt 9 = .ok (.getfield 9, 3) := by decide +kernel
theorem dX3_lineAt_12 : decode cX3_lineAt 12 = .ok (.iload_n 1, 1) := by decide +kernel
theorem dX3_lineAt_13 : decode cX3_lineAt 13 = .ok (.iaload, 1) := by decide +kernel
theorem dX3_lineAt_14 : decode cX3_lineAt 14 = .ok (.goto 4, 3) := by decide +kernel
theorem dX3_lineAt_17 : decode cX3_lineAt 17 = .ok (.iconst 0, 1) := by decide +kernel
theorem dX3_lineAt_18 : decode cX3_lineAt 18 = .ok (.ireturn, 1) := by decide +kernel
theorem dX3_placeAt_0 : decode cX3_placeAt 0 = .ok (.aload_n 0, 1) := by decide +kernel
theorem dX3_placeAt_1 : decode cX3_placeAt 1 = .ok (.iload_n 1, 1) := by decide +kernel
theorem dX3_placeAt_2 : decode cX3_placeAt 2 = .ok (.invokevirtual 25, 3) := by decide +kernel
theorem dX3_placeAt_5 : decode cX3_placeAt 5 = .ok (.ifCond .eq 12, 3) := by decide +kernel
theorem dX3_placeAt_8 : decode cX3_placeAt 8 = .ok (.aload_n 0, 1) := by decide +kernel
theorem dX3_placeAt_9 : decode cX3_placeAt 9 = .ok (.getfield 15, 3) := by decide +kernel
theorem dX3_placeAt_12 : decode cX3_placeAt 12 = .ok (.iload_n 1, 1) := by decide +kernel
theorem dX3_placeAt_13 : decode cX3_placeAt 13 = .ok (.iaload, 1) := by decide +kernel
theorem dX3_placeAt_14 : decode cX3_placeAt 14 = .ok (.goto 4, 3) := by decide +kernel
theorem dX3_placeAt_17 : decode cX3_placeAt 17 = .ok (.iconst 0, 1) := by decide +kernel
theorem dX3_placeAt_18 : decode cX3_placeAt 18 = .ok (.ireturn, 1) := by decide +kernel
theorem dX3_commonAt_0 : decode cX3_commonAt 0 = .ok (.aload_n 0, 1) := by decide +kernel
theorem dX3_commonAt_1 : decode cX3_commonAt 1 = .ok (.iload_n 1, 1) := by decide +kernel
theorem dX3_commonAt_2 : decode cX3_commonAt 2 = .ok (.invokevirtual 25, 3) := by decide +kernel
theorem dX3_commonAt_5 : decode cX3_commonAt 5 = .ok (.ifCond .eq 12, 3) := by decide +kernel
theorem dX3_commonAt_8 : decode cX3_commonAt 8 = .ok (.aload_n 0, 1) := by decide +kernel
theorem dX3_commonAt_9 : decode cX3_commonAt 9 = .ok (.getfield 18, 3) := by decide +kernel
theorem dX3_commonAt_12 : decode cX3_commonAt 12 = .ok (.iload_n 1, 1) := by decide +kernel
theorem dX3_commonAt_13 : decode cX3_commonAt 13 = .ok (.iaload, 1) := by decide +kernel
theorem dX3_commonAt_14 : decode cX3_commonAt 14 = .ok (.goto 4, 3) := by decide +kernel
theorem dX3_commonAt_17 : decode cX3_commonAt 17 = .ok (.iconst 0, 1) := by decide +kernel
theorem dX3_commonAt_18 : decode cX3_commonAt 18 = .ok (.ireturn, 1) := by decide +kernel
theorem dX3_sort_0 : decode cX3_sort 0 = .ok (.aload_n 0, 1) := by decide +kernel
theorem dX3_sort_1 : decode cX3_sort 1 = .ok (.iconst 0, 1) := by decide +kernel
theorem dX3_sort_2 : decode cX3_sort 2 = .ok (.putfield 21, 3) := by decide +kernel
theorem dX3_sort_5 : decode cX3_sort 5 = .ok (.iconst 0, 1) := by decide +kernel
theorem dX3_sort_6 : decode cX3_sort 6 = .ok (.istore_n 2, 1) := by decide +kernel
theorem dX3_sort_7 : decode cX3_sort 7 = .ok (.iload_n 2, 1) := by decide +kernel
theorem dX3_sort_8 : decode cX3_sort 8 = .ok (.aload_n 1, 1) := by decide +kernel
theorem dX3_sort_9 : decode cX3_sort 9 = .ok (.invokevirtual 29, 3) := by decide +kernel
theorem dX3_sort_12 : decode cX3_sort 12 = .ok (.if_icmp .ge 39, 3) := by decide +kernel
theorem dX3_sort_15 : decode cX3_sort 15 = .ok (.iconst 0, 1) := by decide +kernel
theorem dX3_sort_16 : decode cX3_sort 16 = .ok (.istore_n 3, 1) := by decide +kernel
theorem dX3_sort_17 : decode cX3_sort 17 = .ok (.iload_n 3, 1) := by decide +kernel
theorem dX3_sort_18 : decode cX3_sort 18 = .ok (.aload_n 1, 1) := by decide +kernel
theorem dX3_sort_19 : decode cX3_sort 19 = .ok (.iload_n 2, 1) := by decide +kernel
theorem dX3_sort_20 : decode cX3_sort 20 = .ok (.invokevirtual 34, 3) := by decide +kernel
theorem dX3_sort_23 : decode cX3_sort 23 = .ok (.if_icmp .ge 22, 3) := by decide +kernel
theorem dX3_sort_26 : decode cX3_sort 26 = .ok (.aload_n 0, 1) := by decide +kernel
theorem dX3_sort_27 : decode cX3_sort 27 = .ok (.aload_n 0, 1) := by decide +kernel
theorem dX3_sort_28 : decode cX3_sort 28 = .ok (.aload_n 1, 1) := by decide +kernel
theorem dX3_sort_29 : decode cX3_sort 29 = .ok (.iload_n 2, 1) := by decide +kernel
theorem dX3_sort_30 : decode cX3_sort 30 = .ok (.iload_n 3, 1) := by decide +kernel
theorem dX3_sort_31 : decode cX3_sort 31 = .ok (.invokevirtual 38, 3) := by decide +kernel
theorem dX3_sort_34 : decode cX3_sort 34 = .ok (.iload_n 2, 1) := by decide +kernel
theorem dX3_sort_35 : decode cX3_sort 35 = .ok (.iload_n 3, 1) := by decide +kernel
theorem dX3_sort_36 : decode cX3_sort 36 = .ok (.invokevirtual 42, 3) := by decide +kernel
theorem dX3_sort_39 : decode cX3_sort 39 = .ok (.iinc 3 1, 3) := by decide +kernel
theorem dX3_sort_42 : decode cX3_sort 42 = .ok (.goto (-25), 3) := by decide +kernel
theorem dX3_sort_45 : decode cX3_sort 45 = .ok (.iinc 2 1, 3) := by decide +kernel
theorem dX3_sort_48 : decode cX3_sort 48 = .ok (.goto (-41), 3) := by decide +kernel
theorem dX3_sort_51 : decode cX3_sort 51 = .ok (.iconst 1, 1) := by decide +kernel
theorem dX3_sort_52 : decode cX3_sort 52 = .ok (.istore_n 2, 1) := by decide +kernel
theorem dX3_sort_53 : decode cX3_sort 53 = .ok (.iload_n 2, 1) := by decide +kernel
theorem dX3_sort_54 : decode cX3_sort 54 = .ok (.aload_n 0, 1) := by decide +kernel
theorem dX3_sort_55 : decode cX3_sort 55 = .ok (.getfield 21, 3) := by decide +kernel
theorem dX3_sort_58 : decode cX3_sort 58 = .ok (.if_icmp .ge 47, 3) := by decide +kernel
theorem dX3_sort_61 : decode cX3_sort 61 = .ok (.aload_n 0, 1) := by decide +kernel
theorem dX3_sort_62 : decode cX3_sort 62 = .ok (.getfield 18, 3) := by decide +kernel
theorem dX3_sort_65 : decode cX3_sort 65 = .ok (.iload_n 2, 1) := by decide +kernel
theorem dX3_sort_66 : decode cX3_sort 66 = .ok (.aload_n 1, 1) := by decide +kernel
theorem dX3_sort_67 : decode cX3_sort 67 = .ok (.aload_n 0, 1) := by decide +kernel
theorem dX3_sort_68 : decode cX3_sort 68 = .ok (.getfield 9, 3) := by decide +kernel
theorem dX3_sort_71 : decode cX3_sort 71 = .ok (.iload_n 2, 1) := by decide +kernel
theorem dX3_sort_72 : decode cX3_sort 72 = .ok (.iconst 1, 1) := by decide +kernel
theorem dX3_sort_73 : decode cX3_sort 73 = .ok (.isub, 1) := by decide +kernel
theorem dX3_sort_74 : decode cX3_sort 74 = .ok (.iaload, 1) := by decide +kernel
theorem dX3_sort_75 : decode cX3_sort 75 = .ok (.aload_n 0, 1) := by decide +kernel
theorem dX3_sort_76 : decode cX3_sort 76 = .ok (.getfield 15, 3) := by decide +kernel
theorem dX3_sort_79 : decode cX3_sort 79 = .ok (.iload_n 2, 1) := by decide +kernel
theorem dX3_sort_80 : decode cX3_sort 80 = .ok (.iconst 1, 1) := by decide +kernel
theorem dX3_sort_81 : decode cX3_sort 81 = .ok (.isub, 1) := by decide +kernel
theorem dX3_sort_82 : decode cX3_sort 82 = .ok (.iaload, 1) := by decide +kernel
theorem dX3_sort_83 : decode cX3_sort 83 = .ok (.aload_n 0, 1) := by decide +kernel
theorem dX3_sort_84 : decode cX3_sort 84 = .ok (.getfield 9, 3) := by decide +kernel
theorem dX3_sort_87 : decode cX3_sort 87 = .ok (.iload_n 2, 1) := by decide +kernel
theorem dX3_sort_88 : decode cX3_sort 88 = .ok (.iaload, 1) := by decide +kernel
theorem dX3_sort_89 : decode cX3_sort 89 = .ok (.aload_n 0, 1) := by decide +kernel
theorem dX3_sort_90 : decode cX3_sort 90 = .ok (.getfield 15, 3) := by decide +kernel
theorem dX3_sort_93 : decode cX3_sort 93 = .ok (.iload_n 2, 1) := by decide +kernel
theorem dX3_sort_94 : decode cX3_sort 94 = .ok (.iaload, 1) := by decide +kernel
theorem dX3_sort_95 : decode cX3_sort 95 = .ok (.invokevirtual 46, 3) := by decide +kernel
theorem dX3_sort_98 : decode cX3_sort 98 = .ok (.iastore, 1) := by decide +kernel
theorem dX3_sort_99 : decode cX3_sort 99 = .ok (.iinc 2 1, 3) := by decide +kernel
theorem dX3_sort_102 : decode cX3_sort 102 = .ok (.goto (-49), 3) := by decide +kernel
theorem dX3_sort_105 : decode cX3_sort 105 = .ok (.return_, 1) := by decide +kernel
theorem dX3_rankToTake_0 : decode cX3_rankToTake 0 = .ok (.iconst 0, 1) := by decide +kernel
theorem dX3_rankToTake_1 : decode cX3_rankToTake 1 = .ok (.istore 4, 2) := by decide +kernel
theorem dX3_rankToTake_3 : decode cX3_rankToTake 3 = .ok (.aload_n 0, 1) := by decide +kernel
theorem dX3_rankToTake_4 : decode cX3_rankToTake 4 = .ok (.getfield 21, 3) := by decide +kernel
theorem dX3_rankToTake_7 : decode cX3_rankToTake 7 = .ok (.istore 5, 2) := by decide +kernel
theorem dX3_rankToTake_9 : decode cX3_rankToTake 9 = .ok (.iconst 0, 1) := by decide +kernel
theorem dX3_rankToTake_10 : decode cX3_rankToTake 10 = .ok (.istore 6, 2) := by decide +kernel
theorem dX3_rankToTake_12 : decode cX3_rankToTake 12 = .ok (.iload 6, 2) := by decide +kernel
theorem dX3_rankToTake_14 : decode cX3_rankToTake 14 = .ok (.bipush 100, 2) := by decide +kernel
theorem dX3_rankToTake_16 : decode cX3_rankToTake 16 = .ok (.if_icmp .ge 59, 3) := by decide +kernel
theorem dX3_rankToTake_19 : decode cX3_rankToTake 19 = .ok (.iload 4, 2) := by decide +kernel
theorem dX3_rankToTake_21 : decode cX3_rankToTake 21 = .ok (.iload 5, 2) := by decide +kernel
theorem dX3_rankToTake_23 : decode cX3_rankToTake 23 = .ok (.if_icmp .ge 52, 3) := by decide +kernel
theorem dX3_rankToTake_26 : decode cX3_rankToTake 26 = .ok (.iload 4, 2) := by decide +kernel
theorem dX3_rankToTake_28 : decode cX3_rankToTake 28 = .ok (.iload 5, 2) := by decide +kernel
theorem dX3_rankToTake_30 : decode cX3_rankToTake 30 = .ok (.iadd, 1) := by decide +kernel
theorem dX3_rankToTake_31 : decode cX3_rankToTake 31 = .ok (.iconst 2, 1) := by decide +kernel
theorem dX3_rankToTake_32 : decode cX3_rankToTake 32 = .ok (.idiv, 1) := by decide +kernel
theorem dX3_rankToTake_33 : decode cX3_rankToTake 33 = .ok (.istore 7, 2) := by decide +kernel
theorem dX3_rankToTake_35 : decode cX3_rankToTake 35 = .ok (.aload_n 1, 1) := by decide +kernel
theorem dX3_rankToTake_36 : decode cX3_rankToTake 36 = .ok (.aload_n 0, 1) := by decide +kernel
theorem dX3_rankToTake_37 : decode cX3_rankToTake 37 = .ok (.iload 7, 2) := by decide +kernel
theorem dX3_rankToTake_39 : decode cX3_rankToTake 39 = .ok (.invokevirtual 50, 3) := by decide +kernel
theorem dX3_rankToTake_42 : decode cX3_rankToTake 42 = .ok (.aload_n 0, 1) := by decide +kernel
theorem dX3_rankToTake_43 : decode cX3_rankToTake 43 = .ok (.iload 7, 2) := by decide +kernel
theorem dX3_rankToTake_45 : decode cX3_rankToTake 45 = .ok (.invokevirtual 53, 3) := by decide +kernel
theorem dX3_rankToTake_48 : decode cX3_rankToTake 48 = .ok (.iload_n 2, 1) := by decide +kernel
theorem dX3_rankToTake_49 : decode cX3_rankToTake 49 = .ok (.iload_n 3, 1) := by decide +kernel
theorem dX3_rankToTake_50 : decode cX3_rankToTake 50 = .ok (.invokevirtual 56, 3) := by decide +kernel
theorem dX3_rankToTake_53 : decode cX3_rankToTake 53 = .ok (.ifCond .eq 12, 3) := by decide +kernel
theorem dX3_rankToTake_56 : decode cX3_rankToTake 56 = .ok (.iload 7, 2) := by decide +kernel
theorem dX3_rankToTake_58 : decode cX3_rankToTake 58 = .ok (.iconst 1, 1) := by decide +kernel
theorem dX3_rankToTake_59 : decode cX3_rankToTake 59 = .ok (.iadd, 1) := by decide +kernel
theorem dX3_rankToTake_60 : decode cX3_rankToTake 60 = .ok (.istore 4, 2) := by decide +kernel
theorem dX3_rankToTake_62 : decode cX3_rankToTake 62 = .ok (.goto 7, 3) := by decide +kernel
theorem dX3_rankToTake_65 : decode cX3_rankToTake 65 = .ok (.iload 7, 2) := by decide +kernel
theorem dX3_rankToTake_67 : decode cX3_rankToTake 67 = .ok (.istore 5, 2) := by decide +kernel
theorem dX3_rankToTake_69 : decode cX3_rankToTake 69 = .ok (.iinc 6 1, 3) := by decide +kernel
theorem dX3_rankToTake_72 : decode cX3_rankToTake 72 = .ok (.goto (-60), 3) := by decide +kernel
theorem dX3_rankToTake_75 : decode cX3_rankToTake 75 = .ok (.iload 4, 2) := by decide +kernel
theorem dX3_rankToTake_77 : decode cX3_rankToTake 77 = .ok (.ireturn, 1) := by decide +kernel
theorem dX3_insert_0 : decode cX3_insert 0 = .ok (.iload_n 1, 1) := by decide +kernel
theorem dX3_insert_1 : decode cX3_insert 1 = .ok (.ifCond .lt 94, 3) := by decide +kernel
theorem dX3_insert_4 : decode cX3_insert 4 = .ok (.iload_n 1, 1) := by decide +kernel
theorem dX3_insert_5 : decode cX3_insert 5 = .ok (.aload_n 0, 1) := by decide +kernel
theorem dX3_insert_6 : decode cX3_insert 6 = .ok (.getfield 21, 3) := by decide +kernel
theorem dX3_insert_9 : decode cX3_insert 9 = .ok (.if_icmp .gt 86, 3) := by decide +kernel
theorem dX3_insert_12 : decode cX3_insert 12 = .ok (.aload_n 0, 1) := by decide +kernel
theorem dX3_insert_13 : decode cX3_insert 13 = .ok (.getfield 21, 3) := by decide +kernel
theorem dX3_insert_16 : decode cX3_insert 16 = .ok (.bipush 80, 2) := by decide +kernel
theorem dX3_insert_18 : decode cX3_insert 18 = .ok (.if_icmp .ge 77, 3) := by decide +kernel
theorem dX3_insert_21 : decode cX3_insert 21 = .ok (.aload_n 0, 1) := by decide +kernel
theorem dX3_insert_22 : decode cX3_insert 22 = .ok (.getfield 21, 3) := by decide +kernel
theorem dX3_insert_25 : decode cX3_insert 25 = .ok (.istore 4, 2) := by decide +kernel
theorem dX3_insert_27 : decode cX3_insert 27 = .ok (.iload 4, 2) := by decide +kernel
theorem dX3_insert_29 : decode cX3_insert 29 = .ok (.iload_n 1, 1) := by decide +kernel
theorem dX3_insert_30 : decode cX3_insert 30 = .ok (.if_icmp .le 41, 3) := by decide +kernel
theorem dX3_insert_33 : decode cX3_insert 33 = .ok (.aload_n 0, 1) := by decide +kernel
theorem dX3_insert_34 : decode cX3_insert 34 = .ok (.getfield 9, 3) := by decide +kernel
theorem dX3_insert_37 : decode cX3_insert 37 = .ok (.iload 4, 2) := by decide +kernel
theorem dX3_insert_39 : decode cX3_insert 39 = .ok (.aload_n 0, 1) := by decide +kernel
theorem dX3_insert_40 : decode cX3_insert 40 = .ok (.getfield 9, 3) := by decide +kernel
theorem dX3_insert_43 : decode cX3_insert 43 = .ok (.iload 4, 2) := by decide +kernel
theorem dX3_insert_45 : decode cX3_insert 45 = .ok (.iconst 1, 1) := by decide +kernel
theorem dX3_insert_46 : decode cX3_insert 46 = .ok (.isub, 1) := by decide +kernel
theorem dX3_insert_47 : decode cX3_insert 47 = .ok (.iaload, 1) := by decide +kernel
theorem dX3_insert_48 : decode cX3_insert 48 = .ok (.iastore, 1) := by decide +kernel
theorem dX3_insert_49 : decode cX3_insert 49 = .ok (.aload_n 0, 1) := by decide +kernel
theorem dX3_insert_50 : decode cX3_insert 50 = .ok (.getfield 15, 3) := by decide +kernel
theorem dX3_insert_53 : decode cX3_insert 53 = .ok (.iload 4, 2) := by decide +kernel
theorem dX3_insert_55 : decode cX3_insert 55 = .ok (.aload_n 0, 1) := by decide +kernel
theorem dX3_insert_56 : decode cX3_insert 56 = .ok (.getfield 15, 3) := by decide +kernel
theorem dX3_insert_59 : decode cX3_insert 59 = .ok (.iload 4, 2) := by decide +kernel
theorem dX3_insert_61 : decode cX3_insert 61 = .ok (.iconst 1, 1) := by decide +kernel
theorem dX3_insert_62 : decode cX3_insert 62 = .ok (.isub, 1) := by decide +kernel
theorem dX3_insert_63 : decode cX3_insert 63 = .ok (.iaload, 1) := by decide +kernel
theorem dX3_insert_64 : decode cX3_insert 64 = .ok (.iastore, 1) := by decide +kernel
theorem dX3_insert_65 : decode cX3_insert 65 = .ok (.iinc 4 (-1), 3) := by decide +kernel
theorem dX3_insert_68 : decode cX3_insert 68 = .ok (.goto (-41), 3) := by decide +kernel
theorem dX3_insert_71 : decode cX3_insert 71 = .ok (.aload_n 0, 1) := by decide +kernel
theorem dX3_insert_72 : decode cX3_insert 72 = .ok (.getfield 9, 3) := by decide +kernel
theorem dX3_insert_75 : decode cX3_insert 75 = .ok (.iload_n 1, 1) := by decide +kernel
theorem dX3_insert_76 : decode cX3_insert 76 = .ok (.iload_n 2, 1) := by decide +kernel
theorem dX3_insert_77 : decode cX3_insert 77 = .ok (.iastore, 1) := by decide +kernel
theorem dX3_insert_78 : decode cX3_insert 78 = .ok (.aload_n 0, 1) := by decide +kernel
theorem dX3_insert_79 : decode cX3_insert 79 = .ok (.getfield 15, 3) := by decide +kernel
theorem dX3_insert_82 : decode cX3_insert 82 = .ok (.iload_n 1, 1) := by decide +kernel
theorem dX3_insert_83 : decode cX3_insert 83 = .ok (.iload_n 3, 1) := by decide +kernel
theorem dX3_insert_84 : decode cX3_insert 84 = .ok (.iastore, 1) := by decide +kernel
theorem dX3_insert_85 : decode cX3_insert 85 = .ok (.aload_n 0, 1) := by decide +kernel
theorem dX3_insert_86 : decode cX3_insert 86 = .ok (.dup, 1) := by decide +kernel
theorem dX3_insert_87 : decode cX3_insert 87 = .ok (.getfield 21, 3) := by decide +kernel
theorem dX3_insert_90 : decode cX3_insert 90 = .ok (.iconst 1, 1) := by decide +kernel
theorem dX3_insert_91 : decode cX3_insert 91 = .ok (.iadd, 1) := by decide +kernel
theorem dX3_insert_92 : decode cX3_insert 92 = .ok (.putfield 21, 3) := by decide +kernel
theorem dX3_insert_95 : decode cX3_insert 95 = .ok (.return_, 1) := by decide +kernel
theorem dX3_rankOf_0 : decode cX3_rankOf 0 = .ok (.iconst 0, 1) := by decide +kernel
theorem dX3_rankOf_1 : decode cX3_rankOf 1 = .ok (.istore_n 3, 1) := by decide +kernel
theorem dX3_rankOf_2 : decode cX3_rankOf 2 = .ok (.iload_n 3, 1) := by decide +kernel
theorem dX3_rankOf_3 : decode cX3_rankOf 3 = .ok (.aload_n 0, 1) := by decide +kernel
theorem dX3_rankOf_4 : decode cX3_rankOf 4 = .ok (.getfield 21, 3) := by decide +kernel
theorem dX3_rankOf_7 : decode cX3_rankOf 7 = .ok (.if_icmp .ge 29, 3) := by decide +kernel
theorem dX3_rankOf_10 : decode cX3_rankOf 10 = .ok (.aload_n 0, 1) := by decide +kernel
theorem dX3_rankOf_11 : decode cX3_rankOf 11 = .ok (.getfield 9, 3) := by decide +kernel
theorem dX3_rankOf_14 : decode cX3_rankOf 14 = .ok (.iload_n 3, 1) := by decide +kernel
theorem dX3_rankOf_15 : decode cX3_rankOf 15 = .ok (.iaload, 1) := by decide +kernel
theorem dX3_rankOf_16 : decode cX3_rankOf 16 = .ok (.iload_n 1, 1) := by decide +kernel
theorem dX3_rankOf_17 : decode cX3_rankOf 17 = .ok (.if_icmp .ne 13, 3) := by decide +kernel
theorem dX3_rankOf_20 : decode cX3_rankOf 20 = .ok (.aload_n 0, 1) := by decide +kernel
theorem dX3_rankOf_21 : decode cX3_rankOf 21 = .ok (.getfield 15, 3) := by decide +kernel
theorem dX3_rankOf_24 : decode cX3_rankOf 24 = .ok (.iload_n 3, 1) := by decide +kernel
theorem dX3_rankOf_25 : decode cX3_rankOf 25 = .ok (.iaload, 1) := by decide +kernel
theorem dX3_rankOf_26 : decode cX3_rankOf 26 = .ok (.iload_n 2, 1) := by decide +kernel
theorem dX3_rankOf_27 : decode cX3_rankOf 27 = .ok (.if_icmp .eq 9, 3) := by decide +kernel
theorem dX3_rankOf_30 : decode cX3_rankOf 30 = .ok (.iinc 3 1, 3) := by decide +kernel
theorem dX3_rankOf_33 : decode cX3_rankOf 33 = .ok (.goto (-31), 3) := by decide +kernel
theorem dX3_rankOf_36 : decode cX3_rankOf 36 = .ok (.iload_n 3, 1) := by decide +kernel
theorem dX3_rankOf_37 : decode cX3_rankOf 37 = .ok (.ireturn, 1) := by decide +kernel
theorem dX3_longestCommon_0 : decode cX3_longestCommon 0 = .ok (.iconst 0, 1) := by decide +kernel
theorem dX3_longestCommon_1 : decode cX3_longestCommon 1 = .ok (.istore_n 1, 1) := by decide +kernel
theorem dX3_longestCommon_2 : decode cX3_longestCommon 2 = .ok (.iconst 1, 1) := by decide +kernel
theorem dX3_longestCommon_3 : decode cX3_longestCommon 3 = .ok (.istore_n 2, 1) := by decide +kernel
theorem dX3_longestCommon_4 : decode cX3_longestCommon 4 = .ok (.iload_n 2, 1) := by decide +kernel
theorem dX3_longestCommon_5 : decode cX3_longestCommon 5 = .ok (.aload_n 0, 1) := by decide +kernel
theorem dX3_longestCommon_6 : decode cX3_longestCommon 6 = .ok (.getfield 21, 3) := by decide +kernel
theorem dX3_longestCommon_9 : decode cX3_longestCommon 9 = .ok (.if_icmp .ge 20, 3) := by decide +kernel
theorem dX3_longestCommon_12 : decode cX3_longestCommon 12 = .ok (.iload_n 1, 1) := by decide +kernel
theorem dX3_longestCommon_13 : decode cX3_longestCommon 13 = .ok (.aload_n 0, 1) := by decide +kernel
theorem dX3_longestCommon_14 : decode cX3_longestCommon 14 = .ok (.getfield 18, 3) := by decide +kernel
theorem dX3_longestCommon_17 : decode cX3_longestCommon 17 = .ok (.iload_n 2, 1) := by decide +kernel
theorem dX3_longestCommon_18 : decode cX3_longestCommon 18 = .ok (.iaload, 1) := by decide +kernel
theorem dX3_longestCommon_19 : decode cX3_longestCommon 19 = .ok (.invokestatic 60, 3) := by decide +kernel
theorem dX3_longestCommon_22 : decode cX3_longestCommon 22 = .ok (.istore_n 1, 1) := by decide +kernel
theorem dX3_longestCommon_23 : decode cX3_longestCommon 23 = .ok (.iinc 2 1, 3) := by decide +kernel
theorem dX3_longestCommon_26 : decode cX3_longestCommon 26 = .ok (.goto (-22), 3) := by decide +kernel
theorem dX3_longestCommon_29 : decode cX3_longestCommon 29 = .ok (.iload_n 1, 1) := by decide +kernel
theorem dX3_longestCommon_30 : decode cX3_longestCommon 30 = .ok (.ireturn, 1) := by decide +kernel
theorem dX3_firstLongestRank_0 : decode cX3_firstLongestRank 0 = .ok (.aload_n 0, 1) := by decide +kernel
theorem dX3_firstLongestRank_1 : decode cX3_firstLongestRank 1 = .ok (.invokevirtual 66, 3) := by decide +kernel
theorem dX3_firstLongestRank_4 : decode cX3_firstLongestRank 4 = .ok (.istore_n 1, 1) := by decide +kernel
theorem dX3_firstLongestRank_5 : decode cX3_firstLongestRank 5 = .ok (.iconst 1, 1) := by decide +kernel
theorem dX3_firstLongestRank_6 : decode cX3_firstLongestRank 6 = .ok (.istore_n 2, 1) := by decide +kernel
theorem dX3_firstLongestRank_7 : decode cX3_firstLongestRank 7 = .ok (.iload_n 2, 1) := by decide +kernel
theorem dX3_firstLongestRank_8 : decode cX3_firstLongestRank 8 = .ok (.aload_n 0, 1) := by decide +kernel
theorem dX3_firstLongestRank_9 : decode cX3_firstLongestRank 9 = .ok (.getfield 21, 3) := by decide +kernel
theorem dX3_firstLongestRank_12 : decode cX3_firstLongestRank 12 = .ok (.if_icmp .ge 19, 3) := by decide +kernel
theorem dX3_firstLongestRank_15 : decode cX3_firstLongestRank 15 = .ok (.aload_n 0, 1) := by decide +kernel
theorem dX3_firstLongestRank_16 : decode cX3_firstLongestRank 16 = .ok (.getfield 18, 3) := by decide +kernel
theorem dX3_firstLongestRank_19 : decode cX3_firstLongestRank 19 = .ok (.iload_n 2, 1) := by decide +kernel
theorem dX3_firstLongestRank_20 : decode cX3_firstLongestRank 20 = .ok (.iaload, 1) := by decide +kernel
theorem dX3_firstLongestRank_21 : decode cX3_firstLongestRank 21 = .ok (.iload_n 1, 1) := by decide +kernel
theorem dX3_firstLongestRank_22 : decode cX3_firstLongestRank 22 = .ok (.if_icmp .eq 9, 3) := by decide +kernel
theorem dX3_firstLongestRank_25 : decode cX3_firstLongestRank 25 = .ok (.iinc 2 1, 3) := by decide +kernel
theorem dX3_firstLongestRank_28 : decode cX3_firstLongestRank 28 = .ok (.goto (-21), 3) := by decide +kernel
theorem dX3_firstLongestRank_31 : decode cX3_firstLongestRank 31 = .ok (.iload_n 2, 1) := by decide +kernel
theorem dX3_firstLongestRank_32 : decode cX3_firstLongestRank 32 = .ok (.iconst 1, 1) := by decide +kernel
theorem dX3_firstLongestRank_33 : decode cX3_firstLongestRank 33 = .ok (.isub, 1) := by decide +kernel
theorem dX3_firstLongestRank_34 : decode cX3_firstLongestRank 34 = .ok (.ireturn, 1) := by decide +kernel
theorem dX3_sumOfCommons_0 : decode cX3_sumOfCommons 0 = .ok (.iconst 0, 1) := by decide +kernel
theorem dX3_sumOfCommons_1 : decode cX3_sumOfCommons 1 = .ok (.istore_n 1, 1) := by decide +kernel
theorem dX3_sumOfCommons_2 : decode cX3_sumOfCommons 2 = .ok (.iconst 1, 1) := by decide +kernel
theorem dX3_sumOfCommons_3 : decode cX3_sumOfCommons 3 = .ok (.istore_n 2, 1) := by decide +kernel
theorem dX3_sumOfCommons_4 : decode cX3_sumOfCommons 4 = .ok (.iload_n 2, 1) := by decide +kernel
theorem dX3_sumOfCommons_5 : decode cX3_sumOfCommons 5 = .ok (.aload_n 0, 1) := by decide +kernel
theorem dX3_sumOfCommons_6 : decode cX3_sumOfCommons 6 = .ok (.getfield 21, 3) := by decide +kernel
theorem dX3_sumOfCommons_9 : decode cX3_sumOfCommons 9 = .ok (.if_icmp .ge 18, 3) := by decide +kernel
theorem dX3_sumOfCommons_12 : decode cX3_sumOfCommons 12 = .ok (.iload_n 1, 1) := by decide +kernel
theorem dX3_sumOfCommons_13 : decode cX3_sumOfCommons 13 = .ok (.aload_n 0, 1) := by decide +kernel
theorem dX3_sumOfCommons_14 : decode cX3_sumOfCommons 14 = .ok (.getfield 18, 3) := by decide +kernel
theorem dX3_sumOfCommons_17 : decode cX3_sumOfCommons 17 = .ok (.iload_n 2, 1) := by decide +kernel
theorem dX3_sumOfCommons_18 : decode cX3_sumOfCommons 18 = .ok (.iaload, 1) := by decide +kernel
theorem dX3_sumOfCommons_19 : decode cX3_sumOfCommons 19 = .ok (.iadd, 1) := by decide +kernel
theorem dX3_sumOfCommons_20 : decode cX3_sumOfCommons 20 = .ok (.istore_n 1, 1) := by decide +kernel
theorem dX3_sumOfCommons_21 : decode cX3_sumOfCommons 21 = .ok (.iinc 2 1, 3) := by decide +kernel
theorem dX3_sumOfCommons_24 : decode cX3_sumOfCommons 24 = .ok (.goto (-20), 3) := by decide +kernel
theorem dX3_sumOfCommons_27 : decode cX3_sumOfCommons 27 = .ok (.iload_n 1, 1) := by decide +kernel
theorem dX3_sumOfCommons_28 : decode cX3_sumOfCommons 28 = .ok (.ireturn, 1) := by decide +kernel
theorem dX3_countRepeats_0 : decode cX3_countRepeats 0 = .ok (.iconst 0, 1) := by decide +kernel
theorem dX3_countRepeats_1 : decode cX3_countRepeats 1 = .ok (.istore_n 1, 1) := by decide +kernel
theorem dX3_countRepeats_2 : decode cX3_countRepeats 2 = .ok (.iconst 1, 1) := by decide +kernel
theorem dX3_countRepeats_3 : decode cX3_countRepeats 3 = .ok (.istore_n 2, 1) := by decide +kernel
theorem dX3_countRepeats_4 : decode cX3_countRepeats 4 = .ok (.iload_n 2, 1) := by decide +kernel
theorem dX3_countRepeats_5 : decode cX3_countRepeats 5 = .ok (.aload_n 0, 1) := by decide +kernel
theorem dX3_countRepeats_6 : decode cX3_countRepeats 6 = .ok (.getfield 21, 3) := by decide +kernel
theorem dX3_countRepeats_9 : decode cX3_countRepeats 9 = .ok (.if_icmp .ge 21, 3) := by decide +kernel
theorem dX3_countRepeats_12 : decode cX3_countRepeats 12 = .ok (.aload_n 0, 1) := by decide +kernel
theorem dX3_countRepeats_13 : decode cX3_countRepeats 13 = .ok (.getfield 18, 3) := by decide +kernel
theorem dX3_countRepeats_16 : decode cX3_countRepeats 16 = .ok (.iload_n 2, 1) := by decide +kernel
theorem dX3_countRepeats_17 : decode cX3_countRepeats 17 = .ok (.iaload, 1) := by decide +kernel
theorem dX3_countRepeats_18 : decode cX3_countRepeats 18 = .ok (.ifCond .le 6, 3) := by decide +kernel
theorem dX3_countRepeats_21 : decode cX3_countRepeats 21 = .ok (.iinc 1 1, 3) := by decide +kernel
theorem dX3_countRepeats_24 : decode cX3_countRepeats 24 = .ok (.iinc 2 1, 3) := by decide +kernel
theorem dX3_countRepeats_27 : decode cX3_countRepeats 27 = .ok (.goto (-23), 3) := by decide +kernel
theorem dX3_countRepeats_30 : decode cX3_countRepeats 30 = .ok (.iload_n 1, 1) := by decide +kernel
theorem dX3_countRepeats_31 : decode cX3_countRepeats 31 = .ok (.ireturn, 1) := by decide +kernel
theorem dX3_countPieces_0 : decode cX3_countPieces 0 = .ok (.iconst 0, 1) := by decide +kernel
theorem dX3_countPieces_1 : decode cX3_countPieces 1 = .ok (.istore_n 2, 1) := by decide +kernel
theorem dX3_countPieces_2 : decode cX3_countPieces 2 = .ok (.iconst 0, 1) := by decide +kernel
theorem dX3_countPieces_3 : decode cX3_countPieces 3 = .ok (.istore_n 3, 1) := by decide +kernel
theorem dX3_countPieces_4 : decode cX3_countPieces 4 = .ok (.iload_n 3, 1) := by decide +kernel
theorem dX3_countPieces_5 : decode cX3_countPieces 5 = .ok (.aload_n 0, 1) := by decide +kernel
theorem dX3_countPieces_6 : decode cX3_countPieces 6 = .ok (.getfield 21, 3) := by decide +kernel
theorem dX3_countPieces_9 : decode cX3_countPieces 9 = .ok (.if_icmp .ge 35, 3) := by decide +kernel
theorem dX3_countPieces_12 : decode cX3_countPieces 12 = .ok (.iload_n 2, 1) := by decide +kernel
theorem dX3_countPieces_13 : decode cX3_countPieces 13 = .ok (.aload_n 1, 1) := by decide +kernel
theorem dX3_countPieces_14 : decode cX3_countPieces 14 = .ok (.aload_n 0, 1) := by decide +kernel
theorem dX3_countPieces_15 : decode cX3_countPieces 15 = .ok (.getfield 9, 3) := by decide +kernel
theorem dX3_countPieces_18 : decode cX3_countPieces 18 = .ok (.iload_n 3, 1) := by decide +kernel
theorem dX3_countPieces_19 : decode cX3_countPieces 19 = .ok (.iaload, 1) := by decide +kernel
theorem dX3_countPieces_20 : decode cX3_countPieces 20 = .ok (.invokevirtual 34, 3) := by decide +kernel
theorem dX3_countPieces_23 : decode cX3_countPieces 23 = .ok (.aload_n 0, 1) := by decide +kernel
theorem dX3_countPieces_24 : decode cX3_countPieces 24 = .ok (.getfield 15, 3) := by decide +kernel
theorem dX3_countPieces_27 : decode cX3_countPieces 27 = .ok (.iload_n 3, 1) := by decide +kernel
theorem dX3_countPieces_28 : decode cX3_countPieces 28 = .ok (.iaload, 1) := by decide +kernel
theorem dX3_countPieces_29 : decode cX3_countPieces 29 = .ok (.isub, 1) := by decide +kernel
theorem dX3_countPieces_30 : decode cX3_countPieces 30 = .ok (.aload_n 0, 1) := by decide +kernel
theorem dX3_countPieces_31 : decode cX3_countPieces 31 = .ok (.iload_n 3, 1) := by decide +kernel
theorem dX3_countPieces_32 : decode cX3_countPieces 32 = .ok (.invokevirtual 69, 3) := by decide +kernel
theorem dX3_countPieces_35 : decode cX3_countPieces 35 = .ok (.isub, 1) := by decide +kernel
theorem dX3_countPieces_36 : decode cX3_countPieces 36 = .ok (.iadd, 1) := by decide +kernel
theorem dX3_countPieces_37 : decode cX3_countPieces 37 = .ok (.istore_n 2, 1) := by decide +kernel
theorem dX3_countPieces_38 : decode cX3_countPieces 38 = .ok (.iinc 3 1, 3) := by decide +kernel
theorem dX3_countPieces_41 : decode cX3_countPieces 41 = .ok (.goto (-37), 3) := by decide +kernel
theorem dX3_countPieces_44 : decode cX3_countPieces 44 = .ok (.iload_n 2, 1) := by decide +kernel
theorem dX3_countPieces_45 : decode cX3_countPieces 45 = .ok (.ireturn, 1) := by decide +kernel
theorem dX3_firstRankNotBefore_0 : decode cX3_firstRankNotBefore 0 = .ok (.aload_n 0, 1) := by decide +kernel
theorem dX3_firstRankNotBefore_1 : decode cX3_firstRankNotBefore 1 = .ok (.aload_n 1, 1) := by decide +kernel
theorem dX3_firstRankNotBefore_2 : decode cX3_firstRankNotBefore 2 = .ok (.aload_n 2, 1) := by decide +kernel
theorem dX3_firstRankNotBefore_3 : decode cX3_firstRankNotBefore 3 = .ok (.iconst (-1), 1) := by decide +kernel
theorem dX3_firstRankNotBefore_4 : decode cX3_firstRankNotBefore 4 = .ok (.invokevirtual 72, 3) := by decide +kernel
theorem dX3_firstRankNotBefore_7 : decode cX3_firstRankNotBefore 7 = .ok (.ireturn, 1) := by decide +kernel
theorem dX3_firstRankBehind_0 : decode cX3_firstRankBehind 0 = .ok (.aload_n 0, 1) := by decide +kernel
theorem dX3_firstRankBehind_1 : decode cX3_firstRankBehind 1 = .ok (.aload_n 1, 1) := by decide +kernel
theorem dX3_firstRankBehind_2 : decode cX3_firstRankBehind 2 = .ok (.aload_n 2, 1) := by decide +kernel
theorem dX3_firstRankBehind_3 : decode cX3_firstRankBehind 3 = .ok (.iconst 0, 1) := by decide +kernel
theorem dX3_firstRankBehind_4 : decode cX3_firstRankBehind 4 = .ok (.invokevirtual 72, 3) := by decide +kernel
theorem dX3_firstRankBehind_7 : decode cX3_firstRankBehind 7 = .ok (.ireturn, 1) := by decide +kernel
theorem dX3_firstRankAbove_0 : decode cX3_firstRankAbove 0 = .ok (.iconst 0, 1) := by decide +kernel
theorem dX3_firstRankAbove_1 : decode cX3_firstRankAbove 1 = .ok (.istore 4, 2) := by decide +kernel
theorem dX3_firstRankAbove_3 : decode cX3_firstRankAbove 3 = .ok (.aload_n 0, 1) := by decide +kernel
theorem dX3_firstRankAbove_4 : decode cX3_firstRankAbove 4 = .ok (.getfield 21, 3) := by decide +kernel
theorem dX3_firstRankAbove_7 : decode cX3_firstRankAbove 7 = .ok (.istore 5, 2) := by decide +kernel
theorem dX3_firstRankAbove_9 : decode cX3_firstRankAbove 9 = .ok (.iconst 0, 1) := by decide +kernel
theorem dX3_firstRankAbove_10 : decode cX3_firstRankAbove 10 = .ok (.istore 6, 2) := by decide +kernel
theorem dX3_firstRankAbove_12 : decode cX3_firstRankAbove 12 = .ok (.iload 6, 2) := by decide +kernel
theorem dX3_firstRankAbove_14 : decode cX3_firstRankAbove 14 = .ok (.bipush 100, 2) := by decide +kernel
theorem dX3_firstRankAbove_16 : decode cX3_firstRankAbove 16 = .ok (.if_icmp .ge 59, 3) := by decide +kernel
theorem dX3_firstRankAbove_19 : decode cX3_firstRankAbove 19 = .ok (.iload 4, 2) := by decide +kernel
theorem dX3_firstRankAbove_21 : decode cX3_firstRankAbove 21 = .ok (.iload 5, 2) := by decide +kernel
theorem dX3_firstRankAbove_23 : decode cX3_firstRankAbove 23 = .ok (.if_icmp .ge 52, 3) := by decide +kernel
theorem dX3_firstRankAbove_26 : decode cX3_firstRankAbove 26 = .ok (.iload 4, 2) := by decide +kernel
theorem dX3_firstRankAbove_28 : decode cX3_firstRankAbove 28 = .ok (.iload 5, 2) := by decide +kernel
theorem dX3_firstRankAbove_30 : decode cX3_firstRankAbove 30 = .ok (.iadd, 1) := by decide +kernel
theorem dX3_firstRankAbove_31 : decode cX3_firstRankAbove 31 = .ok (.iconst 2, 1) := by decide +kernel
theorem dX3_firstRankAbove_32 : decode cX3_firstRankAbove 32 = .ok (.idiv, 1) := by decide +kernel
theorem dX3_firstRankAbove_33 : decode cX3_firstRankAbove 33 = .ok (.istore 7, 2) := by decide +kernel
theorem dX3_firstRankAbove_35 : decode cX3_firstRankAbove 35 = .ok (.aload_n 1, 1) := by decide +kernel
theorem dX3_firstRankAbove_36 : decode cX3_firstRankAbove 36 = .ok (.aload_n 0, 1) := by decide +kernel
theorem dX3_firstRankAbove_37 : decode cX3_firstRankAbove 37 = .ok (.iload 7, 2) := by decide +kernel
theorem dX3_firstRankAbove_39 : decode cX3_firstRankAbove 39 = .ok (.invokevirtual 50, 3) := by decide +kernel
theorem dX3_firstRankAbove_42 : decode cX3_firstRankAbove 42 = .ok (.aload_n 0, 1) := by decide +kernel
theorem dX3_firstRankAbove_43 : decode cX3_firstRankAbove 43 = .ok (.iload 7, 2) := by decide +kernel
theorem dX3_firstRankAbove_45 : decode cX3_firstRankAbove 45 = .ok (.invokevirtual 53, 3) := by decide +kernel
theorem dX3_firstRankAbove_48 : decode cX3_firstRankAbove 48 = .ok (.aload_n 2, 1) := by decide +kernel
theorem dX3_firstRankAbove_49 : decode cX3_firstRankAbove 49 = .ok (.invokestatic 76, 3) := by decide +kernel
theorem dX3_firstRankAbove_52 : decode cX3_firstRankAbove 52 = .ok (.iload_n 3, 1) := by decide +kernel
theorem dX3_firstRankAbove_53 : decode cX3_firstRankAbove 53 = .ok (.if_icmp .le 10, 3) := by decide +kernel
theorem dX3_firstRankAbove_56 : decode cX3_firstRankAbove 56 = .ok (.iload 7, 2) := by decide +kernel
theorem dX3_firstRankAbove_58 : decode cX3_firstRankAbove 58 = .ok (.istore 5, 2) := by decide +kernel
theorem dX3_firstRankAbove_60 : decode cX3_firstRankAbove 60 = .ok (.goto 9, 3) := by decide +kernel
theorem dX3_firstRankAbove_63 : decode cX3_firstRankAbove 63 = .ok (.iload 7, 2) := by decide +kernel
theorem dX3_firstRankAbove_65 : decode cX3_firstRankAbove 65 = .ok (.iconst 1, 1) := by decide +kernel
theorem dX3_firstRankAbove_66 : decode cX3_firstRankAbove 66 = .ok (.iadd, 1) := by decide +kernel
theorem dX3_firstRankAbove_67 : decode cX3_firstRankAbove 67 = .ok (.istore 4, 2) := by decide +kernel
theorem dX3_firstRankAbove_69 : decode cX3_firstRankAbove 69 = .ok (.iinc 6 1, 3) := by decide +kernel
theorem dX3_firstRankAbove_72 : decode cX3_firstRankAbove 72 = .ok (.goto (-60), 3) := by decide +kernel
theorem dX3_firstRankAbove_75 : decode cX3_firstRankAbove 75 = .ok (.iload 4, 2) := by decide +kernel
theorem dX3_firstRankAbove_77 : decode cX3_firstRankAbove 77 = .ok (.ireturn, 1) := by decide +kernel
end
section
def f_X0_lines (t_lines : Int32) : Option Int32 := some t_lines
theorem hd_X0_lines : yX0_lines.cls = RX0 ∧ yX0_lines.cls ≠ "java/lang/invoke/MethodHandle" ∧ yX0_lines.cls ≠ "java/lang/invoke/VarHandle" ∧ (parseMethodDescriptor yX0_lines.desc).map (fun d => d.parameters.length) = some 0 := by decide +kernel
set_option maxRecDepth 100000 in
set_option maxHeartbeats 4000000 in
theorem c_X0_lines (l : Launch) (D : va_G) (kc ki kb kl kd : ClassId) (t t_letters t_sizes : Nat) (t_lettersF : Nat → Int32) (t_sizesF : Nat → Int32) (t_lines : Int32) (res : Int32) (hF : f_X0_lines t_lines = some res) : aKi l yX0_lines (aW yX0_lines cX0_lines 1 ((some .int))) ({ frames := 0, cells := 0, slots := 0, locals := 0 } : Room) D (aTy kc ki kb kl kd) [.ref t] (wX0 kc ki t t_letters t_sizes t_lettersF t_sizesF t_lines) (fun r => r) (fun _ => wX0 kc ki t t_letters t_sizes t_lettersF t_sizesF t_lines) res := by
  refine aKi_of (own := RX0) (by decide) rfl (Nat.le_of_ble_eq_true rfl) rfl ?_
  intro p e s m args below meth c C hr
  unfold f_X0_lines at hF
  refine a_aload_n C 0 dX0_lines_0 rfl rfl ?_
  refine a_get C 0 2 iwX0 rfl rfl (by decide) kf_X0_19 rfl dX0_lines_1 ?_
  exact a_iret C hr rfl dX0_lines_4 hF rfl rfl
def f_X0_hasLine (t_lines : Int32) (p1 : Int32) : Option Int32 := if p1 < 0 then (some 0) else (if t_lines ≤ p1 then (some 0) else (some 1))
theorem hd_X0_hasLine : yX0_hasLine.cls = RX0 ∧ yX0_hasLine.cls ≠ "java/lang/invoke/MethodHandle" ∧ yX0_hasLine.cls ≠ "java/lang/invoke/VarHandle" ∧ (parseMethodDescriptor yX0_hasLine.desc).map (fun d => d.parameters.length) = some 1 := by decide +kernel
set_option maxRecDepth 100000 in
set_option maxHeartbeats 4000000 in
theorem c_X0_hasLine (l : Launch) (D : va_G) (kc ki kb kl kd : ClassId) (t t_letters t_sizes : Nat) (t_lettersF : Nat → Int32) (t_sizesF : Nat → Int32) (t_lines : Int32) (p1 : Int32) (res : Int32) (hF : f_X0_hasLine t_lines p1 = some res) : aKi l yX0_hasLine (aW yX0_hasLine cX0_hasLine 2 ((some .boolean))) ({ frames := 0, cells := 0, slots := 0, locals := 0 } : Room) D (aTy kc ki kb kl kd) [.ref t, .int p1] (wX0 kc ki t t_letters t_sizes t_lettersF t_sizesF t_lines) (fun r => r) (fun _ => wX0 kc ki t t_letters t_sizes t_lettersF t_sizesF t_lines) res := by
  refine aKi_of (own := RX0) (by decide) rfl (Nat.le_of_ble_eq_true rfl) rfl ?_
  intro p e s m args below meth c C hr
  unfold f_X0_hasLine at hF
  refine a_iload_n C 1 dX0_hasLine_0 rfl rfl ?_
  refine a_if_lt C (tgt := 16) dX0_hasLine_1 (by decide) hF (fun c1_1 hF => ?_) (fun c1_1 hF => ?_)
  · refine a_iconst C (v := 0) dX0_hasLine_16 (by decide) ?_
    exact a_iret C hr rfl dX0_hasLine_17 hF rfl rfl
  refine a_iload_n C 1 dX0_hasLine_4 rfl rfl ?_
  refine a_aload_n C 0 dX0_hasLine_5 rfl rfl ?_
  refine a_get C 0 2 iwX0 rfl rfl (by decide) kf_X0_19 rfl dX0_hasLine_6 ?_
  refine a_ic_ge C (tgt := 16) dX0_hasLine_9 (by decide) hF (fun c9_2 hF => ?_) (fun c9_2 hF => ?_)
  · refine a_iconst C (v := 0) dX0_hasLine_16 (by decide) ?_
    exact a_iret C hr rfl dX0_hasLine_17 hF rfl rfl
  refine a_iconst C (v := 1) dX0_hasLine_12 (by decide) ?_
  refine a_goto C (tgt := 17) dX0_hasLine_13 (by decide) ?_
  exact a_iret C hr rfl dX0_hasLine_17 hF rfl rfl
def f_X0_hasPlace (t_sizesF : Nat → Int32) (t_lines : Int32) (p1 : Int32) (p2 : Int32) : Option Int32 := if p1 < 0 then (some 0) else (if t_lines ≤ p1 then (some 0) else (if p2 < 0 then (some 0) else ((ldi t_sizesF 8 p1).bind fun v22_4 => if v22_4 ≤ p2 then (some 0) else (some 1))))
theorem hd_X0_hasPlace : yX0_hasPlace.cls = RX0 ∧ yX0_hasPlace.cls ≠ "java/lang/invoke/MethodHandle" ∧ yX0_hasPlace.cls ≠ "java/lang/invoke/VarHandle" ∧ (parseMethodDescriptor yX0_hasPlace.desc).map (fun d => d.parameters.length) = some 2 := by decide +kernel
set_option maxRecDepth 100000 in
set_option maxHeartbeats 4000000 in
theorem c_X0_hasPlace (l : Launch) (D : va_G) (kc ki kb kl kd : ClassId) (t t_letters t_sizes : Nat) (t_lettersF : Nat → Int32) (t_sizesF : Nat → Int32) (t_lines : Int32) (p1 p2 : Int32) (res : Int32) (hF : f_X0_hasPlace t_sizesF t_lines p1 p2 = some res) : aKi l yX0_hasPlace (aW yX0_hasPlace cX0_hasPlace 3 ((some .boolean))) ({ frames := 0, cells := 0, slots := 0, locals := 0 } : Room) D (aTy kc ki kb kl kd) [.ref t, .int p1, .int p2] (wX0 kc ki t t_letters t_sizes t_lettersF t_sizesF t_lines) (fun r => r) (fun _ => wX0 kc ki t t_letters t_sizes t_lettersF t_sizesF t_lines) res := by
  refine aKi_of (own := RX0) (by decide) rfl (Nat.le_of_ble_eq_true rfl) rfl ?_
  intro p e s m args below meth c C hr
  unfold f_X0_hasPlace at hF
  refine a_iload_n C 1 dX0_hasPlace_0 rfl rfl ?_
  refine a_if_lt C (tgt := 30) dX0_hasPlace_1 (by decide) hF (fun c1_1 hF => ?_) (fun c1_1 hF => ?_)
  · refine a_iconst C (v := 0) dX0_hasPlace_30 (by decide) ?_
    exact a_iret C hr rfl dX0_hasPlace_31 hF rfl rfl
  refine a_iload_n C 1 dX0_hasPlace_4 rfl rfl ?_
  refine a_aload_n C 0 dX0_hasPlace_5 rfl rfl ?_
  refine a_get C 0 2 iwX0 rfl rfl (by decide) kf_X0_19 rfl dX0_hasPlace_6 ?_
  refine a_ic_ge C (tgt := 30) dX0_hasPlace_9 (by decide) hF (fun c9_2 hF => ?_) (fun c9_2 hF => ?_)
  · refine a_iconst C (v := 0) dX0_hasPlace_30 (by decide) ?_
    exact a_iret C hr rfl dX0_hasPlace_31 hF rfl rfl
  refine a_iload_n C 2 dX0_hasPlace_12 rfl rfl ?_
  refine a_if_lt C (tgt := 30) dX0_hasPlace_13 (by decide) hF (fun c13_3 hF => ?_) (fun c13_3 hF => ?_)
  · refine a_iconst C (v := 0) dX0_hasPlace_30 (by decide) ?_
    exact a_iret C hr rfl dX0_hasPlace_31 hF rfl rfl
  refine a_iload_n C 2 dX0_hasPlace_16 rfl rfl ?_
  refine a_aload_n C 0 dX0_hasPlace_17 rfl rfl ?_
  refine a_get C 0 1 iwX0 rfl rfl (by decide) kf_X0_15 rfl dX0_hasPlace_18 ?_
  refine a_iload_n C 1 dX0_hasPlace_21 rfl rfl ?_
  refine a_iald C 2 1 rfl rfl dX0_hasPlace_22 hF (fun v22_4 ev22_4 hF => ?_)
  refine a_ic_ge C (tgt := 30) dX0_hasPlace_23 (by decide) hF (fun c23_5 hF => ?_) (fun c23_5 hF => ?_)
  · refine a_iconst C (v := 0) dX0_hasPlace_30 (by decide) ?_
    exact a_iret C hr rfl dX0_hasPlace_31 hF rfl rfl
  refine a_iconst C (v := 1) dX0_hasPlace_26 (by decide) ?_
  refine a_goto C (tgt := 31) dX0_hasPlace_27 (by decide) ?_
  exact a_iret C hr rfl dX0_hasPlace_31 hF rfl rfl
theorem cs_X0_23 : GoodIn WW (wsV RX0 23 RX0 yX0_hasLine (aW yX0_hasLine cX0_hasLine 2 ((some .boolean)))) := gdV kl_X0_23 ki_X0_hasLine kv_X0_hasLine kn_X0 kc_X0_hasLine
def f_X0_size (t_sizesF : Nat → Int32) (t_lines : Int32) (p1 : Int32) : Option Int32 := (f_X0_hasLine t_lines p1).bind fun r2_1 => if r2_1 = 0 then (some 0) else ((ldi t_sizesF 8 p1).bind fun v13_3 => some v13_3)
theorem hd_X0_size : yX0_size.cls = RX0 ∧ yX0_size.cls ≠ "java/lang/invoke/MethodHandle" ∧ yX0_size.cls ≠ "java/lang/invoke/VarHandle" ∧ (parseMethodDescriptor yX0_size.desc).map (fun d => d.parameters.length) = some 1 := by decide +kernel
set_option maxRecDepth 100000 in
set_option maxHeartbeats 4000000 in
theorem c_X0_size (l : Launch) (D : va_G) (kc ki kb kl kd : ClassId) (t t_letters t_sizes : Nat) (t_lettersF : Nat → Int32) (t_sizesF : Nat → Int32) (t_lines : Int32) (p1 : Int32) (res : Int32) (hF : f_X0_size t_sizesF t_lines p1 = some res) : aKi l yX0_size (aW yX0_size cX0_size 2 ((some .int))) ({ frames := 1, cells := 0, slots := 0, locals := 21 } : Room) D (aTy kc ki kb kl kd) [.ref t, .int p1] (wX0 kc ki t t_letters t_sizes t_lettersF t_sizesF t_lines) (fun r => r) (fun _ => wX0 kc ki t t_letters t_sizes t_lettersF t_sizesF t_lines) res := by
  refine aKi_of (own := RX0) (by decide) rfl (Nat.le_of_ble_eq_true rfl) rfl ?_
  intro p e s m args below meth c C hr
  unfold f_X0_size at hF
  refine a_aload_n C 0 dX0_size_0 rfl rfl ?_
  refine a_iload_n C 1 dX0_size_1 rfl rfl ?_
  refine a_callVir C 1 [0, 1, 2] 0 cs_X0_23 hd_X0_hasLine ⟨rfl, rfl⟩ ⟨Nat.le_of_ble_eq_true rfl, Nat.le_of_ble_eq_true rfl⟩ (fun r h => c_X0_hasLine l D kc ki kb kl kd t t_letters t_sizes t_lettersF t_sizesF t_lines p1 r h) rfl rfl rfl rfl rfl rfl (Nat.le_of_ble_eq_true rfl) dX0_size_2 ⟨Nat.zero_le _, Nat.zero_le _⟩ hF (fun r2_1 er2_1 hF => ?_)
  refine a_if_eq C (tgt := 17) dX0_size_5 (by decide) hF (fun c5_2 hF => ?_) (fun c5_2 hF => ?_)
  · refine a_iconst C (v := 0) dX0_size_17 (by decide) ?_
    exact a_iret C hr rfl dX0_size_18 hF rfl rfl
  refine a_aload_n C 0 dX0_size_8 rfl rfl ?_
  refine a_get C 0 1 iwX0 rfl rfl (by decide) kf_X0_15 rfl dX0_size_9 ?_
  refine a_iload_n C 1 dX0_size_12 rfl rfl ?_
  refine a_iald C 2 1 rfl rfl dX0_size_13 hF (fun v13_3 ev13_3 hF => ?_)
  refine a_goto C (tgt := 18) dX0_size_14 (by decide) ?_
  exact a_iret C hr rfl dX0_size_18 hF rfl rfl
theorem cs_X0_27 : GoodIn WW (wsV RX0 27 RX0 yX0_hasPlace (aW yX0_hasPlace cX0_hasPlace 3 ((some .boolean)))) := gdV kl_X0_27 ki_X0_hasPlace kv_X0_hasPlace kn_X0 kc_X0_hasPlace
def f_X0_letterAt (t_lettersF : Nat → Int32) (t_sizesF : Nat → Int32) (t_lines : Int32) (p1 : Int32) (p2 : Int32) : Option Int32 := (f_X0_hasPlace t_sizesF t_lines p1 p2).bind fun r3_1 => if r3_1 = 0 then (some 0) else ((ldc t_lettersF 80 ((p1 * 10) + p2)).bind fun v19_3 => (rc v19_3).bind fun _ => some v19_3)
theorem hd_X0_letterAt : yX0_letterAt.cls = RX0 ∧ yX0_letterAt.cls ≠ "java/lang/invoke/MethodHandle" ∧ yX0_letterAt.cls ≠ "java/lang/invoke/VarHandle" ∧ (parseMethodDescriptor yX0_letterAt.desc).map (fun d => d.parameters.length) = some 2 := by decide +kernel
set_option maxRecDepth 100000 in
set_option maxHeartbeats 4000000 in
theorem c_X0_letterAt (l : Launch) (D : va_G) (kc ki kb kl kd : ClassId) (t t_letters t_sizes : Nat) (t_lettersF : Nat → Int32) (t_sizesF : Nat → Int32) (t_lines : Int32) (p1 p2 : Int32) (res : Int32) (hF : f_X0_letterAt t_lettersF t_sizesF t_lines p1 p2 = some res) : aKi l yX0_letterAt (aW yX0_letterAt cX0_letterAt 3 ((some .char))) ({ frames := 1, cells := 0, slots := 0, locals := 22 } : Room) D (aTy kc ki kb kl kd) [.ref t, .int p1, .int p2] (wX0 kc ki t t_letters t_sizes t_lettersF t_sizesF t_lines) (fun r => r) (fun _ => wX0 kc ki t t_letters t_sizes t_lettersF t_sizesF t_lines) res := by
  refine aKi_of (own := RX0) (by decide) rfl (Nat.le_of_ble_eq_true rfl) rfl ?_
  intro p e s m args below meth c C hr
  unfold f_X0_letterAt at hF
  refine a_aload_n C 0 dX0_letterAt_0 rfl rfl ?_
  refine a_iload_n C 1 dX0_letterAt_1 rfl rfl ?_
  refine a_iload_n C 2 dX0_letterAt_2 rfl rfl ?_
  refine a_callVir C 2 [0, 1, 2] 0 cs_X0_27 hd_X0_hasPlace ⟨rfl, rfl⟩ ⟨Nat.le_of_ble_eq_true rfl, Nat.le_of_ble_eq_true rfl⟩ (fun r h => c_X0_hasPlace l D kc ki kb kl kd t t_letters t_sizes t_lettersF t_sizesF t_lines p1 p2 r h) rfl rfl rfl rfl rfl rfl (Nat.le_of_ble_eq_true rfl) dX0_letterAt_3 ⟨Nat.zero_le _, Nat.zero_le _⟩ hF (fun r3_1 er3_1 hF => ?_)
  refine a_if_eq C (tgt := 23) dX0_letterAt_6 (by decide) hF (fun c6_2 hF => ?_) (fun c6_2 hF => ?_)
  · refine a_iconst C (v := 0) dX0_letterAt_23 (by decide) ?_
    exact a_iret C hr rfl dX0_letterAt_24 hF rfl rfl
  refine a_aload_n C 0 dX0_letterAt_9 rfl rfl ?_
  refine a_get C 0 0 iwX0 rfl rfl (by decide) kf_X0_9 rfl dX0_letterAt_10 ?_
  refine a_iload_n C 1 dX0_letterAt_13 rfl rfl ?_
  refine a_bipush C (v := 10) dX0_letterAt_14 (by decide) ?_
  refine a_imul C dX0_letterAt_16 ?_
  refine a_iload_n C 2 dX0_letterAt_17 rfl rfl ?_
  refine a_iadd C dX0_letterAt_18 ?_
  refine a_cald C 1 0 rfl rfl dX0_letterAt_19 hF (fun v19_3 ev19_3 hF => ?_)
  refine a_goto C (tgt := 24) dX0_letterAt_20 (by decide) ?_
  refine a_rc hF (fun n24_4 hF => ?_)
  exact a_iret C hr n24_4 dX0_letterAt_24 hF rfl rfl
def f_X0_setLetter (t_lettersF : Nat → Int32) (t_sizesF : Nat → Int32) (t_lines : Int32) (p1 : Int32) (p2 : Int32) (p3 : Int32) : Option ((Nat → Int32)) := (f_X0_hasPlace t_sizesF t_lines p1 p2).bind fun r3_1 => if r3_1 = 0 then (some t_lettersF) else ((stc t_lettersF 80 ((p1 * 10) + p2) p3).bind fun g20_3 => some g20_3)
theorem hd_X0_setLetter : yX0_setLetter.cls = RX0 ∧ yX0_setLetter.cls ≠ "java/lang/invoke/MethodHandle" ∧ yX0_setLetter.cls ≠ "java/lang/invoke/VarHandle" ∧ (parseMethodDescriptor yX0_setLetter.desc).map (fun d => d.parameters.length) = some 3 := by decide +kernel
set_option maxRecDepth 100000 in
set_option maxHeartbeats 4000000 in
theorem c_X0_setLetter (l : Launch) (D : va_G) (kc ki kb kl kd : ClassId) (t t_letters t_sizes : Nat) (t_lettersF : Nat → Int32) (t_sizesF : Nat → Int32) (t_lines : Int32) (p1 p2 p3 : Int32) (res : (Nat → Int32)) (hF : f_X0_setLetter t_lettersF t_sizesF t_lines p1 p2 p3 = some res) : aKv l yX0_setLetter (aW yX0_setLetter cX0_setLetter 4 none) ({ frames := 1, cells := 0, slots := 0, locals := 22 } : Room) D (aTy kc ki kb kl kd) [.ref t, .int p1, .int p2, .int p3] (wX0 kc ki t t_letters t_sizes t_lettersF t_sizesF t_lines) (fun r => wX0 kc ki t t_letters t_sizes r t_sizesF t_lines) res := by
  refine aKv_of (own := RX0) (by decide) rfl (Nat.le_of_ble_eq_true rfl) rfl ?_
  intro p e s m args below meth c C hr
  unfold f_X0_setLetter at hF
  refine a_aload_n C 0 dX0_setLetter_0 rfl rfl ?_
  refine a_iload_n C 1 dX0_setLetter_1 rfl rfl ?_
  refine a_iload_n C 2 dX0_setLetter_2 rfl rfl ?_
  refine a_callVir C 2 [0, 1, 2] 0 cs_X0_27 hd_X0_hasPlace ⟨rfl, rfl⟩ ⟨Nat.le_of_ble_eq_true rfl, Nat.le_of_ble_eq_true rfl⟩ (fun r h => c_X0_hasPlace l D kc ki kb kl kd t t_letters t_sizes t_lettersF t_sizesF t_lines p1 p2 r h) rfl rfl rfl rfl rfl rfl (Nat.le_of_ble_eq_true rfl) dX0_setLetter_3 ⟨Nat.zero_le _, Nat.zero_le _⟩ hF (fun r3_1 er3_1 hF => ?_)
  refine a_if_eq C (tgt := 21) dX0_setLetter_6 (by decide) hF (fun c6_2 hF => ?_) (fun c6_2 hF => ?_)
  · exact a_vret C hr dX0_setLetter_21 hF rfl
  refine a_aload_n C 0 dX0_setLetter_9 rfl rfl ?_
  refine a_get C 0 0 iwX0 rfl rfl (by decide) kf_X0_9 rfl dX0_setLetter_10 ?_
  refine a_iload_n C 1 dX0_setLetter_13 rfl rfl ?_
  refine a_bipush C (v := 10) dX0_setLetter_14 (by decide) ?_
  refine a_imul C dX0_setLetter_16 ?_
  refine a_iload_n C 2 dX0_setLetter_17 rfl rfl ?_
  refine a_iadd C dX0_setLetter_18 ?_
  refine a_iload_n C 3 dX0_setLetter_19 rfl rfl ?_
  refine a_cast C 1 0 rfl rfl dX0_setLetter_20 hF (fun g20_3 eg20_3 hF => ?_)
  refine a_ws C (ws' := wX0 kc ki t t_letters t_sizes g20_3 t_sizesF t_lines) rfl ?_
  exact a_vret C hr dX0_setLetter_21 hF rfl
def f_X0_openLine (t_sizesF : Nat → Int32) (t_lines : Int32) : Option ((Nat → Int32) × Int32) := if 8 ≤ t_lines then (some (t_sizesF, t_lines)) else ((sti t_sizesF 8 t_lines 0).bind fun g18_2 => some (g18_2, t_lines + 1))
theorem hd_X0_openLine : yX0_openLine.cls = RX0 ∧ yX0_openLine.cls ≠ "java/lang/invoke/MethodHandle" ∧ yX0_openLine.cls ≠ "java/lang/invoke/VarHandle" ∧ (parseMethodDescriptor yX0_openLine.desc).map (fun d => d.parameters.length) = some 0 := by decide +kernel
set_option maxRecDepth 100000 in
set_option maxHeartbeats 4000000 in
theorem c_X0_openLine (l : Launch) (D : va_G) (kc ki kb kl kd : ClassId) (t t_letters t_sizes : Nat) (t_lettersF : Nat → Int32) (t_sizesF : Nat → Int32) (t_lines : Int32) (res : (Nat → Int32) × Int32) (hF : f_X0_openLine t_sizesF t_lines = some res) : aKv l yX0_openLine (aW yX0_openLine cX0_openLine 1 none) ({ frames := 0, cells := 0, slots := 0, locals := 0 } : Room) D (aTy kc ki kb kl kd) [.ref t] (wX0 kc ki t t_letters t_sizes t_lettersF t_sizesF t_lines) (fun r => wX0 kc ki t t_letters t_sizes t_lettersF r.1 r.2) res := by
  refine aKv_of (own := RX0) (by decide) rfl (Nat.le_of_ble_eq_true rfl) rfl ?_
  intro p e s m args below meth c C hr
  unfold f_X0_openLine at hF
  refine a_aload_n C 0 dX0_openLine_0 rfl rfl ?_
  refine a_get C 0 2 iwX0 rfl rfl (by decide) kf_X0_19 rfl dX0_openLine_1 ?_
  refine a_bipush C (v := 8) dX0_openLine_4 (by decide) ?_
  refine a_ic_ge C (tgt := 29) dX0_openLine_6 (by decide) hF (fun c6_1 hF => ?_) (fun c6_1 hF => ?_)
  · exact a_vret C hr dX0_openLine_29 hF rfl
  refine a_aload_n C 0 dX0_openLine_9 rfl rfl ?_
  refine a_get C 0 1 iwX0 rfl rfl (by decide) kf_X0_15 rfl dX0_openLine_10 ?_
  refine a_aload_n C 0 dX0_openLine_13 rfl rfl ?_
  refine a_get C 0 2 iwX0 rfl rfl (by decide) kf_X0_19 rfl dX0_openLine_14 ?_
  refine a_iconst C (v := 0) dX0_openLine_17 (by decide) ?_
  refine a_iast C 2 1 rfl rfl dX0_openLine_18 hF (fun g18_2 eg18_2 hF => ?_)
  refine a_ws C (ws' := wX0 kc ki t t_letters t_sizes t_lettersF g18_2 t_lines) rfl ?_
  refine a_aload_n C 0 dX0_openLine_19 rfl rfl ?_
  refine a_dup C dX0_openLine_20 rfl ?_
  refine a_get C 0 2 iwX0 rfl rfl (by decide) kf_X0_19 rfl dX0_openLine_21 ?_
  refine a_iconst C (v := 1) dX0_openLine_24 (by decide) ?_
  refine a_iadd C dX0_openLine_25 ?_
  refine a_put C 0 2 iwX0 tyX0_ok nmX0 rfl rfl (by decide) kf_X0_19 rfl rfl rfl (Nat.le_of_ble_eq_true rfl) dX0_openLine_26 ?_
  refine a_ws C (ws' := wX0 kc ki t t_letters t_sizes t_lettersF g18_2 (t_lines + 1)) rfl ?_
  exact a_vret C hr dX0_openLine_29 hF rfl
theorem cs_X0_31 : GoodIn WW (wsV RX0 31 RX0 yX0_setLetter (aW yX0_setLetter cX0_setLetter 4 none)) := gdV kl_X0_31 ki_X0_setLetter kv_X0_setLetter kn_X0 kc_X0_setLetter
def f_X0_putLetter (t_lettersF : Nat → Int32) (t_sizesF : Nat → Int32) (t_lines : Int32) (p1 : Int32) (p2 : Int32) : Option ((Nat → Int32) × (Nat → Int32)) := (f_X0_hasLine t_lines p1).bind fun r2_1 => if r2_1 = 0 then (some (t_lettersF, t_sizesF)) else ((ldi t_sizesF 8 p1).bind fun v13_3 => if 10 ≤ v13_3 then (some (t_lettersF, t_sizesF)) else ((ldi t_sizesF 8 p1).bind fun v25_5 => (sti t_sizesF 8 p1 (v25_5 + 1)).bind fun g28_6 => (ldi g28_6 8 p1).bind fun v36_7 => (f_X0_setLetter t_lettersF g28_6 t_lines p1 (v36_7 - 1) p2).bind fun r40_8 => some (r40_8, g28_6)))
theorem hd_X0_putLetter : yX0_putLetter.cls = RX0 ∧ yX0_putLetter.cls ≠ "java/lang/invoke/MethodHandle" ∧ yX0_putLetter.cls ≠ "java/lang/invoke/VarHandle" ∧ (parseMethodDescriptor yX0_putLetter.desc).map (fun d => d.parameters.length) = some 2 := by decide +kernel
set_option maxRecDepth 100000 in
set_option maxHeartbeats 4000000 in
theorem c_X0_putLetter (l : Launch) (D : va_G) (kc ki kb kl kd : ClassId) (t t_letters t_sizes : Nat) (t_lettersF : Nat → Int32) (t_sizesF : Nat → Int32) (t_lines : Int32) (p1 p2 : Int32) (res : (Nat → Int32) × (Nat → Int32)) (hF : f_X0_putLetter t_lettersF t_sizesF t_lines p1 p2 = some res) : aKv l yX0_putLetter (aW yX0_putLetter cX0_putLetter 3 none) ({ frames := 2, cells := 0, slots := 0, locals := 45 } : Room) D (aTy kc ki kb kl kd) [.ref t, .int p1, .int p2] (wX0 kc ki t t_letters t_sizes t_lettersF t_sizesF t_lines) (fun r => wX0 kc ki t t_letters t_sizes r.1 r.2 t_lines) res := by
  refine aKv_of (own := RX0) (by decide) rfl (Nat.le_of_ble_eq_true rfl) rfl ?_
  intro p e s m args below meth c C hr
  unfold f_X0_putLetter at hF
  refine a_aload_n C 0 dX0_putLetter_0 rfl rfl ?_
  refine a_iload_n C 1 dX0_putLetter_1 rfl rfl ?_
  refine a_callVir C 1 [0, 1, 2] 0 cs_X0_23 hd_X0_hasLine ⟨rfl, rfl⟩ ⟨Nat.le_of_ble_eq_true rfl, Nat.le_of_ble_eq_true rfl⟩ (fun r h => c_X0_hasLine l D kc ki kb kl kd t t_letters t_sizes t_lettersF t_sizesF t_lines p1 r h) rfl rfl rfl rfl rfl rfl (Nat.le_of_ble_eq_true rfl) dX0_putLetter_2 ⟨Nat.zero_le _, Nat.zero_le _⟩ hF (fun r2_1 er2_1 hF => ?_)
  refine a_if_eq C (tgt := 43) dX0_putLetter_5 (by decide) hF (fun c5_2 hF => ?_) (fun c5_2 hF => ?_)
  · exact a_vret C hr dX0_putLetter_43 hF rfl
  refine a_aload_n C 0 dX0_putLetter_8 rfl rfl ?_
  refine a_get C 0 1 iwX0 rfl rfl (by decide) kf_X0_15 rfl dX0_putLetter_9 ?_
  refine a_iload_n C 1 dX0_putLetter_12 rfl rfl ?_
  refine a_iald C 2 1 rfl rfl dX0_putLetter_13 hF (fun v13_3 ev13_3 hF => ?_)
  refine a_bipush C (v := 10) dX0_putLetter_14 (by decide) ?_
  refine a_ic_ge C (tgt := 43) dX0_putLetter_16 (by decide) hF (fun c16_4 hF => ?_) (fun c16_4 hF => ?_)
  · exact a_vret C hr dX0_putLetter_43 hF rfl
  refine a_aload_n C 0 dX0_putLetter_19 rfl rfl ?_
  refine a_get C 0 1 iwX0 rfl rfl (by decide) kf_X0_15 rfl dX0_putLetter_20 ?_
  refine a_iload_n C 1 dX0_putLetter_23 rfl rfl ?_
  refine a_dup2 C dX0_putLetter_24 rfl rfl ?_
  refine a_iald C 2 1 rfl rfl dX0_putLetter_25 hF (fun v25_5 ev25_5 hF => ?_)
  refine a_iconst C (v := 1) dX0_putLetter_26 (by decide) ?_
  refine a_iadd C dX0_putLetter_27 ?_
  refine a_iast C 2 1 rfl rfl dX0_putLetter_28 hF (fun g28_6 eg28_6 hF => ?_)
  refine a_ws C (ws' := wX0 kc ki t t_letters t_sizes t_lettersF g28_6 t_lines) rfl ?_
  refine a_aload_n C 0 dX0_putLetter_29 rfl rfl ?_
  refine a_iload_n C 1 dX0_putLetter_30 rfl rfl ?_
  refine a_aload_n C 0 dX0_putLetter_31 rfl rfl ?_
  refine a_get C 0 1 iwX0 rfl rfl (by decide) kf_X0_15 rfl dX0_putLetter_32 ?_
  refine a_iload_n C 1 dX0_putLetter_35 rfl rfl ?_
  refine a_iald C 2 1 rfl rfl dX0_putLetter_36 hF (fun v36_7 ev36_7 hF => ?_)
  refine a_iconst C (v := 1) dX0_putLetter_37 (by decide) ?_
  refine a_isub C dX0_putLetter_38 ?_
  refine a_iload_n C 2 dX0_putLetter_39 rfl rfl ?_
  refine a_callVv C 3 [0, 1, 2] 0 cs_X0_31 hd_X0_setLetter ⟨rfl, rfl⟩ ⟨Nat.le_of_ble_eq_true rfl, Nat.le_of_ble_eq_true rfl⟩ (fun r h => c_X0_setLetter l D kc ki kb kl kd t t_letters t_sizes t_lettersF g28_6 t_lines p1 (v36_7 - 1) p2 r h) rfl rfl rfl (fun _ => rfl) rfl rfl rfl (Nat.le_of_ble_eq_true rfl) dX0_putLetter_40 ⟨Nat.zero_le _, Nat.zero_le _⟩ hF (fun r40_8 er40_8 hF => ?_)
  refine a_ws C (ws' := wX0 kc ki t t_letters t_sizes r40_8 g28_6 t_lines) rfl ?_
  exact a_vret C hr dX0_putLetter_43 hF rfl
def f_X0_exchangeLines_L18 (p1 : Int32) (p2 : Int32) : Nat → Int32 → (Nat → Int32) → (Int32 → (Nat → Int32) → Option ((Nat → Int32) × (Nat → Int32) × Int32)) → Option ((Nat → Int32) × (Nat → Int32) × Int32)
  | 0, _, _, _ => none
  | fuel + 1, x3, q_t_lettersF, k => if 10 ≤ x3 then (k x3 q_t_lettersF) else ((ldc q_t_lettersF 80 ((p1 * 10) + x3)).bind fun v34_6 => (ldc q_t_lettersF 80 ((p2 * 10) + x3)).bind fun v57_7 => (stc q_t_lettersF 80 ((p1 * 10) + x3) v57_7).bind fun g58_8 => (stc g58_8 80 ((p2 * 10) + x3) v34_6).bind fun g71_9 => f_X0_exchangeLines_L18 p1 p2 fuel (x3 + 1) g71_9 k)
def f_X0_exchangeLines (t_lettersF : Nat → Int32) (t_sizesF : Nat → Int32) (t_lines : Int32) (p1 : Int32) (p2 : Int32) : Option ((Nat → Int32) × (Nat → Int32) × Int32) := (f_X0_hasLine t_lines p1).bind fun r2_1 => if r2_1 = 0 then (some (t_lettersF, t_sizesF, t_lines)) else ((f_X0_hasLine t_lines p2).bind fun r10_3 => if r10_3 = 0 then (some (t_lettersF, t_sizesF, t_lines)) else (f_X0_exchangeLines_L18 p1 p2 1000 0 t_lettersF (fun x3_18_10 q_t_lettersF_18_11 => (ldi t_sizesF 8 p1).bind fun v83_12 => (ldi t_sizesF 8 p2).bind fun v95_13 => (sti t_sizesF 8 p1 v95_13).bind fun g96_14 => (sti g96_14 8 p2 v83_12).bind fun g103_15 => some (q_t_lettersF_18_11, g103_15, t_lines))))
theorem hd_X0_exchangeLines : yX0_exchangeLines.cls = RX0 ∧ yX0_exchangeLines.cls ≠ "java/lang/invoke/MethodHandle" ∧ yX0_exchangeLines.cls ≠ "java/lang/invoke/VarHandle" ∧ (parseMethodDescriptor yX0_exchangeLines.desc).map (fun d => d.parameters.length) = some 2 := by decide +kernel
set_option maxRecDepth 100000 in
set_option maxHeartbeats 4000000 in
theorem c_X0_exchangeLines (l : Launch) (D : va_G) (kc ki kb kl kd : ClassId) (t t_letters t_sizes : Nat) (t_lettersF : Nat → Int32) (t_sizesF : Nat → Int32) (t_lines : Int32) (p1 p2 : Int32) (res : (Nat → Int32) × (Nat → Int32) × Int32) (hF : f_X0_exchangeLines t_lettersF t_sizesF t_lines p1 p2 = some res) : aKv l yX0_exchangeLines (aW yX0_exchangeLines cX0_exchangeLines 5 none) ({ frames := 1, cells := 0, slots := 0, locals := 21 } : Room) D (aTy kc ki kb kl kd) [.ref t, .int p1, .int p2] (wX0 kc ki t t_letters t_sizes t_lettersF t_sizesF t_lines) (fun r => wX0 kc ki t t_letters t_sizes r.1 r.2.1 r.2.2) res := by
  refine aKv_of (own := RX0) (by decide) rfl (Nat.le_of_ble_eq_true rfl) rfl ?_
  intro p e s m args below meth c C hr
  have hI18 : ∀ (q_t_sizesF : Nat → Int32) (q_t_lines : Int32) (fuel : Nat) (x3 : Int32) (q_t_lettersF : Nat → Int32) (k : Int32 → (Nat → Int32) → Option ((Nat → Int32) × (Nat → Int32) × Int32)), f_X0_exchangeLines_L18 p1 p2 fuel x3 q_t_lettersF k = some res → (∀ (x3 : Int32) (q_t_lettersF : Nat → Int32), k x3 q_t_lettersF = some res → aT p l e ({ frames := 1, cells := 0, slots := 0, locals := 21 } : Room) s m args below meth c (MQ below (aQv D (wX0 kc ki t t_letters t_sizes t_lettersF t_sizesF t_lines) s.heap.size (fun r => wX0 kc ki t t_letters t_sizes r.1 r.2.1 r.2.2) res) args s 0 0 (va_A (wX0 kc ki t t_letters t_sizes t_lettersF t_sizesF t_lines) s.heap.size)) D (va_A (wX0 kc ki t t_letters t_sizes t_lettersF t_sizesF t_lines) s.heap.size) 5 0 0 78 [(0, .ref t), (1, .int p1), (2, .int p2)] [] (wX0 kc ki t t_letters t_sizes q_t_lettersF q_t_sizesF q_t_lines)) → aT p l e ({ frames := 1, cells := 0, slots := 0, locals := 21 } : Room) s m args below meth c (MQ below (aQv D (wX0 kc ki t t_letters t_sizes t_lettersF t_sizesF t_lines) s.heap.size (fun r => wX0 kc ki t t_letters t_sizes r.1 r.2.1 r.2.2) res) args s 0 0 (va_A (wX0 kc ki t t_letters t_sizes t_lettersF t_sizesF t_lines) s.heap.size)) D (va_A (wX0 kc ki t t_letters t_sizes t_lettersF t_sizesF t_lines) s.heap.size) 5 0 0 18 [(0, .ref t), (1, .int p1), (2, .int p2), (3, .int x3)] [] (wX0 kc ki t t_letters t_sizes q_t_lettersF q_t_sizesF q_t_lines) := by
    intro q_t_sizesF q_t_lines fuel
    induction fuel with
    | zero => intro x3 q_t_lettersF k hF hX; exact nomatch hF
    | succ fuel ih =>
      intro x3 q_t_lettersF k hF hX
      rw [f_X0_exchangeLines_L18] at hF
      refine a_iload_n C 3 dX0_exchangeLines_18 rfl rfl ?_
      refine a_bipush C (v := 10) dX0_exchangeLines_19 (by decide) ?_
      refine a_ic_ge C (tgt := 78) dX0_exchangeLines_21 (by decide) hF (fun c21_5 hF => ?_) (fun c21_5 hF => ?_)
      · refine a_sub C [0, 1, 2] [(0, .ref t), (1, .int p1), (2, .int p2)] rfl ?_
        exact hX x3 q_t_lettersF hF
      refine a_aload_n C 0 dX0_exchangeLines_24 rfl rfl ?_
      refine a_get C 0 0 iwX0 rfl rfl (by decide) kf_X0_9 rfl dX0_exchangeLines_25 ?_
      refine a_iload_n C 1 dX0_exchangeLines_28 rfl rfl ?_
      refine a_bipush C (v := 10) dX0_exchangeLines_29 (by decide) ?_
      refine a_imul C dX0_exchangeLines_31 ?_
      refine a_iload_n C 3 dX0_exchangeLines_32 rfl rfl ?_
      refine a_iadd C dX0_exchangeLines_33 ?_
      refine a_cald C 1 0 rfl rfl dX0_exchangeLines_34 hF (fun v34_6 ev34_6 hF => ?_)
      refine a_istore C [(4, .int v34_6), (0, .ref t), (1, .int p1), (2, .int p2), (3, .int x3)] dX0_exchangeLines_35 (by decide) rfl ?_
      refine a_aload_n C 1 dX0_exchangeLines_37 rfl rfl ?_
      refine a_get C 0 0 iwX0 rfl rfl (by decide) kf_X0_9 rfl dX0_exchangeLines_38 ?_
      refine a_iload_n C 2 dX0_exchangeLines_41 rfl rfl ?_
      refine a_bipush C (v := 10) dX0_exchangeLines_42 (by decide) ?_
      refine a_imul C dX0_exchangeLines_44 ?_
      refine a_iload_n C 4 dX0_exchangeLines_45 rfl rfl ?_
      refine a_iadd C dX0_exchangeLines_46 ?_
      refine a_aload_n C 1 dX0_exchangeLines_47 rfl rfl ?_
      refine a_get C 0 0 iwX0 rfl rfl (by decide) kf_X0_9 rfl dX0_exchangeLines_48 ?_
      refine a_iload_n C 3 dX0_exchangeLines_51 rfl rfl ?_
      refine a_bipush C (v := 10) dX0_exchangeLines_52 (by decide) ?_
      refine a_imul C dX0_exchangeLines_54 ?_
      refine a_iload_n C 4 dX0_exchangeLines_55 rfl rfl ?_
      refine a_iadd C dX0_exchangeLines_56 ?_
      refine a_cald C 1 0 rfl rfl dX0_exchangeLines_57 hF (fun v57_7 ev57_7 hF => ?_)
      refine a_cast C 1 0 rfl rfl dX0_exchangeLines_58 hF (fun g58_8 eg58_8 hF => ?_)
      refine a_ws C (ws' := wX0 kc ki t t_letters t_sizes g58_8 q_t_sizesF q_t_lines) rfl ?_
      refine a_aload_n C 1 dX0_exchangeLines_59 rfl rfl ?_
      refine a_get C 0 0 iwX0 rfl rfl (by decide) kf_X0_9 rfl dX0_exchangeLines_60 ?_
      refine a_iload_n C 3 dX0_exchangeLines_63 rfl rfl ?_
      refine a_bipush C (v := 10) dX0_exchangeLines_64 (by decide) ?_
      refine a_imul C dX0_exchangeLines_66 ?_
      refine a_iload_n C 4 dX0_exchangeLines_67 rfl rfl ?_
      refine a_iadd C dX0_exchangeLines_68 ?_
      refine a_iload C 0 dX0_exchangeLines_69 rfl ?_
      refine a_cast C 1 0 rfl rfl dX0_exchangeLines_71 hF (fun g71_9 eg71_9 hF => ?_)
      refine a_ws C (ws' := wX0 kc ki t t_letters t_sizes g71_9 q_t_sizesF q_t_lines) rfl ?_
      refine a_iinc C 4 [(3, .int (x3 + 1)), (4, .int v34_6), (0, .ref t), (1, .int p1), (2, .int p2)] dX0_exchangeLines_72 rfl rfl (by decide) rfl ?_
      refine a_goto C (tgt := 18) dX0_exchangeLines_75 (by decide) ?_
      refine a_sub C [2, 3, 4, 0] [(0, .ref t), (1, .int p1), (2, .int p2), (3, .int (x3 + 1))] rfl ?_
      exact ih (x3 + 1) g71_9 k hF hX
  unfold f_X0_exchangeLines at hF
  refine a_aload_n C 0 dX0_exchangeLines_0 rfl rfl ?_
  refine a_iload_n C 1 dX0_exchangeLines_1 rfl rfl ?_
  refine a_callVir C 1 [0, 1, 2] 0 cs_X0_23 hd_X0_hasLine ⟨rfl, rfl⟩ ⟨Nat.le_of_ble_eq_true rfl, Nat.le_of_ble_eq_true rfl⟩ (fun r h => c_X0_hasLine l D kc ki kb kl kd t t_letters t_sizes t_lettersF t_sizesF t_lines p1 r h) rfl rfl rfl rfl rfl rfl (Nat.le_of_ble_eq_true rfl) dX0_exchangeLines_2 ⟨Nat.zero_le _, Nat.zero_le _⟩ hF (fun r2_1 er2_1 hF => ?_)
  refine a_if_eq C (tgt := 104) dX0_exchangeLines_5 (by decide) hF (fun c5_2 hF => ?_) (fun c5_2 hF => ?_)
  · exact a_vret C hr dX0_exchangeLines_104 hF rfl
  refine a_aload_n C 0 dX0_exchangeLines_8 rfl rfl ?_
  refine a_iload_n C 2 dX0_exchangeLines_9 rfl rfl ?_
  refine a_callVir C 1 [0, 1, 2] 0 cs_X0_23 hd_X0_hasLine ⟨rfl, rfl⟩ ⟨Nat.le_of_ble_eq_true rfl, Nat.le_of_ble_eq_true rfl⟩ (fun r h => c_X0_hasLine l D kc ki kb kl kd t t_letters t_sizes t_lettersF t_sizesF t_lines p2 r h) rfl rfl rfl rfl rfl rfl (Nat.le_of_ble_eq_true rfl) dX0_exchangeLines_10 ⟨Nat.zero_le _, Nat.zero_le _⟩ hF (fun r10_3 er10_3 hF => ?_)
  refine a_if_eq C (tgt := 104) dX0_exchangeLines_13 (by decide) hF (fun c13_4 hF => ?_) (fun c13_4 hF => ?_)
  · exact a_vret C hr dX0_exchangeLines_104 hF rfl
  refine a_iconst C (v := 0) dX0_exchangeLines_16 (by decide) ?_
  refine a_istore_n C [(3, .int 0), (0, .ref t), (1, .int p1), (2, .int p2)] dX0_exchangeLines_17 rfl (by decide) rfl ?_
  refine a_sub C [1, 2, 3, 0] [(0, .ref t), (1, .int p1), (2, .int p2), (3, .int 0)] rfl ?_
  refine hI18 t_sizesF t_lines 1000 0 t_lettersF _ hF (fun x3_18_10 q_t_lettersF_18_11 hF => ?_)
  refine a_aload_n C 0 dX0_exchangeLines_78 rfl rfl ?_
  refine a_get C 0 1 iwX0 rfl rfl (by decide) kf_X0_15 rfl dX0_exchangeLines_79 ?_
  refine a_iload_n C 1 dX0_exchangeLines_82 rfl rfl ?_
  refine a_iald C 2 1 rfl rfl dX0_exchangeLines_83 hF (fun v83_12 ev83_12 hF => ?_)
  refine a_istore_n C [(3, .int v83_12), (0, .ref t), (1, .int p1), (2, .int p2)] dX0_exchangeLines_84 rfl (by decide) rfl ?_
  refine a_aload_n C 1 dX0_exchangeLines_85 rfl rfl ?_
  refine a_get C 0 1 iwX0 rfl rfl (by decide) kf_X0_15 rfl dX0_exchangeLines_86 ?_
  refine a_iload_n C 2 dX0_exchangeLines_89 rfl rfl ?_
  refine a_aload_n C 1 dX0_exchangeLines_90 rfl rfl ?_
  refine a_get C 0 1 iwX0 rfl rfl (by decide) kf_X0_15 rfl dX0_exchangeLines_91 ?_
  refine a_iload_n C 3 dX0_exchangeLines_94 rfl rfl ?_
  refine a_iald C 2 1 rfl rfl dX0_exchangeLines_95 hF (fun v95_13 ev95_13 hF => ?_)
  refine a_iast C 2 1 rfl rfl dX0_exchangeLines_96 hF (fun g96_14 eg96_14 hF => ?_)
  refine a_ws C (ws' := wX0 kc ki t t_letters t_sizes q_t_lettersF_18_11 g96_14 t_lines) rfl ?_
  refine a_aload_n C 1 dX0_exchangeLines_97 rfl rfl ?_
  refine a_get C 0 1 iwX0 rfl rfl (by decide) kf_X0_15 rfl dX0_exchangeLines_98 ?_
  refine a_iload_n C 3 dX0_exchangeLines_101 rfl rfl ?_
  refine a_iload_n C 0 dX0_exchangeLines_102 rfl rfl ?_
  refine a_iast C 2 1 rfl rfl dX0_exchangeLines_103 hF (fun g103_15 eg103_15 hF => ?_)
  refine a_ws C (ws' := wX0 kc ki t t_letters t_sizes q_t_lettersF_18_11 g103_15 t_lines) rfl ?_
  exact a_vret C hr dX0_exchangeLines_104 hF rfl
theorem cs_X0_35 : GoodIn WW (wsV RX0 35 RX0 yX0_exchangeLines (aW yX0_exchangeLines cX0_exchangeLines 5 none)) := gdV kl_X0_35 ki_X0_exchangeLines kv_X0_exchangeLines kn_X0 kc_X0_exchangeLines
def f_X0_removeLine_L12 : Nat → Int32 → (Nat → Int32) → (Nat → Int32) → Int32 → (Int32 → (Nat → Int32) → (Nat → Int32) → Int32 → Option ((Nat → Int32) × (Nat → Int32) × Int32)) → Option ((Nat → Int32) × (Nat → Int32) × Int32)
  | 0, _, _, _, _, _ => none
  | fuel + 1, x2, q_t_lettersF, q_t_sizesF, q_t_lines, k => if q_t_lines ≤ x2 then (k x2 q_t_lettersF q_t_sizesF q_t_lines) else ((f_X0_exchangeLines q_t_lettersF q_t_sizesF q_t_lines (x2 - 1) x2).bind fun r25_4 => f_X0_removeLine_L12 fuel (x2 + 1) r25_4.1 r25_4.2.1 r25_4.2.2 k)
def f_X0_removeLine (t_lettersF : Nat → Int32) (t_sizesF : Nat → Int32) (t_lines : Int32) (p1 : Int32) : Option ((Nat → Int32) × (Nat → Int32) × Int32) := (f_X0_hasLine t_lines p1).bind fun r2_1 => if r2_1 = 0 then (some (t_lettersF, t_sizesF, t_lines)) else (f_X0_removeLine_L12 1000 (p1 + 1) t_lettersF t_sizesF t_lines (fun x2_12_5 q_t_lettersF_12_6 q_t_sizesF_12_7 q_t_lines_12_8 => some (q_t_lettersF_12_6, q_t_sizesF_12_7, q_t_lines_12_8 - 1)))
theorem hd_X0_removeLine : yX0_removeLine.cls = RX0 ∧ yX0_removeLine.cls ≠ "java/lang/invoke/MethodHandle" ∧ yX0_removeLine.cls ≠ "java/lang/invoke/VarHandle" ∧ (parseMethodDescriptor yX0_removeLine.desc).map (fun d => d.parameters.length) = some 1 := by decide +kernel
set_option maxRecDepth 100000 in
set_option maxHeartbeats 4000000 in
theorem c_X0_removeLine (l : Launch) (D : va_G) (kc ki kb kl kd : ClassId) (t t_letters t_sizes : Nat) (t_lettersF : Nat → Int32) (t_sizesF : Nat → Int32) (t_lines : Int32) (p1 : Int32) (res : (Nat → Int32) × (Nat → Int32) × Int32) (hF : f_X0_removeLine t_lettersF t_sizesF t_lines p1 = some res) : aKv l yX0_removeLine (aW yX0_removeLine cX0_removeLine 3 none) ({ frames := 2, cells := 0, slots := 0, locals := 45 } : Room) D (aTy kc ki kb kl kd) [.ref t, .int p1] (wX0 kc ki t t_letters t_sizes t_lettersF t_sizesF t_lines) (fun r => wX0 kc ki t t_letters t_sizes r.1 r.2.1 r.2.2) res := by
  refine aKv_of (own := RX0) (by decide) rfl (Nat.le_of_ble_eq_true rfl) rfl ?_
  intro p e s m args below meth c C hr
  have hI12 : ∀ (fuel : Nat) (x2 : Int32) (q_t_lettersF : Nat → Int32) (q_t_sizesF : Nat → Int32) (q_t_lines : Int32) (k : Int32 → (Nat → Int32) → (Nat → Int32) → Int32 → Option ((Nat → Int32) × (Nat → Int32) × Int32)), f_X0_removeLine_L12 fuel x2 q_t_lettersF q_t_sizesF q_t_lines k = some res → (∀ (x2 : Int32) (q_t_lettersF : Nat → Int32) (q_t_sizesF : Nat → Int32) (q_t_lines : Int32), k x2 q_t_lettersF q_t_sizesF q_t_lines = some res → aT p l e ({ frames := 2, cells := 0, slots := 0, locals := 45 } : Room) s m args below meth c (MQ below (aQv D (wX0 kc ki t t_letters t_sizes t_lettersF t_sizesF t_lines) s.heap.size (fun r => wX0 kc ki t t_letters t_sizes r.1 r.2.1 r.2.2) res) args s 0 0 (va_A (wX0 kc ki t t_letters t_sizes t_lettersF t_sizesF t_lines) s.heap.size)) D (va_A (wX0 kc ki t t_letters t_sizes t_lettersF t_sizesF t_lines) s.heap.size) 3 0 0 34 [(0, .ref t)] [] (wX0 kc ki t t_letters t_sizes q_t_lettersF q_t_sizesF q_t_lines)) → aT p l e ({ frames := 2, cells := 0, slots := 0, locals := 45 } : Room) s m args below meth c (MQ below (aQv D (wX0 kc ki t t_letters t_sizes t_lettersF t_sizesF t_lines) s.heap.size (fun r => wX0 kc ki t t_letters t_sizes r.1 r.2.1 r.2.2) res) args s 0 0 (va_A (wX0 kc ki t t_letters t_sizes t_lettersF t_sizesF t_lines) s.heap.size)) D (va_A (wX0 kc ki t t_letters t_sizes t_lettersF t_sizesF t_lines) s.heap.size) 3 0 0 12 [(0, .ref t), (2, .int x2)] [] (wX0 kc ki t t_letters t_sizes q_t_lettersF q_t_sizesF q_t_lines) := by
    intro fuel
    induction fuel with
    | zero => intro x2 q_t_lettersF q_t_sizesF q_t_lines k hF hX; exact nomatch hF
    | succ fuel ih =>
      intro x2 q_t_lettersF q_t_sizesF q_t_lines k hF hX
      rw [f_X0_removeLine_L12] at hF
      refine a_iload_n C 1 dX0_removeLine_12 rfl rfl ?_
      refine a_aload_n C 0 dX0_removeLine_13 rfl rfl ?_
      refine a_get C 0 2 iwX0 rfl rfl (by decide) kf_X0_19 rfl dX0_removeLine_14 ?_
      refine a_ic_ge C (tgt := 34) dX0_removeLine_17 (by decide) hF (fun c17_3 hF => ?_) (fun c17_3 hF => ?_)
      · refine a_sub C [0] [(0, .ref t)] rfl ?_
        exact hX x2 q_t_lettersF q_t_sizesF q_t_lines hF
      refine a_aload_n C 0 dX0_removeLine_20 rfl rfl ?_
      refine a_iload_n C 1 dX0_removeLine_21 rfl rfl ?_
      refine a_iconst C (v := 1) dX0_removeLine_22 (by decide) ?_
      refine a_isub C dX0_removeLine_23 ?_
      refine a_iload_n C 1 dX0_removeLine_24 rfl rfl ?_
      refine a_callVv C 2 [0, 1, 2] 0 cs_X0_35 hd_X0_exchangeLines ⟨rfl, rfl⟩ ⟨Nat.le_of_ble_eq_true rfl, Nat.le_of_ble_eq_true rfl⟩ (fun r h => c_X0_exchangeLines l D kc ki kb kl kd t t_letters t_sizes q_t_lettersF q_t_sizesF q_t_lines (x2 - 1) x2 r h) rfl rfl rfl (fun _ => rfl) rfl rfl rfl (Nat.le_of_ble_eq_true rfl) dX0_removeLine_25 ⟨Nat.zero_le _, Nat.zero_le _⟩ hF (fun r25_4 er25_4 hF => ?_)
      refine a_ws C (ws' := wX0 kc ki t t_letters t_sizes r25_4.1 r25_4.2.1 r25_4.2.2) rfl ?_
      refine a_iinc C 1 [(2, .int (x2 + 1)), (0, .ref t)] dX0_removeLine_28 rfl rfl (by decide) rfl ?_
      refine a_goto C (tgt := 12) dX0_removeLine_31 (by decide) ?_
      refine a_sub C [1, 0] [(0, .ref t), (2, .int (x2 + 1))] rfl ?_
      exact ih (x2 + 1) r25_4.1 r25_4.2.1 r25_4.2.2 k hF hX
  unfold f_X0_removeLine at hF
  refine a_aload_n C 0 dX0_removeLine_0 rfl rfl ?_
  refine a_iload_n C 1 dX0_removeLine_1 rfl rfl ?_
  refine a_callVir C 1 [0, 1, 2] 0 cs_X0_23 hd_X0_hasLine ⟨rfl, rfl⟩ ⟨Nat.le_of_ble_eq_true rfl, Nat.le_of_ble_eq_true rfl⟩ (fun r h => c_X0_hasLine l D kc ki kb kl kd t t_letters t_sizes t_lettersF t_sizesF t_lines p1 r h) rfl rfl rfl rfl rfl rfl (Nat.le_of_ble_eq_true rfl) dX0_removeLine_2 ⟨Nat.zero_le _, Nat.zero_le _⟩ hF (fun r2_1 er2_1 hF => ?_)
  refine a_if_eq C (tgt := 44) dX0_removeLine_5 (by decide) hF (fun c5_2 hF => ?_) (fun c5_2 hF => ?_)
  · exact a_vret C hr dX0_removeLine_44 hF rfl
  refine a_iload_n C 1 dX0_removeLine_8 rfl rfl ?_
  refine a_iconst C (v := 1) dX0_removeLine_9 (by decide) ?_
  refine a_iadd C dX0_removeLine_10 ?_
  refine a_istore_n C [(2, .int (p1 + 1)), (0, .ref t), (1, .int p1)] dX0_removeLine_11 rfl (by decide) rfl ?_
  refine a_sub C [1, 0] [(0, .ref t), (2, .int (p1 + 1))] rfl ?_
  refine hI12 1000 (p1 + 1) t_lettersF t_sizesF t_lines _ hF (fun x2_12_5 q_t_lettersF_12_6 q_t_sizesF_12_7 q_t_lines_12_8 hF => ?_)
  refine a_aload_n C 0 dX0_removeLine_34 rfl rfl ?_
  refine a_dup C dX0_removeLine_35 rfl ?_
  refine a_get C 0 2 iwX0 rfl rfl (by decide) kf_X0_19 rfl dX0_removeLine_36 ?_
  refine a_iconst C (v := 1) dX0_removeLine_39 (by decide) ?_
  refine a_isub C dX0_removeLine_40 ?_
  refine a_put C 0 2 iwX0 tyX0_ok nmX0 rfl rfl (by decide) kf_X0_19 rfl rfl rfl (Nat.le_of_ble_eq_true rfl) dX0_removeLine_41 ?_
  refine a_ws C (ws' := wX0 kc ki t t_letters t_sizes q_t_lettersF_12_6 q_t_sizesF_12_7 (q_t_lines_12_8 - 1)) rfl ?_
  exact a_vret C hr dX0_removeLine_44 hF rfl
theorem cs_X0_39 : GoodIn WW (wsV RX0 39 RX0 yX0_size (aW yX0_size cX0_size 2 ((some .int)))) := gdV kl_X0_39 ki_X0_size kv_X0_size kn_X0 kc_X0_size
theorem cs_X0_43 : GoodIn WW (wsV RX0 43 RX0 yX0_letterAt (aW yX0_letterAt cX0_letterAt 3 ((some .char)))) := gdV kl_X0_43 ki_X0_letterAt kv_X0_letterAt kn_X0 kc_X0_letterAt
def f_X0_reverseLine_L10 (x2 : Int32) (q_t_sizesF : Nat → Int32) (q_t_lines : Int32) (p1 : Int32) : Nat → Int32 → (Nat → Int32) → (Int32 → (Nat → Int32) → Option ((Nat → Int32) × (Nat → Int32) × Int32)) → Option ((Nat → Int32) × (Nat → Int32) × Int32)
  | 0, _, _, _ => none
  | fuel + 1, x3, q_t_lettersF, k => if (x2 - x3) ≤ x3 then (k x3 q_t_lettersF) else ((f_X0_letterAt q_t_lettersF q_t_sizesF q_t_lines p1 x3).bind fun r20_3 => (f_X0_letterAt q_t_lettersF q_t_sizesF q_t_lines p1 (x2 - x3)).bind fun r33_4 => (f_X0_setLetter q_t_lettersF q_t_sizesF q_t_lines p1 x3 r33_4).bind fun r36_5 => (f_X0_setLetter r36_5 q_t_sizesF q_t_lines p1 (x2 - x3) r20_3).bind fun r46_6 => f_X0_reverseLine_L10 x2 q_t_sizesF q_t_lines p1 fuel (x3 + 1) r46_6 k)
def f_X0_reverseLine (t_lettersF : Nat → Int32) (t_sizesF : Nat → Int32) (t_lines : Int32) (p1 : Int32) : Option ((Nat → Int32) × (Nat → Int32) × Int32) := (f_X0_size t_sizesF t_lines p1).bind fun r2_1 => f_X0_reverseLine_L10 (r2_1 - 1) t_sizesF t_lines p1 1000 0 t_lettersF (fun x3_10_7 q_t_lettersF_10_8 => some (q_t_lettersF_10_8, t_sizesF, t_lines))
theorem hd_X0_reverseLine : yX0_reverseLine.cls = RX0 ∧ yX0_reverseLine.cls ≠ "java/lang/invoke/MethodHandle" ∧ yX0_reverseLine.cls ≠ "java/lang/invoke/VarHandle" ∧ (parseMethodDescriptor yX0_reverseLine.desc).map (fun d => d.parameters.length) = some 1 := by decide +kernel
set_option maxRecDepth 100000 in
set_option maxHeartbeats 4000000 in
theorem c_X0_reverseLine (l : Launch) (D : va_G) (kc ki kb kl kd : ClassId) (t t_letters t_sizes : Nat) (t_lettersF : Nat → Int32) (t_sizesF : Nat → Int32) (t_lines : Int32) (p1 : Int32) (res : (Nat → Int32) × (Nat → Int32) × Int32) (hF : f_X0_reverseLine t_lettersF t_sizesF t_lines p1 = some res) : aKv l yX0_reverseLine (aW yX0_reverseLine cX0_reverseLine 5 none) ({ frames := 2, cells := 0, slots := 0, locals := 45 } : Room) D (aTy kc ki kb kl kd) [.ref t, .int p1] (wX0 kc ki t t_letters t_sizes t_lettersF t_sizesF t_lines) (fun r => wX0 kc ki t t_letters t_sizes r.1 r.2.1 r.2.2) res := by
  refine aKv_of (own := RX0) (by decide) rfl (Nat.le_of_ble_eq_true rfl) rfl ?_
  intro p e s m args below meth c C hr
  have hI10 : ∀ (x2 : Int32) (q_t_sizesF : Nat → Int32) (q_t_lines : Int32) (fuel : Nat) (x3 : Int32) (q_t_lettersF : Nat → Int32) (k : Int32 → (Nat → Int32) → Option ((Nat → Int32) × (Nat → Int32) × Int32)), f_X0_reverseLine_L10 x2 q_t_sizesF q_t_lines p1 fuel x3 q_t_lettersF k = some res → (∀ (x3 : Int32) (q_t_lettersF : Nat → Int32), k x3 q_t_lettersF = some res → aT p l e ({ frames := 2, cells := 0, slots := 0, locals := 45 } : Room) s m args below meth c (MQ below (aQv D (wX0 kc ki t t_letters t_sizes t_lettersF t_sizesF t_lines) s.heap.size (fun r => wX0 kc ki t t_letters t_sizes r.1 r.2.1 r.2.2) res) args s 0 0 (va_A (wX0 kc ki t t_letters t_sizes t_lettersF t_sizesF t_lines) s.heap.size)) D (va_A (wX0 kc ki t t_letters t_sizes t_lettersF t_sizesF t_lines) s.heap.size) 5 0 0 55 [] [] (wX0 kc ki t t_letters t_sizes q_t_lettersF q_t_sizesF q_t_lines)) → aT p l e ({ frames := 2, cells := 0, slots := 0, locals := 45 } : Room) s m args below meth c (MQ below (aQv D (wX0 kc ki t t_letters t_sizes t_lettersF t_sizesF t_lines) s.heap.size (fun r => wX0 kc ki t t_letters t_sizes r.1 r.2.1 r.2.2) res) args s 0 0 (va_A (wX0 kc ki t t_letters t_sizes t_lettersF t_sizesF t_lines) s.heap.size)) D (va_A (wX0 kc ki t t_letters t_sizes t_lettersF t_sizesF t_lines) s.heap.size) 5 0 0 10 [(0, .ref t), (1, .int p1), (2, .int x2), (3, .int x3)] [] (wX0 kc ki t t_letters t_sizes q_t_lettersF q_t_sizesF q_t_lines) := by
    intro x2 q_t_sizesF q_t_lines fuel
    induction fuel with
    | zero => intro x3 q_t_lettersF k hF hX; exact nomatch hF
    | succ fuel ih =>
      intro x3 q_t_lettersF k hF hX
      rw [f_X0_reverseLine_L10] at hF
      refine a_iload_n C 3 dX0_reverseLine_10 rfl rfl ?_
      refine a_iload_n C 2 dX0_reverseLine_11 rfl rfl ?_
      refine a_iload_n C 3 dX0_reverseLine_12 rfl rfl ?_
      refine a_isub C dX0_reverseLine_13 ?_
      refine a_ic_ge C (tgt := 55) dX0_reverseLine_14 (by decide) hF (fun c14_2 hF => ?_) (fun c14_2 hF => ?_)
      · refine a_sub C [] [] rfl ?_
        exact hX x3 q_t_lettersF hF
      refine a_aload_n C 0 dX0_reverseLine_17 rfl rfl ?_
      refine a_iload_n C 1 dX0_reverseLine_18 rfl rfl ?_
      refine a_iload_n C 3 dX0_reverseLine_19 rfl rfl ?_
      refine a_callVir C 2 [0, 1, 2] 0 cs_X0_43 hd_X0_letterAt ⟨rfl, rfl⟩ ⟨Nat.le_of_ble_eq_true rfl, Nat.le_of_ble_eq_true rfl⟩ (fun r h => c_X0_letterAt l D kc ki kb kl kd t t_letters t_sizes q_t_lettersF q_t_sizesF q_t_lines p1 x3 r h) rfl rfl rfl rfl rfl rfl (Nat.le_of_ble_eq_true rfl) dX0_reverseLine_20 ⟨Nat.zero_le _, Nat.zero_le _⟩ hF (fun r20_3 er20_3 hF => ?_)
      refine a_istore C [(4, .int r20_3), (0, .ref t), (1, .int p1), (2, .int x2), (3, .int x3)] dX0_reverseLine_23 (by decide) rfl ?_
      refine a_aload_n C 1 dX0_reverseLine_25 rfl rfl ?_
      refine a_iload_n C 2 dX0_reverseLine_26 rfl rfl ?_
      refine a_iload_n C 4 dX0_reverseLine_27 rfl rfl ?_
      refine a_aload_n C 1 dX0_reverseLine_28 rfl rfl ?_
      refine a_iload_n C 2 dX0_reverseLine_29 rfl rfl ?_
      refine a_iload_n C 3 dX0_reverseLine_30 rfl rfl ?_
      refine a_iload_n C 4 dX0_reverseLine_31 rfl rfl ?_
      refine a_isub C dX0_reverseLine_32 ?_
      refine a_callVir C 2 [0, 1, 2] 0 cs_X0_43 hd_X0_letterAt ⟨rfl, rfl⟩ ⟨Nat.le_of_ble_eq_true rfl, Nat.le_of_ble_eq_true rfl⟩ (fun r h => c_X0_letterAt l D kc ki kb kl kd t t_letters t_sizes q_t_lettersF q_t_sizesF q_t_lines p1 (x2 - x3) r h) rfl rfl rfl rfl rfl rfl (Nat.le_of_ble_eq_true rfl) dX0_reverseLine_33 ⟨Nat.zero_le _, Nat.zero_le _⟩ hF (fun r33_4 er33_4 hF => ?_)
      refine a_callVv C 3 [0, 1, 2] 0 cs_X0_31 hd_X0_setLetter ⟨rfl, rfl⟩ ⟨Nat.le_of_ble_eq_true rfl, Nat.le_of_ble_eq_true rfl⟩ (fun r h => c_X0_setLetter l D kc ki kb kl kd t t_letters t_sizes q_t_lettersF q_t_sizesF q_t_lines p1 x3 r33_4 r h) rfl rfl rfl (fun _ => rfl) rfl rfl rfl (Nat.le_of_ble_eq_true rfl) dX0_reverseLine_36 ⟨Nat.zero_le _, Nat.zero_le _⟩ hF (fun r36_5 er36_5 hF => ?_)
      refine a_ws C (ws' := wX0 kc ki t t_letters t_sizes r36_5 q_t_sizesF q_t_lines) rfl ?_
      refine a_aload_n C 1 dX0_reverseLine_39 rfl rfl ?_
      refine a_iload_n C 2 dX0_reverseLine_40 rfl rfl ?_
      refine a_iload_n C 3 dX0_reverseLine_41 rfl rfl ?_
      refine a_iload_n C 4 dX0_reverseLine_42 rfl rfl ?_
      refine a_isub C dX0_reverseLine_43 ?_
      refine a_iload C 0 dX0_reverseLine_44 rfl ?_
      refine a_callVv C 3 [0, 1, 2] 0 cs_X0_31 hd_X0_setLetter ⟨rfl, rfl⟩ ⟨Nat.le_of_ble_eq_true rfl, Nat.le_of_ble_eq_true rfl⟩ (fun r h => c_X0_setLetter l D kc ki kb kl kd t t_letters t_sizes r36_5 q_t_sizesF q_t_lines p1 (x2 - x3) r20_3 r h) rfl rfl rfl (fun _ => rfl) rfl rfl rfl (Nat.le_of_ble_eq_true rfl) dX0_reverseLine_46 ⟨Nat.zero_le _, Nat.zero_le _⟩ hF (fun r46_6 er46_6 hF => ?_)
      refine a_ws C (ws' := wX0 kc ki t t_letters t_sizes r46_6 q_t_sizesF q_t_lines) rfl ?_
      refine a_iinc C 4 [(3, .int (x3 + 1)), (4, .int r20_3), (0, .ref t), (1, .int p1), (2, .int x2)] dX0_reverseLine_49 rfl rfl (by decide) rfl ?_
      refine a_goto C (tgt := 10) dX0_reverseLine_52 (by decide) ?_
      refine a_sub C [2, 3, 4, 0] [(0, .ref t), (1, .int p1), (2, .int x2), (3, .int (x3 + 1))] rfl ?_
      exact ih (x3 + 1) r46_6 k hF hX
  unfold f_X0_reverseLine at hF
  refine a_aload_n C 0 dX0_reverseLine_0 rfl rfl ?_
  refine a_iload_n C 1 dX0_reverseLine_1 rfl rfl ?_
  refine a_callVir C 1 [0, 1, 2] 0 cs_X0_39 hd_X0_size ⟨rfl, rfl⟩ ⟨Nat.le_of_ble_eq_true rfl, Nat.le_of_ble_eq_true rfl⟩ (fun r h => c_X0_size l D kc ki kb kl kd t t_letters t_sizes t_lettersF t_sizesF t_lines p1 r h) rfl rfl rfl rfl rfl rfl (Nat.le_of_ble_eq_true rfl) dX0_reverseLine_2 ⟨Nat.zero_le _, Nat.zero_le _⟩ hF (fun r2_1 er2_1 hF => ?_)
  refine a_iconst C (v := 1) dX0_reverseLine_5 (by decide) ?_
  refine a_isub C dX0_reverseLine_6 ?_
  refine a_istore_n C [(2, .int (r2_1 - 1)), (0, .ref t), (1, .int p1)] dX0_reverseLine_7 rfl (by decide) rfl ?_
  refine a_iconst C (v := 0) dX0_reverseLine_8 (by decide) ?_
  refine a_istore_n C [(3, .int 0), (2, .int (r2_1 - 1)), (0, .ref t), (1, .int p1)] dX0_reverseLine_9 rfl (by decide) rfl ?_
  refine a_sub C [2, 3, 1, 0] [(0, .ref t), (1, .int p1), (2, .int (r2_1 - 1)), (3, .int 0)] rfl ?_
  refine hI10 (r2_1 - 1) t_sizesF t_lines 1000 0 t_lettersF _ hF (fun x3_10_7 q_t_lettersF_10_8 hF => ?_)
  exact a_vret C hr dX0_reverseLine_55 hF rfl
def f_X0_sameLetters_L3 (q_t_lettersF : Nat → Int32) (q_t_sizesF : Nat → Int32) (q_t_lines : Int32) (p1 : Int32) (p2 : Int32) (p3 : Int32) (p4 : Int32) : Nat → Int32 → (Int32 → Option (Int32 × (Nat → Int32) × (Nat → Int32) × Int32)) → Option (Int32 × (Nat → Int32) × (Nat → Int32) × Int32)
  | 0, _, _ => none
  | fuel + 1, x5, k => if 10 ≤ x5 then (k x5) else ((f_X0_letterAt q_t_lettersF q_t_sizesF q_t_lines p1 (p2 + x5)).bind fun r16_2 => if r16_2 = 0 then (some (x5, q_t_lettersF, q_t_sizesF, q_t_lines)) else ((f_X0_letterAt q_t_lettersF q_t_sizesF q_t_lines p3 (p4 + x5)).bind fun r35_4 => if r16_2 = r35_4 then (f_X0_sameLetters_L3 q_t_lettersF q_t_sizesF q_t_lines p1 p2 p3 p4 fuel (x5 + 1) k) else (some (x5, q_t_lettersF, q_t_sizesF, q_t_lines))))
def f_X0_sameLetters (t_lettersF : Nat → Int32) (t_sizesF : Nat → Int32) (t_lines : Int32) (p1 : Int32) (p2 : Int32) (p3 : Int32) (p4 : Int32) : Option (Int32 × (Nat → Int32) × (Nat → Int32) × Int32) := f_X0_sameLetters_L3 t_lettersF t_sizesF t_lines p1 p2 p3 p4 1000 0 (fun x5_3_6 => some (10, t_lettersF, t_sizesF, t_lines))
theorem hd_X0_sameLetters : yX0_sameLetters.cls = RX0 ∧ yX0_sameLetters.cls ≠ "java/lang/invoke/MethodHandle" ∧ yX0_sameLetters.cls ≠ "java/lang/invoke/VarHandle" ∧ (parseMethodDescriptor yX0_sameLetters.desc).map (fun d => d.parameters.length) = some 4 := by decide +kernel
set_option maxRecDepth 100000 in
set_option maxHeartbeats 4000000 in
theorem c_X0_sameLetters (l : Launch) (D : va_G) (kc ki kb kl kd : ClassId) (t t_letters t_sizes : Nat) (t_lettersF : Nat → Int32) (t_sizesF : Nat → Int32) (t_lines : Int32) (p1 p2 p3 p4 : Int32) (res : Int32 × (Nat → Int32) × (Nat → Int32) × Int32) (hF : f_X0_sameLetters t_lettersF t_sizesF t_lines p1 p2 p3 p4 = some res) : aKi l yX0_sameLetters (aW yX0_sameLetters cX0_sameLetters 7 ((some .int))) ({ frames := 2, cells := 0, slots := 0, locals := 44 } : Room) D (aTy kc ki kb kl kd) [.ref t, .int p1, .int p2, .int p3, .int p4] (wX0 kc ki t t_letters t_sizes t_lettersF t_sizesF t_lines) (fun r => r.1) (fun r => wX0 kc ki t t_letters t_sizes r.2.1 r.2.2.1 r.2.2.2) res := by
  refine aKi_of (own := RX0) (by decide) rfl (Nat.le_of_ble_eq_true rfl) rfl ?_
  intro p e s m args below meth c C hr
  have hI3 : ∀ (q_t_lettersF : Nat → Int32) (q_t_sizesF : Nat → Int32) (q_t_lines : Int32) (fuel : Nat) (x5 : Int32) (k : Int32 → Option (Int32 × (Nat → Int32) × (Nat → Int32) × Int32)), f_X0_sameLetters_L3 q_t_lettersF q_t_sizesF q_t_lines p1 p2 p3 p4 fuel x5 k = some res → (∀ (x5 : Int32), k x5 = some res → aT p l e ({ frames := 2, cells := 0, slots := 0, locals := 44 } : Room) s m args below meth c (MQ below (aQi D (wX0 kc ki t t_letters t_sizes t_lettersF t_sizesF t_lines) s.heap.size (fun r => r.1) (fun r => wX0 kc ki t t_letters t_sizes r.2.1 r.2.2.1 r.2.2.2) res) args s 0 0 (va_A (wX0 kc ki t t_letters t_sizes t_lettersF t_sizesF t_lines) s.heap.size)) D (va_A (wX0 kc ki t t_letters t_sizes t_lettersF t_sizesF t_lines) s.heap.size) 7 0 0 50 [] [] (wX0 kc ki t t_letters t_sizes q_t_lettersF q_t_sizesF q_t_lines)) → aT p l e ({ frames := 2, cells := 0, slots := 0, locals := 44 } : Room) s m args below meth c (MQ below (aQi D (wX0 kc ki t t_letters t_sizes t_lettersF t_sizesF t_lines) s.heap.size (fun r => r.1) (fun r => wX0 kc ki t t_letters t_sizes r.2.1 r.2.2.1 r.2.2.2) res) args s 0 0 (va_A (wX0 kc ki t t_letters t_sizes t_lettersF t_sizesF t_lines) s.heap.size)) D (va_A (wX0 kc ki t t_letters t_sizes t_lettersF t_sizesF t_lines) s.heap.size) 7 0 0 3 [(0, .ref t), (1, .int p1), (2, .int p2), (3, .int p3), (4, .int p4), (5, .int x5)] [] (wX0 kc ki t t_letters t_sizes q_t_lettersF q_t_sizesF q_t_lines) := by
    intro q_t_lettersF q_t_sizesF q_t_lines fuel
    induction fuel with
    | zero => intro x5 k hF hX; exact nomatch hF
    | succ fuel ih =>
      intro x5 k hF hX
      rw [f_X0_sameLetters_L3] at hF
      refine a_iload C 5 dX0_sameLetters_3 rfl ?_
      refine a_bipush C (v := 10) dX0_sameLetters_5 (by decide) ?_
      refine a_ic_ge C (tgt := 50) dX0_sameLetters_7 (by decide) hF (fun c7_1 hF => ?_) (fun c7_1 hF => ?_)
      · refine a_sub C [] [] rfl ?_
        exact hX x5 hF
      refine a_aload_n C 0 dX0_sameLetters_10 rfl rfl ?_
      refine a_iload_n C 1 dX0_sameLetters_11 rfl rfl ?_
      refine a_iload_n C 2 dX0_sameLetters_12 rfl rfl ?_
      refine a_iload C 5 dX0_sameLetters_13 rfl ?_
      refine a_iadd C dX0_sameLetters_15 ?_
      refine a_callVir C 2 [0, 1, 2] 0 cs_X0_43 hd_X0_letterAt ⟨rfl, rfl⟩ ⟨Nat.le_of_ble_eq_true rfl, Nat.le_of_ble_eq_true rfl⟩ (fun r h => c_X0_letterAt l D kc ki kb kl kd t t_letters t_sizes q_t_lettersF q_t_sizesF q_t_lines p1 (p2 + x5) r h) rfl rfl rfl rfl rfl rfl (Nat.le_of_ble_eq_true rfl) dX0_sameLetters_16 ⟨Nat.zero_le _, Nat.zero_le _⟩ hF (fun r16_2 er16_2 hF => ?_)
      refine a_istore C [(6, .int r16_2), (0, .ref t), (1, .int p1), (2, .int p2), (3, .int p3), (4, .int p4), (5, .int x5)] dX0_sameLetters_19 (by decide) rfl ?_
      refine a_iload C 0 dX0_sameLetters_21 rfl ?_
      refine a_if_eq C (tgt := 41) dX0_sameLetters_23 (by decide) hF (fun c23_3 hF => ?_) (fun c23_3 hF => ?_)
      · refine a_iload C 6 dX0_sameLetters_41 rfl ?_
        exact a_iret C hr rfl dX0_sameLetters_43 hF rfl rfl
      refine a_iload C 0 dX0_sameLetters_26 rfl ?_
      refine a_aload_n C 1 dX0_sameLetters_28 rfl rfl ?_
      refine a_iload_n C 4 dX0_sameLetters_29 rfl rfl ?_
      refine a_iload C 5 dX0_sameLetters_30 rfl ?_
      refine a_iload C 6 dX0_sameLetters_32 rfl ?_
      refine a_iadd C dX0_sameLetters_34 ?_
      refine a_callVir C 2 [0, 1, 2] 0 cs_X0_43 hd_X0_letterAt ⟨rfl, rfl⟩ ⟨Nat.le_of_ble_eq_true rfl, Nat.le_of_ble_eq_true rfl⟩ (fun r h => c_X0_letterAt l D kc ki kb kl kd t t_letters t_sizes q_t_lettersF q_t_sizesF q_t_lines p3 (p4 + x5) r h) rfl rfl rfl rfl rfl rfl (Nat.le_of_ble_eq_true rfl) dX0_sameLetters_35 ⟨Nat.zero_le _, Nat.zero_le _⟩ hF (fun r35_4 er35_4 hF => ?_)
      refine a_ic_eq C (tgt := 44) dX0_sameLetters_38 (by decide) hF (fun c38_5 hF => ?_) (fun c38_5 hF => ?_)
      · refine a_iinc C 6 [(5, .int (x5 + 1)), (6, .int r16_2), (0, .ref t), (1, .int p1), (2, .int p2), (3, .int p3), (4, .int p4)] dX0_sameLetters_44 rfl rfl (by decide) rfl ?_
        refine a_goto C (tgt := 3) dX0_sameLetters_47 (by decide) ?_
        refine a_sub C [2, 3, 4, 5, 6, 0] [(0, .ref t), (1, .int p1), (2, .int p2), (3, .int p3), (4, .int p4), (5, .int (x5 + 1))] rfl ?_
        exact ih (x5 + 1) k hF hX
      refine a_iload C 6 dX0_sameLetters_41 rfl ?_
      exact a_iret C hr rfl dX0_sameLetters_43 hF rfl rfl
  unfold f_X0_sameLetters at hF
  refine a_iconst C (v := 0) dX0_sameLetters_0 (by decide) ?_
  refine a_istore C [(5, .int 0), (0, .ref t), (1, .int p1), (2, .int p2), (3, .int p3), (4, .int p4)] dX0_sameLetters_1 (by decide) rfl ?_
  refine a_sub C [1, 2, 3, 4, 5, 0] [(0, .ref t), (1, .int p1), (2, .int p2), (3, .int p3), (4, .int p4), (5, .int 0)] rfl ?_
  refine hI3 t_lettersF t_sizesF t_lines 1000 0 _ hF (fun x5_3_6 hF => ?_)
  refine a_bipush C (v := 10) dX0_sameLetters_50 (by decide) ?_
  exact a_iret C hr rfl dX0_sameLetters_52 hF rfl rfl
def f_X0_comesBefore_L3 (q_t_lettersF : Nat → Int32) (q_t_sizesF : Nat → Int32) (q_t_lines : Int32) (p1 : Int32) (p2 : Int32) (p3 : Int32) (p4 : Int32) : Nat → Int32 → (Int32 → Option (Int32 × (Nat → Int32) × (Nat → Int32) × Int32)) → Option (Int32 × (Nat → Int32) × (Nat → Int32) × Int32)
  | 0, _, _ => none
  | fuel + 1, x5, k => if 10 ≤ x5 then (k x5) else ((f_X0_letterAt q_t_lettersF q_t_sizesF q_t_lines p1 (p2 + x5)).bind fun r16_2 => (f_X0_letterAt q_t_lettersF q_t_sizesF q_t_lines p3 (p4 + x5)).bind fun r28_3 => if r16_2 = r28_3 then (f_X0_comesBefore_L3 q_t_lettersF q_t_sizesF q_t_lines p1 p2 p3 p4 fuel (x5 + 1) k) else (if r28_3 ≤ r16_2 then (some (0, q_t_lettersF, q_t_sizesF, q_t_lines)) else (some (1, q_t_lettersF, q_t_sizesF, q_t_lines))))
def f_X0_comesBefore (t_lettersF : Nat → Int32) (t_sizesF : Nat → Int32) (t_lines : Int32) (p1 : Int32) (p2 : Int32) (p3 : Int32) (p4 : Int32) : Option (Int32 × (Nat → Int32) × (Nat → Int32) × Int32) := f_X0_comesBefore_L3 t_lettersF t_sizesF t_lines p1 p2 p3 p4 1000 0 (fun x5_3_6 => if p3 ≤ p1 then (some (0, t_lettersF, t_sizesF, t_lines)) else (some (1, t_lettersF, t_sizesF, t_lines)))
theorem hd_X0_comesBefore : yX0_comesBefore.cls = RX0 ∧ yX0_comesBefore.cls ≠ "java/lang/invoke/MethodHandle" ∧ yX0_comesBefore.cls ≠ "java/lang/invoke/VarHandle" ∧ (parseMethodDescriptor yX0_comesBefore.desc).map (fun d => d.parameters.length) = some 4 := by decide +kernel
set_option maxRecDepth 100000 in
set_option maxHeartbeats 4000000 in
theorem c_X0_comesBefore (l : Launch) (D : va_G) (kc ki kb kl kd : ClassId) (t t_letters t_sizes : Nat) (t_lettersF : Nat → Int32) (t_sizesF : Nat → Int32) (t_lines : Int32) (p1 p2 p3 p4 : Int32) (res : Int32 × (Nat → Int32) × (Nat → Int32) × Int32) (hF : f_X0_comesBefore t_lettersF t_sizesF t_lines p1 p2 p3 p4 = some res) : aKi l yX0_comesBefore (aW yX0_comesBefore cX0_comesBefore 8 ((some .boolean))) ({ frames := 2, cells := 0, slots := 0, locals := 44 } : Room) D (aTy kc ki kb kl kd) [.ref t, .int p1, .int p2, .int p3, .int p4] (wX0 kc ki t t_letters t_sizes t_lettersF t_sizesF t_lines) (fun r => r.1) (fun r => wX0 kc ki t t_letters t_sizes r.2.1 r.2.2.1 r.2.2.2) res := by
  refine aKi_of (own := RX0) (by decide) rfl (Nat.le_of_ble_eq_true rfl) rfl ?_
  intro p e s m args below meth c C hr
  have hI3 : ∀ (q_t_lettersF : Nat → Int32) (q_t_sizesF : Nat → Int32) (q_t_lines : Int32) (fuel : Nat) (x5 : Int32) (k : Int32 → Option (Int32 × (Nat → Int32) × (Nat → Int32) × Int32)), f_X0_comesBefore_L3 q_t_lettersF q_t_sizesF q_t_lines p1 p2 p3 p4 fuel x5 k = some res → (∀ (x5 : Int32), k x5 = some res → aT p l e ({ frames := 2, cells := 0, slots := 0, locals := 44 } : Room) s m args below meth c (MQ below (aQi D (wX0 kc ki t t_letters t_sizes t_lettersF t_sizesF t_lines) s.heap.size (fun r => r.1) (fun r => wX0 kc ki t t_letters t_sizes r.2.1 r.2.2.1 r.2.2.2) res) args s 0 0 (va_A (wX0 kc ki t t_letters t_sizes t_lettersF t_sizesF t_lines) s.heap.size)) D (va_A (wX0 kc ki t t_letters t_sizes t_lettersF t_sizesF t_lines) s.heap.size) 8 0 0 59 [(1, .int p1), (3, .int p3)] [] (wX0 kc ki t t_letters t_sizes q_t_lettersF q_t_sizesF q_t_lines)) → aT p l e ({ frames := 2, cells := 0, slots := 0, locals := 44 } : Room) s m args below meth c (MQ below (aQi D (wX0 kc ki t t_letters t_sizes t_lettersF t_sizesF t_lines) s.heap.size (fun r => r.1) (fun r => wX0 kc ki t t_letters t_sizes r.2.1 r.2.2.1 r.2.2.2) res) args s 0 0 (va_A (wX0 kc ki t t_letters t_sizes t_lettersF t_sizesF t_lines) s.heap.size)) D (va_A (wX0 kc ki t t_letters t_sizes t_lettersF t_sizesF t_lines) s.heap.size) 8 0 0 3 [(0, .ref t), (1, .int p1), (2, .int p2), (3, .int p3), (4, .int p4), (5, .int x5)] [] (wX0 kc ki t t_letters t_sizes q_t_lettersF q_t_sizesF q_t_lines) := by
    intro q_t_lettersF q_t_sizesF q_t_lines fuel
    induction fuel with
    | zero => intro x5 k hF hX; exact nomatch hF
    | succ fuel ih =>
      intro x5 k hF hX
      rw [f_X0_comesBefore_L3] at hF
      refine a_iload C 5 dX0_comesBefore_3 rfl ?_
      refine a_bipush C (v := 10) dX0_comesBefore_5 (by decide) ?_
      refine a_ic_ge C (tgt := 59) dX0_comesBefore_7 (by decide) hF (fun c7_1 hF => ?_) (fun c7_1 hF => ?_)
      · refine a_sub C [1, 3] [(1, .int p1), (3, .int p3)] rfl ?_
        exact hX x5 hF
      refine a_aload_n C 0 dX0_comesBefore_10 rfl rfl ?_
      refine a_iload_n C 1 dX0_comesBefore_11 rfl rfl ?_
      refine a_iload_n C 2 dX0_comesBefore_12 rfl rfl ?_
      refine a_iload C 5 dX0_comesBefore_13 rfl ?_
      refine a_iadd C dX0_comesBefore_15 ?_
      refine a_callVir C 2 [0, 1, 2] 0 cs_X0_43 hd_X0_letterAt ⟨rfl, rfl⟩ ⟨Nat.le_of_ble_eq_true rfl, Nat.le_of_ble_eq_true rfl⟩ (fun r h => c_X0_letterAt l D kc ki kb kl kd t t_letters t_sizes q_t_lettersF q_t_sizesF q_t_lines p1 (p2 + x5) r h) rfl rfl rfl rfl rfl rfl (Nat.le_of_ble_eq_true rfl) dX0_comesBefore_16 ⟨Nat.zero_le _, Nat.zero_le _⟩ hF (fun r16_2 er16_2 hF => ?_)
      refine a_istore C [(6, .int r16_2), (0, .ref t), (1, .int p1), (2, .int p2), (3, .int p3), (4, .int p4), (5, .int x5)] dX0_comesBefore_19 (by decide) rfl ?_
      refine a_aload_n C 1 dX0_comesBefore_21 rfl rfl ?_
      refine a_iload_n C 4 dX0_comesBefore_22 rfl rfl ?_
      refine a_iload C 5 dX0_comesBefore_23 rfl ?_
      refine a_iload C 6 dX0_comesBefore_25 rfl ?_
      refine a_iadd C dX0_comesBefore_27 ?_
      refine a_callVir C 2 [0, 1, 2] 0 cs_X0_43 hd_X0_letterAt ⟨rfl, rfl⟩ ⟨Nat.le_of_ble_eq_true rfl, Nat.le_of_ble_eq_true rfl⟩ (fun r h => c_X0_letterAt l D kc ki kb kl kd t t_letters t_sizes q_t_lettersF q_t_sizesF q_t_lines p3 (p4 + x5) r h) rfl rfl rfl rfl rfl rfl (Nat.le_of_ble_eq_true rfl) dX0_comesBefore_28 ⟨Nat.zero_le _, Nat.zero_le _⟩ hF (fun r28_3 er28_3 hF => ?_)
      refine a_istore C [(7, .int r28_3), (6, .int r16_2), (0, .ref t), (1, .int p1), (2, .int p2), (3, .int p3), (4, .int p4), (5, .int x5)] dX0_comesBefore_31 (by decide) rfl ?_
      refine a_iload C 1 dX0_comesBefore_33 rfl ?_
      refine a_iload C 0 dX0_comesBefore_35 rfl ?_
      refine a_ic_eq C (tgt := 53) dX0_comesBefore_37 (by decide) hF (fun c37_4 hF => ?_) (fun c37_4 hF => ?_)
      · refine a_iinc C 7 [(5, .int (x5 + 1)), (7, .int r28_3), (6, .int r16_2), (0, .ref t), (1, .int p1), (2, .int p2), (3, .int p3), (4, .int p4)] dX0_comesBefore_53 rfl rfl (by decide) rfl ?_
        refine a_goto C (tgt := 3) dX0_comesBefore_56 (by decide) ?_
        refine a_sub C [3, 4, 5, 6, 7, 0] [(0, .ref t), (1, .int p1), (2, .int p2), (3, .int p3), (4, .int p4), (5, .int (x5 + 1))] rfl ?_
        exact ih (x5 + 1) k hF hX
      refine a_iload C 1 dX0_comesBefore_40 rfl ?_
      refine a_iload C 0 dX0_comesBefore_42 rfl ?_
      refine a_ic_ge C (tgt := 51) dX0_comesBefore_44 (by decide) hF (fun c44_5 hF => ?_) (fun c44_5 hF => ?_)
      · refine a_iconst C (v := 0) dX0_comesBefore_51 (by decide) ?_
        exact a_iret C hr rfl dX0_comesBefore_52 hF rfl rfl
      refine a_iconst C (v := 1) dX0_comesBefore_47 (by decide) ?_
      refine a_goto C (tgt := 52) dX0_comesBefore_48 (by decide) ?_
      exact a_iret C hr rfl dX0_comesBefore_52 hF rfl rfl
  unfold f_X0_comesBefore at hF
  refine a_iconst C (v := 0) dX0_comesBefore_0 (by decide) ?_
  refine a_istore C [(5, .int 0), (0, .ref t), (1, .int p1), (2, .int p2), (3, .int p3), (4, .int p4)] dX0_comesBefore_1 (by decide) rfl ?_
  refine a_sub C [1, 2, 3, 4, 5, 0] [(0, .ref t), (1, .int p1), (2, .int p2), (3, .int p3), (4, .int p4), (5, .int 0)] rfl ?_
  refine hI3 t_lettersF t_sizesF t_lines 1000 0 _ hF (fun x5_3_6 hF => ?_)
  refine a_iload_n C 0 dX0_comesBefore_59 rfl rfl ?_
  refine a_iload_n C 1 dX0_comesBefore_60 rfl rfl ?_
  refine a_ic_ge C (tgt := 68) dX0_comesBefore_61 (by decide) hF (fun c61_7 hF => ?_) (fun c61_7 hF => ?_)
  · refine a_iconst C (v := 0) dX0_comesBefore_68 (by decide) ?_
    exact a_iret C hr rfl dX0_comesBefore_69 hF rfl rfl
  refine a_iconst C (v := 1) dX0_comesBefore_64 (by decide) ?_
  refine a_goto C (tgt := 69) dX0_comesBefore_65 (by decide) ?_
  exact a_iret C hr rfl dX0_comesBefore_69 hF rfl rfl
theorem cs_X0_53 : GoodIn WW (wsV RX0 53 RX0 yX0_comesBefore (aW yX0_comesBefore cX0_comesBefore 8 ((some .boolean)))) := gdV kl_X0_53 ki_X0_comesBefore kv_X0_comesBefore kn_X0 kc_X0_comesBefore
def f_X0_countEndingsBefore_L17 (x4 : Int32) (p1 : Int32) (p2 : Int32) : Nat → Int32 → Int32 → (Nat → Int32) → (Nat → Int32) → Int32 → (Int32 → Int32 → (Nat → Int32) → (Nat → Int32) → Int32 → Option (Int32 × (Nat → Int32) × (Nat → Int32) × Int32)) → Option (Int32 × (Nat → Int32) × (Nat → Int32) × Int32)
  | 0, _, _, _, _, _, _ => none
  | fuel + 1, x3, x5, q_t_lettersF, q_t_sizesF, q_t_lines, k => (f_X0_size q_t_sizesF q_t_lines x4).bind fun r22_2 => if r22_2 ≤ x5 then (k x3 x5 q_t_lettersF q_t_sizesF q_t_lines) else ((f_X0_comesBefore q_t_lettersF q_t_sizesF q_t_lines x4 x5 p1 p2).bind fun r35_4 => if r35_4.1 = 0 then (f_X0_countEndingsBefore_L17 x4 p1 p2 fuel x3 (x5 + 1) r35_4.2.1 r35_4.2.2.1 r35_4.2.2.2 k) else (f_X0_countEndingsBefore_L17 x4 p1 p2 fuel (x3 + 1) (x5 + 1) r35_4.2.1 r35_4.2.2.1 r35_4.2.2.2 k))
def f_X0_countEndingsBefore_L5 (p1 : Int32) (p2 : Int32) : Nat → Int32 → Int32 → (Nat → Int32) → (Nat → Int32) → Int32 → (Int32 → Int32 → (Nat → Int32) → (Nat → Int32) → Int32 → Option (Int32 × (Nat → Int32) × (Nat → Int32) × Int32)) → Option (Int32 × (Nat → Int32) × (Nat → Int32) × Int32)
  | 0, _, _, _, _, _, _ => none
  | fuel + 1, x3, x4, q_t_lettersF, q_t_sizesF, q_t_lines, k => if q_t_lines ≤ x4 then (k x3 x4 q_t_lettersF q_t_sizesF q_t_lines) else (f_X0_countEndingsBefore_L17 x4 p1 p2 1000 x3 0 q_t_lettersF q_t_sizesF q_t_lines (fun x3_17_6 x5_17_7 q_t_lettersF_17_8 q_t_sizesF_17_9 q_t_lines_17_10 => f_X0_countEndingsBefore_L5 p1 p2 fuel x3_17_6 (x4 + 1) q_t_lettersF_17_8 q_t_sizesF_17_9 q_t_lines_17_10 k))
def f_X0_countEndingsBefore (t_lettersF : Nat → Int32) (t_sizesF : Nat → Int32) (t_lines : Int32) (p1 : Int32) (p2 : Int32) : Option (Int32 × (Nat → Int32) × (Nat → Int32) × Int32) := f_X0_countEndingsBefore_L5 p1 p2 1000 0 0 t_lettersF t_sizesF t_lines (fun x3_5_11 x4_5_12 q_t_lettersF_5_13 q_t_sizesF_5_14 q_t_lines_5_15 => some (x3_5_11, q_t_lettersF_5_13, q_t_sizesF_5_14, q_t_lines_5_15))
theorem hd_X0_countEndingsBefore : yX0_countEndingsBefore.cls = RX0 ∧ yX0_countEndingsBefore.cls ≠ "java/lang/invoke/MethodHandle" ∧ yX0_countEndingsBefore.cls ≠ "java/lang/invoke/VarHandle" ∧ (parseMethodDescriptor yX0_countEndingsBefore.desc).map (fun d => d.parameters.length) = some 2 := by decide +kernel
set_option maxRecDepth 100000 in
set_option maxHeartbeats 4000000 in
theorem c_X0_countEndingsBefore (l : Launch) (D : va_G) (kc ki kb kl kd : ClassId) (t t_letters t_sizes : Nat) (t_lettersF : Nat → Int32) (t_sizesF : Nat → Int32) (t_lines : Int32) (p1 p2 : Int32) (res : Int32 × (Nat → Int32) × (Nat → Int32) × Int32) (hF : f_X0_countEndingsBefore t_lettersF t_sizesF t_lines p1 p2 = some res) : aKi l yX0_countEndingsBefore (aW yX0_countEndingsBefore cX0_countEndingsBefore 6 ((some .int))) ({ frames := 3, cells := 0, slots := 0, locals := 71 } : Room) D (aTy kc ki kb kl kd) [.ref t, .int p1, .int p2] (wX0 kc ki t t_letters t_sizes t_lettersF t_sizesF t_lines) (fun r => r.1) (fun r => wX0 kc ki t t_letters t_sizes r.2.1 r.2.2.1 r.2.2.2) res := by
  refine aKi_of (own := RX0) (by decide) rfl (Nat.le_of_ble_eq_true rfl) rfl ?_
  intro p e s m args below meth c C hr
  have hI17 : ∀ (x4 : Int32) (fuel : Nat) (x3 : Int32) (x5 : Int32) (q_t_lettersF : Nat → Int32) (q_t_sizesF : Nat → Int32) (q_t_lines : Int32) (k : Int32 → Int32 → (Nat → Int32) → (Nat → Int32) → Int32 → Option (Int32 × (Nat → Int32) × (Nat → Int32) × Int32)), f_X0_countEndingsBefore_L17 x4 p1 p2 fuel x3 x5 q_t_lettersF q_t_sizesF q_t_lines k = some res → (∀ (x3 : Int32) (x5 : Int32) (q_t_lettersF : Nat → Int32) (q_t_sizesF : Nat → Int32) (q_t_lines : Int32), k x3 x5 q_t_lettersF q_t_sizesF q_t_lines = some res → aT p l e ({ frames := 3, cells := 0, slots := 0, locals := 71 } : Room) s m args below meth c (MQ below (aQi D (wX0 kc ki t t_letters t_sizes t_lettersF t_sizesF t_lines) s.heap.size (fun r => r.1) (fun r => wX0 kc ki t t_letters t_sizes r.2.1 r.2.2.1 r.2.2.2) res) args s 0 0 (va_A (wX0 kc ki t t_letters t_sizes t_lettersF t_sizesF t_lines) s.heap.size)) D (va_A (wX0 kc ki t t_letters t_sizes t_lettersF t_sizesF t_lines) s.heap.size) 6 0 0 50 [(0, .ref t), (1, .int p1), (2, .int p2), (3, .int x3), (4, .int x4)] [] (wX0 kc ki t t_letters t_sizes q_t_lettersF q_t_sizesF q_t_lines)) → aT p l e ({ frames := 3, cells := 0, slots := 0, locals := 71 } : Room) s m args below meth c (MQ below (aQi D (wX0 kc ki t t_letters t_sizes t_lettersF t_sizesF t_lines) s.heap.size (fun r => r.1) (fun r => wX0 kc ki t t_letters t_sizes r.2.1 r.2.2.1 r.2.2.2) res) args s 0 0 (va_A (wX0 kc ki t t_letters t_sizes t_lettersF t_sizesF t_lines) s.heap.size)) D (va_A (wX0 kc ki t t_letters t_sizes t_lettersF t_sizesF t_lines) s.heap.size) 6 0 0 17 [(0, .ref t), (1, .int p1), (2, .int p2), (3, .int x3), (4, .int x4), (5, .int x5)] [] (wX0 kc ki t t_letters t_sizes q_t_lettersF q_t_sizesF q_t_lines) := by
    intro x4 fuel
    induction fuel with
    | zero => intro x3 x5 q_t_lettersF q_t_sizesF q_t_lines k hF hX; exact nomatch hF
    | succ fuel ih =>
      intro x3 x5 q_t_lettersF q_t_sizesF q_t_lines k hF hX
      rw [f_X0_countEndingsBefore_L17] at hF
      refine a_iload C 5 dX0_countEndingsBefore_17 rfl ?_
      refine a_aload_n C 0 dX0_countEndingsBefore_19 rfl rfl ?_
      refine a_iload C 4 dX0_countEndingsBefore_20 rfl ?_
      refine a_callVir C 1 [0, 1, 2] 0 cs_X0_39 hd_X0_size ⟨rfl, rfl⟩ ⟨Nat.le_of_ble_eq_true rfl, Nat.le_of_ble_eq_true rfl⟩ (fun r h => c_X0_size l D kc ki kb kl kd t t_letters t_sizes q_t_lettersF q_t_sizesF q_t_lines x4 r h) rfl rfl rfl rfl rfl rfl (Nat.le_of_ble_eq_true rfl) dX0_countEndingsBefore_22 ⟨Nat.zero_le _, Nat.zero_le _⟩ hF (fun r22_2 er22_2 hF => ?_)
      refine a_ic_ge C (tgt := 50) dX0_countEndingsBefore_25 (by decide) hF (fun c25_3 hF => ?_) (fun c25_3 hF => ?_)
      · refine a_sub C [0, 1, 2, 3, 4] [(0, .ref t), (1, .int p1), (2, .int p2), (3, .int x3), (4, .int x4)] rfl ?_
        exact hX x3 x5 q_t_lettersF q_t_sizesF q_t_lines hF
      refine a_aload_n C 0 dX0_countEndingsBefore_28 rfl rfl ?_
      refine a_iload C 4 dX0_countEndingsBefore_29 rfl ?_
      refine a_iload C 5 dX0_countEndingsBefore_31 rfl ?_
      refine a_iload_n C 1 dX0_countEndingsBefore_33 rfl rfl ?_
      refine a_iload_n C 2 dX0_countEndingsBefore_34 rfl rfl ?_
      refine a_callVi C 4 [0, 1, 2] 0 cs_X0_53 hd_X0_comesBefore ⟨rfl, rfl⟩ ⟨Nat.le_of_ble_eq_true rfl, Nat.le_of_ble_eq_true rfl⟩ (fun r h => c_X0_comesBefore l D kc ki kb kl kd t t_letters t_sizes q_t_lettersF q_t_sizesF q_t_lines x4 x5 p1 p2 r h) rfl rfl rfl (fun _ => rfl) rfl rfl rfl (Nat.le_of_ble_eq_true rfl) dX0_countEndingsBefore_35 ⟨Nat.zero_le _, Nat.zero_le _⟩ hF (fun r35_4 er35_4 hF => ?_)
      refine a_ws C (ws' := wX0 kc ki t t_letters t_sizes r35_4.2.1 r35_4.2.2.1 r35_4.2.2.2) rfl ?_
      refine a_if_eq C (tgt := 44) dX0_countEndingsBefore_38 (by decide) hF (fun c38_5 hF => ?_) (fun c38_5 hF => ?_)
      · refine a_iinc C 5 [(5, .int (x5 + 1)), (0, .ref t), (1, .int p1), (2, .int p2), (3, .int x3), (4, .int x4)] dX0_countEndingsBefore_44 rfl rfl (by decide) rfl ?_
        refine a_goto C (tgt := 17) dX0_countEndingsBefore_47 (by decide) ?_
        refine a_sub C [1, 2, 3, 4, 5, 0] [(0, .ref t), (1, .int p1), (2, .int p2), (3, .int x3), (4, .int x4), (5, .int (x5 + 1))] rfl ?_
        exact ih x3 (x5 + 1) r35_4.2.1 r35_4.2.2.1 r35_4.2.2.2 k hF hX
      refine a_iinc C 3 [(3, .int (x3 + 1)), (0, .ref t), (1, .int p1), (2, .int p2), (4, .int x4), (5, .int x5)] dX0_countEndingsBefore_41 rfl rfl (by decide) rfl ?_
      refine a_iinc C 5 [(5, .int (x5 + 1)), (3, .int (x3 + 1)), (0, .ref t), (1, .int p1), (2, .int p2), (4, .int x4)] dX0_countEndingsBefore_44 rfl rfl (by decide) rfl ?_
      refine a_goto C (tgt := 17) dX0_countEndingsBefore_47 (by decide) ?_
      refine a_sub C [2, 3, 4, 1, 5, 0] [(0, .ref t), (1, .int p1), (2, .int p2), (3, .int (x3 + 1)), (4, .int x4), (5, .int (x5 + 1))] rfl ?_
      exact ih (x3 + 1) (x5 + 1) r35_4.2.1 r35_4.2.2.1 r35_4.2.2.2 k hF hX
  have hI5 : ∀ (fuel : Nat) (x3 : Int32) (x4 : Int32) (q_t_lettersF : Nat → Int32) (q_t_sizesF : Nat → Int32) (q_t_lines : Int32) (k : Int32 → Int32 → (Nat → Int32) → (Nat → Int32) → Int32 → Option (Int32 × (Nat → Int32) × (Nat → Int32) × Int32)), f_X0_countEndingsBefore_L5 p1 p2 fuel x3 x4 q_t_lettersF q_t_sizesF q_t_lines k = some res → (∀ (x3 : Int32) (x4 : Int32) (q_t_lettersF : Nat → Int32) (q_t_sizesF : Nat → Int32) (q_t_lines : Int32), k x3 x4 q_t_lettersF q_t_sizesF q_t_lines = some res → aT p l e ({ frames := 3, cells := 0, slots := 0, locals := 71 } : Room) s m args below meth c (MQ below (aQi D (wX0 kc ki t t_letters t_sizes t_lettersF t_sizesF t_lines) s.heap.size (fun r => r.1) (fun r => wX0 kc ki t t_letters t_sizes r.2.1 r.2.2.1 r.2.2.2) res) args s 0 0 (va_A (wX0 kc ki t t_letters t_sizes t_lettersF t_sizesF t_lines) s.heap.size)) D (va_A (wX0 kc ki t t_letters t_sizes t_lettersF t_sizesF t_lines) s.heap.size) 6 0 0 56 [(3, .int x3)] [] (wX0 kc ki t t_letters t_sizes q_t_lettersF q_t_sizesF q_t_lines)) → aT p l e ({ frames := 3, cells := 0, slots := 0, locals := 71 } : Room) s m args below meth c (MQ below (aQi D (wX0 kc ki t t_letters t_sizes t_lettersF t_sizesF t_lines) s.heap.size (fun r => r.1) (fun r => wX0 kc ki t t_letters t_sizes r.2.1 r.2.2.1 r.2.2.2) res) args s 0 0 (va_A (wX0 kc ki t t_letters t_sizes t_lettersF t_sizesF t_lines) s.heap.size)) D (va_A (wX0 kc ki t t_letters t_sizes t_lettersF t_sizesF t_lines) s.heap.size) 6 0 0 5 [(0, .ref t), (1, .int p1), (2, .int p2), (3, .int x3), (4, .int x4)] [] (wX0 kc ki t t_letters t_sizes q_t_lettersF q_t_sizesF q_t_lines) := by
    intro fuel
    induction fuel with
    | zero => intro x3 x4 q_t_lettersF q_t_sizesF q_t_lines k hF hX; exact nomatch hF
    | succ fuel ih =>
      intro x3 x4 q_t_lettersF q_t_sizesF q_t_lines k hF hX
      rw [f_X0_countEndingsBefore_L5] at hF
      refine a_iload C 4 dX0_countEndingsBefore_5 rfl ?_
      refine a_aload_n C 0 dX0_countEndingsBefore_7 rfl rfl ?_
      refine a_get C 0 2 iwX0 rfl rfl (by decide) kf_X0_19 rfl dX0_countEndingsBefore_8 ?_
      refine a_ic_ge C (tgt := 56) dX0_countEndingsBefore_11 (by decide) hF (fun c11_1 hF => ?_) (fun c11_1 hF => ?_)
      · refine a_sub C [3] [(3, .int x3)] rfl ?_
        exact hX x3 x4 q_t_lettersF q_t_sizesF q_t_lines hF
      refine a_iconst C (v := 0) dX0_countEndingsBefore_14 (by decide) ?_
      refine a_istore C [(5, .int 0), (0, .ref t), (1, .int p1), (2, .int p2), (3, .int x3), (4, .int x4)] dX0_countEndingsBefore_15 (by decide) rfl ?_
      refine a_sub C [1, 2, 3, 4, 5, 0] [(0, .ref t), (1, .int p1), (2, .int p2), (3, .int x3), (4, .int x4), (5, .int 0)] rfl ?_
      refine hI17 x4 1000 x3 0 q_t_lettersF q_t_sizesF q_t_lines _ hF (fun x3_17_6 x5_17_7 q_t_lettersF_17_8 q_t_sizesF_17_9 q_t_lines_17_10 hF => ?_)
      refine a_iinc C 4 [(4, .int (x4 + 1)), (0, .ref t), (1, .int p1), (2, .int p2), (3, .int x3_17_6)] dX0_countEndingsBefore_50 rfl rfl (by decide) rfl ?_
      refine a_goto C (tgt := 5) dX0_countEndingsBefore_53 (by decide) ?_
      refine a_sub C [1, 2, 3, 4, 0] [(0, .ref t), (1, .int p1), (2, .int p2), (3, .int x3_17_6), (4, .int (x4 + 1))] rfl ?_
      exact ih x3_17_6 (x4 + 1) q_t_lettersF_17_8 q_t_sizesF_17_9 q_t_lines_17_10 k hF hX
  unfold f_X0_countEndingsBefore at hF
  refine a_iconst C (v := 0) dX0_countEndingsBefore_0 (by decide) ?_
  refine a_istore_n C [(3, .int 0), (0, .ref t), (1, .int p1), (2, .int p2)] dX0_countEndingsBefore_1 rfl (by decide) rfl ?_
  refine a_iconst C (v := 0) dX0_countEndingsBefore_2 (by decide) ?_
  refine a_istore C [(4, .int 0), (3, .int 0), (0, .ref t), (1, .int p1), (2, .int p2)] dX0_countEndingsBefore_3 (by decide) rfl ?_
  refine a_sub C [2, 3, 4, 1, 0] [(0, .ref t), (1, .int p1), (2, .int p2), (3, .int 0), (4, .int 0)] rfl ?_
  refine hI5 1000 0 0 t_lettersF t_sizesF t_lines _ hF (fun x3_5_11 x4_5_12 q_t_lettersF_5_13 q_t_sizesF_5_14 q_t_lines_5_15 hF => ?_)
  refine a_iload_n C 0 dX0_countEndingsBefore_56 rfl rfl ?_
  exact a_iret C hr rfl dX0_countEndingsBefore_57 hF rfl rfl
theorem cs_X0_57 : GoodIn WW (wsV RX0 57 RX0 yX0_sameLetters (aW yX0_sameLetters cX0_sameLetters 7 ((some .int)))) := gdV kl_X0_57 ki_X0_sameLetters kv_X0_sameLetters kn_X0 kc_X0_sameLetters
def f_X0_isSame (t_lettersF : Nat → Int32) (t_sizesF : Nat → Int32) (t_lines : Int32) (p1 : Int32) (p2 : Int32) : Option (Int32 × (Nat → Int32) × (Nat → Int32) × Int32) := (f_X0_size t_sizesF t_lines p1).bind fun r2_1 => (f_X0_size t_sizesF t_lines p2).bind fun r9_2 => if ¬ r2_1 = r9_2 then (some (0, t_lettersF, t_sizesF, t_lines)) else ((f_X0_sameLetters t_lettersF t_sizesF t_lines p1 0 p2 0).bind fun r20_4 => if ¬ r20_4.1 = r2_1 then (some (0, r20_4.2.1, r20_4.2.2.1, r20_4.2.2.2)) else (some (1, r20_4.2.1, r20_4.2.2.1, r20_4.2.2.2)))
theorem hd_X0_isSame : yX0_isSame.cls = RX0 ∧ yX0_isSame.cls ≠ "java/lang/invoke/MethodHandle" ∧ yX0_isSame.cls ≠ "java/lang/invoke/VarHandle" ∧ (parseMethodDescriptor yX0_isSame.desc).map (fun d => d.parameters.length) = some 2 := by decide +kernel
set_option maxRecDepth 100000 in
set_option maxHeartbeats 4000000 in
theorem c_X0_isSame (l : Launch) (D : va_G) (kc ki kb kl kd : ClassId) (t t_letters t_sizes : Nat) (t_lettersF : Nat → Int32) (t_sizesF : Nat → Int32) (t_lines : Int32) (p1 p2 : Int32) (res : Int32 × (Nat → Int32) × (Nat → Int32) × Int32) (hF : f_X0_isSame t_lettersF t_sizesF t_lines p1 p2 = some res) : aKi l yX0_isSame (aW yX0_isSame cX0_isSame 4 ((some .boolean))) ({ frames := 3, cells := 0, slots := 0, locals := 70 } : Room) D (aTy kc ki kb kl kd) [.ref t, .int p1, .int p2] (wX0 kc ki t t_letters t_sizes t_lettersF t_sizesF t_lines) (fun r => r.1) (fun r => wX0 kc ki t t_letters t_sizes r.2.1 r.2.2.1 r.2.2.2) res := by
  refine aKi_of (own := RX0) (by decide) rfl (Nat.le_of_ble_eq_true rfl) rfl ?_
  intro p e s m args below meth c C hr
  unfold f_X0_isSame at hF
  refine a_aload_n C 0 dX0_isSame_0 rfl rfl ?_
  refine a_iload_n C 1 dX0_isSame_1 rfl rfl ?_
  refine a_callVir C 1 [0, 1, 2] 0 cs_X0_39 hd_X0_size ⟨rfl, rfl⟩ ⟨Nat.le_of_ble_eq_true rfl, Nat.le_of_ble_eq_true rfl⟩ (fun r h => c_X0_size l D kc ki kb kl kd t t_letters t_sizes t_lettersF t_sizesF t_lines p1 r h) rfl rfl rfl rfl rfl rfl (Nat.le_of_ble_eq_true rfl) dX0_isSame_2 ⟨Nat.zero_le _, Nat.zero_le _⟩ hF (fun r2_1 er2_1 hF => ?_)
  refine a_istore_n C [(3, .int r2_1), (0, .ref t), (1, .int p1), (2, .int p2)] dX0_isSame_5 rfl (by decide) rfl ?_
  refine a_iload_n C 0 dX0_isSame_6 rfl rfl ?_
  refine a_aload_n C 1 dX0_isSame_7 rfl rfl ?_
  refine a_iload_n C 3 dX0_isSame_8 rfl rfl ?_
  refine a_callVir C 1 [0, 1, 2] 0 cs_X0_39 hd_X0_size ⟨rfl, rfl⟩ ⟨Nat.le_of_ble_eq_true rfl, Nat.le_of_ble_eq_true rfl⟩ (fun r h => c_X0_size l D kc ki kb kl kd t t_letters t_sizes t_lettersF t_sizesF t_lines p2 r h) rfl rfl rfl rfl rfl rfl (Nat.le_of_ble_eq_true rfl) dX0_isSame_9 ⟨Nat.zero_le _, Nat.zero_le _⟩ hF (fun r9_2 er9_2 hF => ?_)
  refine a_ic_ne C (tgt := 31) dX0_isSame_12 (by decide) hF (fun c12_3 hF => ?_) (fun c12_3 hF => ?_)
  · refine a_iconst C (v := 0) dX0_isSame_31 (by decide) ?_
    exact a_iret C hr rfl dX0_isSame_32 hF rfl rfl
  refine a_aload_n C 1 dX0_isSame_15 rfl rfl ?_
  refine a_iload_n C 2 dX0_isSame_16 rfl rfl ?_
  refine a_iconst C (v := 0) dX0_isSame_17 (by decide) ?_
  refine a_iload_n C 3 dX0_isSame_18 rfl rfl ?_
  refine a_iconst C (v := 0) dX0_isSame_19 (by decide) ?_
  refine a_callVi C 4 [0, 1, 2] 0 cs_X0_57 hd_X0_sameLetters ⟨rfl, rfl⟩ ⟨Nat.le_of_ble_eq_true rfl, Nat.le_of_ble_eq_true rfl⟩ (fun r h => c_X0_sameLetters l D kc ki kb kl kd t t_letters t_sizes t_lettersF t_sizesF t_lines p1 0 p2 0 r h) rfl rfl rfl (fun _ => rfl) rfl rfl rfl (Nat.le_of_ble_eq_true rfl) dX0_isSame_20 ⟨Nat.zero_le _, Nat.zero_le _⟩ hF (fun r20_4 er20_4 hF => ?_)
  refine a_ws C (ws' := wX0 kc ki t t_letters t_sizes r20_4.2.1 r20_4.2.2.1 r20_4.2.2.2) rfl ?_
  refine a_iload_n C 0 dX0_isSame_23 rfl rfl ?_
  refine a_ic_ne C (tgt := 31) dX0_isSame_24 (by decide) hF (fun c24_5 hF => ?_) (fun c24_5 hF => ?_)
  · refine a_iconst C (v := 0) dX0_isSame_31 (by decide) ?_
    exact a_iret C hr rfl dX0_isSame_32 hF rfl rfl
  refine a_iconst C (v := 1) dX0_isSame_27 (by decide) ?_
  refine a_goto C (tgt := 32) dX0_isSame_28 (by decide) ?_
  exact a_iret C hr rfl dX0_isSame_32 hF rfl rfl
theorem cs_X0_61 : GoodIn WW (wsV RX0 61 RX0 yX0_isSame (aW yX0_isSame cX0_isSame 4 ((some .boolean)))) := gdV kl_X0_61 ki_X0_isSame kv_X0_isSame kn_X0 kc_X0_isSame
def f_X0_countSameLines_L4 (p1 : Int32) : Nat → Int32 → Int32 → (Nat → Int32) → (Nat → Int32) → Int32 → (Int32 → Int32 → (Nat → Int32) → (Nat → Int32) → Int32 → Option (Int32 × (Nat → Int32) × (Nat → Int32) × Int32)) → Option (Int32 × (Nat → Int32) × (Nat → Int32) × Int32)
  | 0, _, _, _, _, _, _ => none
  | fuel + 1, x2, x3, q_t_lettersF, q_t_sizesF, q_t_lines, k => if q_t_lines ≤ x3 then (k x2 x3 q_t_lettersF q_t_sizesF q_t_lines) else ((f_X0_isSame q_t_lettersF q_t_sizesF q_t_lines p1 x3).bind fun r15_2 => if r15_2.1 = 0 then (f_X0_countSameLines_L4 p1 fuel x2 (x3 + 1) r15_2.2.1 r15_2.2.2.1 r15_2.2.2.2 k) else (f_X0_countSameLines_L4 p1 fuel (x2 + 1) (x3 + 1) r15_2.2.1 r15_2.2.2.1 r15_2.2.2.2 k))
def f_X0_countSameLines (t_lettersF : Nat → Int32) (t_sizesF : Nat → Int32) (t_lines : Int32) (p1 : Int32) : Option (Int32 × (Nat → Int32) × (Nat → Int32) × Int32) := f_X0_countSameLines_L4 p1 1000 0 0 t_lettersF t_sizesF t_lines (fun x2_4_4 x3_4_5 q_t_lettersF_4_6 q_t_sizesF_4_7 q_t_lines_4_8 => some (x2_4_4, q_t_lettersF_4_6, q_t_sizesF_4_7, q_t_lines_4_8))
theorem hd_X0_countSameLines : yX0_countSameLines.cls = RX0 ∧ yX0_countSameLines.cls ≠ "java/lang/invoke/MethodHandle" ∧ yX0_countSameLines.cls ≠ "java/lang/invoke/VarHandle" ∧ (parseMethodDescriptor yX0_countSameLines.desc).map (fun d => d.parameters.length) = some 1 := by decide +kernel
set_option maxRecDepth 100000 in
set_option maxHeartbeats 4000000 in
theorem c_X0_countSameLines (l : Launch) (D : va_G) (kc ki kb kl kd : ClassId) (t t_letters t_sizes : Nat) (t_lettersF : Nat → Int32) (t_sizesF : Nat → Int32) (t_lines : Int32) (p1 : Int32) (res : Int32 × (Nat → Int32) × (Nat → Int32) × Int32) (hF : f_X0_countSameLines t_lettersF t_sizesF t_lines p1 = some res) : aKi l yX0_countSameLines (aW yX0_countSameLines cX0_countSameLines 4 ((some .int))) ({ frames := 4, cells := 0, slots := 0, locals := 93 } : Room) D (aTy kc ki kb kl kd) [.ref t, .int p1] (wX0 kc ki t t_letters t_sizes t_lettersF t_sizesF t_lines) (fun r => r.1) (fun r => wX0 kc ki t t_letters t_sizes r.2.1 r.2.2.1 r.2.2.2) res := by
  refine aKi_of (own := RX0) (by decide) rfl (Nat.le_of_ble_eq_true rfl) rfl ?_
  intro p e s m args below meth c C hr
  have hI4 : ∀ (fuel : Nat) (x2 : Int32) (x3 : Int32) (q_t_lettersF : Nat → Int32) (q_t_sizesF : Nat → Int32) (q_t_lines : Int32) (k : Int32 → Int32 → (Nat → Int32) → (Nat → Int32) → Int32 → Option (Int32 × (Nat → Int32) × (Nat → Int32) × Int32)), f_X0_countSameLines_L4 p1 fuel x2 x3 q_t_lettersF q_t_sizesF q_t_lines k = some res → (∀ (x2 : Int32) (x3 : Int32) (q_t_lettersF : Nat → Int32) (q_t_sizesF : Nat → Int32) (q_t_lines : Int32), k x2 x3 q_t_lettersF q_t_sizesF q_t_lines = some res → aT p l e ({ frames := 4, cells := 0, slots := 0, locals := 93 } : Room) s m args below meth c (MQ below (aQi D (wX0 kc ki t t_letters t_sizes t_lettersF t_sizesF t_lines) s.heap.size (fun r => r.1) (fun r => wX0 kc ki t t_letters t_sizes r.2.1 r.2.2.1 r.2.2.2) res) args s 0 0 (va_A (wX0 kc ki t t_letters t_sizes t_lettersF t_sizesF t_lines) s.heap.size)) D (va_A (wX0 kc ki t t_letters t_sizes t_lettersF t_sizesF t_lines) s.heap.size) 4 0 0 30 [(2, .int x2)] [] (wX0 kc ki t t_letters t_sizes q_t_lettersF q_t_sizesF q_t_lines)) → aT p l e ({ frames := 4, cells := 0, slots := 0, locals := 93 } : Room) s m args below meth c (MQ below (aQi D (wX0 kc ki t t_letters t_sizes t_lettersF t_sizesF t_lines) s.heap.size (fun r => r.1) (fun r => wX0 kc ki t t_letters t_sizes r.2.1 r.2.2.1 r.2.2.2) res) args s 0 0 (va_A (wX0 kc ki t t_letters t_sizes t_lettersF t_sizesF t_lines) s.heap.size)) D (va_A (wX0 kc ki t t_letters t_sizes t_lettersF t_sizesF t_lines) s.heap.size) 4 0 0 4 [(0, .ref t), (1, .int p1), (2, .int x2), (3, .int x3)] [] (wX0 kc ki t t_letters t_sizes q_t_lettersF q_t_sizesF q_t_lines) := by
    intro fuel
    induction fuel with
    | zero => intro x2 x3 q_t_lettersF q_t_sizesF q_t_lines k hF hX; exact nomatch hF
    | succ fuel ih =>
      intro x2 x3 q_t_lettersF q_t_sizesF q_t_lines k hF hX
      rw [f_X0_countSameLines_L4] at hF
      refine a_iload_n C 3 dX0_countSameLines_4 rfl rfl ?_
      refine a_aload_n C 0 dX0_countSameLines_5 rfl rfl ?_
      refine a_get C 0 2 iwX0 rfl rfl (by decide) kf_X0_19 rfl dX0_countSameLines_6 ?_
      refine a_ic_ge C (tgt := 30) dX0_countSameLines_9 (by decide) hF (fun c9_1 hF => ?_) (fun c9_1 hF => ?_)
      · refine a_sub C [2] [(2, .int x2)] rfl ?_
        exact hX x2 x3 q_t_lettersF q_t_sizesF q_t_lines hF
      refine a_aload_n C 0 dX0_countSameLines_12 rfl rfl ?_
      refine a_iload_n C 1 dX0_countSameLines_13 rfl rfl ?_
      refine a_iload_n C 3 dX0_countSameLines_14 rfl rfl ?_
      refine a_callVi C 2 [0, 1, 2] 0 cs_X0_61 hd_X0_isSame ⟨rfl, rfl⟩ ⟨Nat.le_of_ble_eq_true rfl, Nat.le_of_ble_eq_true rfl⟩ (fun r h => c_X0_isSame l D kc ki kb kl kd t t_letters t_sizes q_t_lettersF q_t_sizesF q_t_lines p1 x3 r h) rfl rfl rfl (fun _ => rfl) rfl rfl rfl (Nat.le_of_ble_eq_true rfl) dX0_countSameLines_15 ⟨Nat.zero_le _, Nat.zero_le _⟩ hF (fun r15_2 er15_2 hF => ?_)
      refine a_ws C (ws' := wX0 kc ki t t_letters t_sizes r15_2.2.1 r15_2.2.2.1 r15_2.2.2.2) rfl ?_
      refine a_if_eq C (tgt := 24) dX0_countSameLines_18 (by decide) hF (fun c18_3 hF => ?_) (fun c18_3 hF => ?_)
      · refine a_iinc C 3 [(3, .int (x3 + 1)), (0, .ref t), (1, .int p1), (2, .int x2)] dX0_countSameLines_24 rfl rfl (by decide) rfl ?_
        refine a_goto C (tgt := 4) dX0_countSameLines_27 (by decide) ?_
        refine a_sub C [1, 2, 3, 0] [(0, .ref t), (1, .int p1), (2, .int x2), (3, .int (x3 + 1))] rfl ?_
        exact ih x2 (x3 + 1) r15_2.2.1 r15_2.2.2.1 r15_2.2.2.2 k hF hX
      refine a_iinc C 2 [(2, .int (x2 + 1)), (0, .ref t), (1, .int p1), (3, .int x3)] dX0_countSameLines_21 rfl rfl (by decide) rfl ?_
      refine a_iinc C 3 [(3, .int (x3 + 1)), (2, .int (x2 + 1)), (0, .ref t), (1, .int p1)] dX0_countSameLines_24 rfl rfl (by decide) rfl ?_
      refine a_goto C (tgt := 4) dX0_countSameLines_27 (by decide) ?_
      refine a_sub C [2, 3, 1, 0] [(0, .ref t), (1, .int p1), (2, .int (x2 + 1)), (3, .int (x3 + 1))] rfl ?_
      exact ih (x2 + 1) (x3 + 1) r15_2.2.1 r15_2.2.2.1 r15_2.2.2.2 k hF hX
  unfold f_X0_countSameLines at hF
  refine a_iconst C (v := 0) dX0_countSameLines_0 (by decide) ?_
  refine a_istore_n C [(2, .int 0), (0, .ref t), (1, .int p1)] dX0_countSameLines_1 rfl (by decide) rfl ?_
  refine a_iconst C (v := 0) dX0_countSameLines_2 (by decide) ?_
  refine a_istore_n C [(3, .int 0), (2, .int 0), (0, .ref t), (1, .int p1)] dX0_countSameLines_3 rfl (by decide) rfl ?_
  refine a_sub C [2, 3, 1, 0] [(0, .ref t), (1, .int p1), (2, .int 0), (3, .int 0)] rfl ?_
  refine hI4 1000 0 0 t_lettersF t_sizesF t_lines _ hF (fun x2_4_4 x3_4_5 q_t_lettersF_4_6 q_t_sizesF_4_7 q_t_lines_4_8 hF => ?_)
  refine a_iload_n C 0 dX0_countSameLines_30 rfl rfl ?_
  exact a_iret C hr rfl dX0_countSameLines_31 hF rfl rfl
def f_X0_countKinds_L14 (x2 : Int32) : Nat → Int32 → (Nat → Int32) → (Nat → Int32) → Int32 → (Int32 → (Nat → Int32) → (Nat → Int32) → Int32 → Option (Int32 × (Nat → Int32) × (Nat → Int32) × Int32)) → Option (Int32 × (Nat → Int32) × (Nat → Int32) × Int32)
  | 0, _, _, _, _, _ => none
  | fuel + 1, x3, q_t_lettersF, q_t_sizesF, q_t_lines, k => if x2 ≤ x3 then (k x3 q_t_lettersF q_t_sizesF q_t_lines) else ((f_X0_isSame q_t_lettersF q_t_sizesF q_t_lines x3 x2).bind fun r22_3 => if ¬ r22_3.1 = 0 then (k x3 r22_3.2.1 r22_3.2.2.1 r22_3.2.2.2) else (f_X0_countKinds_L14 x2 fuel (x3 + 1) r22_3.2.1 r22_3.2.2.1 r22_3.2.2.2 k))
def f_X0_countKinds_L4 : Nat → Int32 → Int32 → (Nat → Int32) → (Nat → Int32) → Int32 → (Int32 → Int32 → (Nat → Int32) → (Nat → Int32) → Int32 → Option (Int32 × (Nat → Int32) × (Nat → Int32) × Int32)) → Option (Int32 × (Nat → Int32) × (Nat → Int32) × Int32)
  | 0, _, _, _, _, _, _ => none
  | fuel + 1, x1, x2, q_t_lettersF, q_t_sizesF, q_t_lines, k => if q_t_lines ≤ x2 then (k x1 x2 q_t_lettersF q_t_sizesF q_t_lines) else (f_X0_countKinds_L14 x2 1000 0 q_t_lettersF q_t_sizesF q_t_lines (fun x3_14_5 q_t_lettersF_14_6 q_t_sizesF_14_7 q_t_lines_14_8 => if ¬ x3_14_5 = x2 then (f_X0_countKinds_L4 fuel x1 (x2 + 1) q_t_lettersF_14_6 q_t_sizesF_14_7 q_t_lines_14_8 k) else (f_X0_countKinds_L4 fuel (x1 + 1) (x2 + 1) q_t_lettersF_14_6 q_t_sizesF_14_7 q_t_lines_14_8 k)))
def f_X0_countKinds (t_lettersF : Nat → Int32) (t_sizesF : Nat → Int32) (t_lines : Int32) : Option (Int32 × (Nat → Int32) × (Nat → Int32) × Int32) := f_X0_countKinds_L4 1000 0 0 t_lettersF t_sizesF t_lines (fun x1_4_10 x2_4_11 q_t_lettersF_4_12 q_t_sizesF_4_13 q_t_lines_4_14 => some (x1_4_10, q_t_lettersF_4_12, q_t_sizesF_4_13, q_t_lines_4_14))
theorem hd_X0_countKinds : yX0_countKinds.cls = RX0 ∧ yX0_countKinds.cls ≠ "java/lang/invoke/MethodHandle" ∧ yX0_countKinds.cls ≠ "java/lang/invoke/VarHandle" ∧ (parseMethodDescriptor yX0_countKinds.desc).map (fun d => d.parameters.length) = some 0 := by decide +kernel
set_option maxRecDepth 100000 in
set_option maxHeartbeats 4000000 in
theorem c_X0_countKinds (l : Launch) (D : va_G) (kc ki kb kl kd : ClassId) (t t_letters t_sizes : Nat) (t_lettersF : Nat → Int32) (t_sizesF : Nat → Int32) (t_lines : Int32) (res : Int32 × (Nat → Int32) × (Nat → Int32) × Int32) (hF : f_X0_countKinds t_lettersF t_sizesF t_lines = some res) : aKi l yX0_countKinds (aW yX0_countKinds cX0_countKinds 4 ((some .int))) ({ frames := 4, cells := 0, slots := 0, locals := 93 } : Room) D (aTy kc ki kb kl kd) [.ref t] (wX0 kc ki t t_letters t_sizes t_lettersF t_sizesF t_lines) (fun r => r.1) (fun r => wX0 kc ki t t_letters t_sizes r.2.1 r.2.2.1 r.2.2.2) res := by
  refine aKi_of (own := RX0) (by decide) rfl (Nat.le_of_ble_eq_true rfl) rfl ?_
  intro p e s m args below meth c C hr
  have hI14 : ∀ (x1 : Int32) (x2 : Int32) (fuel : Nat) (x3 : Int32) (q_t_lettersF : Nat → Int32) (q_t_sizesF : Nat → Int32) (q_t_lines : Int32) (k : Int32 → (Nat → Int32) → (Nat → Int32) → Int32 → Option (Int32 × (Nat → Int32) × (Nat → Int32) × Int32)), f_X0_countKinds_L14 x2 fuel x3 q_t_lettersF q_t_sizesF q_t_lines k = some res → (∀ (x3 : Int32) (q_t_lettersF : Nat → Int32) (q_t_sizesF : Nat → Int32) (q_t_lines : Int32), k x3 q_t_lettersF q_t_sizesF q_t_lines = some res → aT p l e ({ frames := 4, cells := 0, slots := 0, locals := 93 } : Room) s m args below meth c (MQ below (aQi D (wX0 kc ki t t_letters t_sizes t_lettersF t_sizesF t_lines) s.heap.size (fun r => r.1) (fun r => wX0 kc ki t t_letters t_sizes r.2.1 r.2.2.1 r.2.2.2) res) args s 0 0 (va_A (wX0 kc ki t t_letters t_sizes t_lettersF t_sizesF t_lines) s.heap.size)) D (va_A (wX0 kc ki t t_letters t_sizes t_lettersF t_sizesF t_lines) s.heap.size) 4 0 0 34 [(0, .ref t), (1, .int x1), (2, .int x2), (3, .int x3)] [] (wX0 kc ki t t_letters t_sizes q_t_lettersF q_t_sizesF q_t_lines)) → aT p l e ({ frames := 4, cells := 0, slots := 0, locals := 93 } : Room) s m args below meth c (MQ below (aQi D (wX0 kc ki t t_letters t_sizes t_lettersF t_sizesF t_lines) s.heap.size (fun r => r.1) (fun r => wX0 kc ki t t_letters t_sizes r.2.1 r.2.2.1 r.2.2.2) res) args s 0 0 (va_A (wX0 kc ki t t_letters t_sizes t_lettersF t_sizesF t_lines) s.heap.size)) D (va_A (wX0 kc ki t t_letters t_sizes t_lettersF t_sizesF t_lines) s.heap.size) 4 0 0 14 [(0, .ref t), (1, .int x1), (2, .int x2), (3, .int x3)] [] (wX0 kc ki t t_letters t_sizes q_t_lettersF q_t_sizesF q_t_lines) := by
    intro x1 x2 fuel
    induction fuel with
    | zero => intro x3 q_t_lettersF q_t_sizesF q_t_lines k hF hX; exact nomatch hF
    | succ fuel ih =>
      intro x3 q_t_lettersF q_t_sizesF q_t_lines k hF hX
      rw [f_X0_countKinds_L14] at hF
      refine a_iload_n C 3 dX0_countKinds_14 rfl rfl ?_
      refine a_iload_n C 2 dX0_countKinds_15 rfl rfl ?_
      refine a_ic_ge C (tgt := 34) dX0_countKinds_16 (by decide) hF (fun c16_2 hF => ?_) (fun c16_2 hF => ?_)
      · exact hX x3 q_t_lettersF q_t_sizesF q_t_lines hF
      refine a_aload_n C 0 dX0_countKinds_19 rfl rfl ?_
      refine a_iload_n C 3 dX0_countKinds_20 rfl rfl ?_
      refine a_iload_n C 2 dX0_countKinds_21 rfl rfl ?_
      refine a_callVi C 2 [0, 1, 2] 0 cs_X0_61 hd_X0_isSame ⟨rfl, rfl⟩ ⟨Nat.le_of_ble_eq_true rfl, Nat.le_of_ble_eq_true rfl⟩ (fun r h => c_X0_isSame l D kc ki kb kl kd t t_letters t_sizes q_t_lettersF q_t_sizesF q_t_lines x3 x2 r h) rfl rfl rfl (fun _ => rfl) rfl rfl rfl (Nat.le_of_ble_eq_true rfl) dX0_countKinds_22 ⟨Nat.zero_le _, Nat.zero_le _⟩ hF (fun r22_3 er22_3 hF => ?_)
      refine a_ws C (ws' := wX0 kc ki t t_letters t_sizes r22_3.2.1 r22_3.2.2.1 r22_3.2.2.2) rfl ?_
      refine a_if_ne C (tgt := 34) dX0_countKinds_25 (by decide) hF (fun c25_4 hF => ?_) (fun c25_4 hF => ?_)
      · exact hX x3 r22_3.2.1 r22_3.2.2.1 r22_3.2.2.2 hF
      refine a_iinc C 3 [(3, .int (x3 + 1)), (0, .ref t), (1, .int x1), (2, .int x2)] dX0_countKinds_28 rfl rfl (by decide) rfl ?_
      refine a_goto C (tgt := 14) dX0_countKinds_31 (by decide) ?_
      refine a_sub C [1, 2, 3, 0] [(0, .ref t), (1, .int x1), (2, .int x2), (3, .int (x3 + 1))] rfl ?_
      exact ih (x3 + 1) r22_3.2.1 r22_3.2.2.1 r22_3.2.2.2 k hF hX
  have hI4 : ∀ (fuel : Nat) (x1 : Int32) (x2 : Int32) (q_t_lettersF : Nat → Int32) (q_t_sizesF : Nat → Int32) (q_t_lines : Int32) (k : Int32 → Int32 → (Nat → Int32) → (Nat → Int32) → Int32 → Option (Int32 × (Nat → Int32) × (Nat → Int32) × Int32)), f_X0_countKinds_L4 fuel x1 x2 q_t_lettersF q_t_sizesF q_t_lines k = some res → (∀ (x1 : Int32) (x2 : Int32) (q_t_lettersF : Nat → Int32) (q_t_sizesF : Nat → Int32) (q_t_lines : Int32), k x1 x2 q_t_lettersF q_t_sizesF q_t_lines = some res → aT p l e ({ frames := 4, cells := 0, slots := 0, locals := 93 } : Room) s m args below meth c (MQ below (aQi D (wX0 kc ki t t_letters t_sizes t_lettersF t_sizesF t_lines) s.heap.size (fun r => r.1) (fun r => wX0 kc ki t t_letters t_sizes r.2.1 r.2.2.1 r.2.2.2) res) args s 0 0 (va_A (wX0 kc ki t t_letters t_sizes t_lettersF t_sizesF t_lines) s.heap.size)) D (va_A (wX0 kc ki t t_letters t_sizes t_lettersF t_sizesF t_lines) s.heap.size) 4 0 0 48 [(1, .int x1)] [] (wX0 kc ki t t_letters t_sizes q_t_lettersF q_t_sizesF q_t_lines)) → aT p l e ({ frames := 4, cells := 0, slots := 0, locals := 93 } : Room) s m args below meth c (MQ below (aQi D (wX0 kc ki t t_letters t_sizes t_lettersF t_sizesF t_lines) s.heap.size (fun r => r.1) (fun r => wX0 kc ki t t_letters t_sizes r.2.1 r.2.2.1 r.2.2.2) res) args s 0 0 (va_A (wX0 kc ki t t_letters t_sizes t_lettersF t_sizesF t_lines) s.heap.size)) D (va_A (wX0 kc ki t t_letters t_sizes t_lettersF t_sizesF t_lines) s.heap.size) 4 0 0 4 [(0, .ref t), (1, .int x1), (2, .int x2)] [] (wX0 kc ki t t_letters t_sizes q_t_lettersF q_t_sizesF q_t_lines) := by
    intro fuel
    induction fuel with
    | zero => intro x1 x2 q_t_lettersF q_t_sizesF q_t_lines k hF hX; exact nomatch hF
    | succ fuel ih =>
      intro x1 x2 q_t_lettersF q_t_sizesF q_t_lines k hF hX
      rw [f_X0_countKinds_L4] at hF
      refine a_iload_n C 2 dX0_countKinds_4 rfl rfl ?_
      refine a_aload_n C 0 dX0_countKinds_5 rfl rfl ?_
      refine a_get C 0 2 iwX0 rfl rfl (by decide) kf_X0_19 rfl dX0_countKinds_6 ?_
      refine a_ic_ge C (tgt := 48) dX0_countKinds_9 (by decide) hF (fun c9_1 hF => ?_) (fun c9_1 hF => ?_)
      · refine a_sub C [1] [(1, .int x1)] rfl ?_
        exact hX x1 x2 q_t_lettersF q_t_sizesF q_t_lines hF
      refine a_iconst C (v := 0) dX0_countKinds_12 (by decide) ?_
      refine a_istore_n C [(3, .int 0), (0, .ref t), (1, .int x1), (2, .int x2)] dX0_countKinds_13 rfl (by decide) rfl ?_
      refine a_sub C [1, 2, 3, 0] [(0, .ref t), (1, .int x1), (2, .int x2), (3, .int 0)] rfl ?_
      refine hI14 x1 x2 1000 0 q_t_lettersF q_t_sizesF q_t_lines _ hF (fun x3_14_5 q_t_lettersF_14_6 q_t_sizesF_14_7 q_t_lines_14_8 hF => ?_)
      refine a_iload_n C 3 dX0_countKinds_34 rfl rfl ?_
      refine a_iload_n C 2 dX0_countKinds_35 rfl rfl ?_
      refine a_ic_ne C (tgt := 42) dX0_countKinds_36 (by decide) hF (fun c36_9 hF => ?_) (fun c36_9 hF => ?_)
      · refine a_iinc C 2 [(2, .int (x2 + 1)), (0, .ref t), (1, .int x1), (3, .int x3_14_5)] dX0_countKinds_42 rfl rfl (by decide) rfl ?_
        refine a_goto C (tgt := 4) dX0_countKinds_45 (by decide) ?_
        refine a_sub C [1, 2, 0] [(0, .ref t), (1, .int x1), (2, .int (x2 + 1))] rfl ?_
        exact ih x1 (x2 + 1) q_t_lettersF_14_6 q_t_sizesF_14_7 q_t_lines_14_8 k hF hX
      refine a_iinc C 1 [(1, .int (x1 + 1)), (0, .ref t), (2, .int x2), (3, .int x3_14_5)] dX0_countKinds_39 rfl rfl (by decide) rfl ?_
      refine a_iinc C 2 [(2, .int (x2 + 1)), (1, .int (x1 + 1)), (0, .ref t), (3, .int x3_14_5)] dX0_countKinds_42 rfl rfl (by decide) rfl ?_
      refine a_goto C (tgt := 4) dX0_countKinds_45 (by decide) ?_
      refine a_sub C [2, 1, 0] [(0, .ref t), (1, .int (x1 + 1)), (2, .int (x2 + 1))] rfl ?_
      exact ih (x1 + 1) (x2 + 1) q_t_lettersF_14_6 q_t_sizesF_14_7 q_t_lines_14_8 k hF hX
  unfold f_X0_countKinds at hF
  refine a_iconst C (v := 0) dX0_countKinds_0 (by decide) ?_
  refine a_istore_n C [(1, .int 0), (0, .ref t)] dX0_countKinds_1 rfl (by decide) rfl ?_
  refine a_iconst C (v := 0) dX0_countKinds_2 (by decide) ?_
  refine a_istore_n C [(2, .int 0), (1, .int 0), (0, .ref t)] dX0_countKinds_3 rfl (by decide) rfl ?_
  refine a_sub C [2, 1, 0] [(0, .ref t), (1, .int 0), (2, .int 0)] rfl ?_
  refine hI4 1000 0 0 t_lettersF t_sizesF t_lines _ hF (fun x1_4_10 x2_4_11 q_t_lettersF_4_12 q_t_sizesF_4_13 q_t_lines_4_14 hF => ?_)
  refine a_iload_n C 0 dX0_countKinds_48 rfl rfl ?_
  exact a_iret C hr rfl dX0_countKinds_49 hF rfl rfl
def f_X0_isReverse_L20 (x3 : Int32) (q_t_lettersF : Nat → Int32) (q_t_sizesF : Nat → Int32) (q_t_lines : Int32) (p1 : Int32) (p2 : Int32) : Nat → Int32 → (Int32 → Option (Int32 × (Nat → Int32) × (Nat → Int32) × Int32)) → Option (Int32 × (Nat → Int32) × (Nat → Int32) × Int32)
  | 0, _, _ => none
  | fuel + 1, x4, k => if x3 ≤ x4 then (k x4) else ((f_X0_letterAt q_t_lettersF q_t_sizesF q_t_lines p1 x4).bind fun r30_5 => (f_X0_letterAt q_t_lettersF q_t_sizesF q_t_lines p2 ((x3 - 1) - x4)).bind fun r41_6 => if r30_5 = r41_6 then (f_X0_isReverse_L20 x3 q_t_lettersF q_t_sizesF q_t_lines p1 p2 fuel (x4 + 1) k) else (some (0, q_t_lettersF, q_t_sizesF, q_t_lines)))
def f_X0_isReverse (t_lettersF : Nat → Int32) (t_sizesF : Nat → Int32) (t_lines : Int32) (p1 : Int32) (p2 : Int32) : Option (Int32 × (Nat → Int32) × (Nat → Int32) × Int32) := (f_X0_size t_sizesF t_lines p1).bind fun r2_1 => (f_X0_size t_sizesF t_lines p2).bind fun r9_2 => if r2_1 = r9_2 then (f_X0_isReverse_L20 r2_1 t_lettersF t_sizesF t_lines p1 p2 1000 0 (fun x4_20_8 => some (1, t_lettersF, t_sizesF, t_lines))) else (some (0, t_lettersF, t_sizesF, t_lines))
theorem hd_X0_isReverse : yX0_isReverse.cls = RX0 ∧ yX0_isReverse.cls ≠ "java/lang/invoke/MethodHandle" ∧ yX0_isReverse.cls ≠ "java/lang/invoke/VarHandle" ∧ (parseMethodDescriptor yX0_isReverse.desc).map (fun d => d.parameters.length) = some 2 := by decide +kernel
set_option maxRecDepth 100000 in
set_option maxHeartbeats 4000000 in
theorem c_X0_isReverse (l : Launch) (D : va_G) (kc ki kb kl kd : ClassId) (t t_letters t_sizes : Nat) (t_lettersF : Nat → Int32) (t_sizesF : Nat → Int32) (t_lines : Int32) (p1 p2 : Int32) (res : Int32 × (Nat → Int32) × (Nat → Int32) × Int32) (hF : f_X0_isReverse t_lettersF t_sizesF t_lines p1 p2 = some res) : aKi l yX0_isReverse (aW yX0_isReverse cX0_isReverse 5 ((some .boolean))) ({ frames := 2, cells := 0, slots := 0, locals := 44 } : Room) D (aTy kc ki kb kl kd) [.ref t, .int p1, .int p2] (wX0 kc ki t t_letters t_sizes t_lettersF t_sizesF t_lines) (fun r => r.1) (fun r => wX0 kc ki t t_letters t_sizes r.2.1 r.2.2.1 r.2.2.2) res := by
  refine aKi_of (own := RX0) (by decide) rfl (Nat.le_of_ble_eq_true rfl) rfl ?_
  intro p e s m args below meth c C hr
  have hI20 : ∀ (x3 : Int32) (q_t_lettersF : Nat → Int32) (q_t_sizesF : Nat → Int32) (q_t_lines : Int32) (fuel : Nat) (x4 : Int32) (k : Int32 → Option (Int32 × (Nat → Int32) × (Nat → Int32) × Int32)), f_X0_isReverse_L20 x3 q_t_lettersF q_t_sizesF q_t_lines p1 p2 fuel x4 k = some res → (∀ (x4 : Int32), k x4 = some res → aT p l e ({ frames := 2, cells := 0, slots := 0, locals := 44 } : Room) s m args below meth c (MQ below (aQi D (wX0 kc ki t t_letters t_sizes t_lettersF t_sizesF t_lines) s.heap.size (fun r => r.1) (fun r => wX0 kc ki t t_letters t_sizes r.2.1 r.2.2.1 r.2.2.2) res) args s 0 0 (va_A (wX0 kc ki t t_letters t_sizes t_lettersF t_sizesF t_lines) s.heap.size)) D (va_A (wX0 kc ki t t_letters t_sizes t_lettersF t_sizesF t_lines) s.heap.size) 5 0 0 55 [] [] (wX0 kc ki t t_letters t_sizes q_t_lettersF q_t_sizesF q_t_lines)) → aT p l e ({ frames := 2, cells := 0, slots := 0, locals := 44 } : Room) s m args below meth c (MQ below (aQi D (wX0 kc ki t t_letters t_sizes t_lettersF t_sizesF t_lines) s.heap.size (fun r => r.1) (fun r => wX0 kc ki t t_letters t_sizes r.2.1 r.2.2.1 r.2.2.2) res) args s 0 0 (va_A (wX0 kc ki t t_letters t_sizes t_lettersF t_sizesF t_lines) s.heap.size)) D (va_A (wX0 kc ki t t_letters t_sizes t_lettersF t_sizesF t_lines) s.heap.size) 5 0 0 20 [(0, .ref t), (1, .int p1), (2, .int p2), (3, .int x3), (4, .int x4)] [] (wX0 kc ki t t_letters t_sizes q_t_lettersF q_t_sizesF q_t_lines) := by
    intro x3 q_t_lettersF q_t_sizesF q_t_lines fuel
    induction fuel with
    | zero => intro x4 k hF hX; exact nomatch hF
    | succ fuel ih =>
      intro x4 k hF hX
      rw [f_X0_isReverse_L20] at hF
      refine a_iload C 4 dX0_isReverse_20 rfl ?_
      refine a_iload_n C 3 dX0_isReverse_22 rfl rfl ?_
      refine a_ic_ge C (tgt := 55) dX0_isReverse_23 (by decide) hF (fun c23_4 hF => ?_) (fun c23_4 hF => ?_)
      · refine a_sub C [] [] rfl ?_
        exact hX x4 hF
      refine a_aload_n C 0 dX0_isReverse_26 rfl rfl ?_
      refine a_iload_n C 1 dX0_isReverse_27 rfl rfl ?_
      refine a_iload C 4 dX0_isReverse_28 rfl ?_
      refine a_callVir C 2 [0, 1, 2] 0 cs_X0_43 hd_X0_letterAt ⟨rfl, rfl⟩ ⟨Nat.le_of_ble_eq_true rfl, Nat.le_of_ble_eq_true rfl⟩ (fun r h => c_X0_letterAt l D kc ki kb kl kd t t_letters t_sizes q_t_lettersF q_t_sizesF q_t_lines p1 x4 r h) rfl rfl rfl rfl rfl rfl (Nat.le_of_ble_eq_true rfl) dX0_isReverse_30 ⟨Nat.zero_le _, Nat.zero_le _⟩ hF (fun r30_5 er30_5 hF => ?_)
      refine a_aload_n C 0 dX0_isReverse_33 rfl rfl ?_
      refine a_iload_n C 2 dX0_isReverse_34 rfl rfl ?_
      refine a_iload_n C 3 dX0_isReverse_35 rfl rfl ?_
      refine a_iconst C (v := 1) dX0_isReverse_36 (by decide) ?_
      refine a_isub C dX0_isReverse_37 ?_
      refine a_iload C 4 dX0_isReverse_38 rfl ?_
      refine a_isub C dX0_isReverse_40 ?_
      refine a_callVir C 2 [0, 1, 2] 0 cs_X0_43 hd_X0_letterAt ⟨rfl, rfl⟩ ⟨Nat.le_of_ble_eq_true rfl, Nat.le_of_ble_eq_true rfl⟩ (fun r h => c_X0_letterAt l D kc ki kb kl kd t t_letters t_sizes q_t_lettersF q_t_sizesF q_t_lines p2 ((x3 - 1) - x4) r h) rfl rfl rfl rfl rfl rfl (Nat.le_of_ble_eq_true rfl) dX0_isReverse_41 ⟨Nat.zero_le _, Nat.zero_le _⟩ hF (fun r41_6 er41_6 hF => ?_)
      refine a_ic_eq C (tgt := 49) dX0_isReverse_44 (by decide) hF (fun c44_7 hF => ?_) (fun c44_7 hF => ?_)
      · refine a_iinc C 4 [(4, .int (x4 + 1)), (0, .ref t), (1, .int p1), (2, .int p2), (3, .int x3)] dX0_isReverse_49 rfl rfl (by decide) rfl ?_
        refine a_goto C (tgt := 20) dX0_isReverse_52 (by decide) ?_
        refine a_sub C [1, 2, 3, 4, 0] [(0, .ref t), (1, .int p1), (2, .int p2), (3, .int x3), (4, .int (x4 + 1))] rfl ?_
        exact ih (x4 + 1) k hF hX
      refine a_iconst C (v := 0) dX0_isReverse_47 (by decide) ?_
      exact a_iret C hr rfl dX0_isReverse_48 hF rfl rfl
  unfold f_X0_isReverse at hF
  refine a_aload_n C 0 dX0_isReverse_0 rfl rfl ?_
  refine a_iload_n C 1 dX0_isReverse_1 rfl rfl ?_
  refine a_callVir C 1 [0, 1, 2] 0 cs_X0_39 hd_X0_size ⟨rfl, rfl⟩ ⟨Nat.le_of_ble_eq_true rfl, Nat.le_of_ble_eq_true rfl⟩ (fun r h => c_X0_size l D kc ki kb kl kd t t_letters t_sizes t_lettersF t_sizesF t_lines p1 r h) rfl rfl rfl rfl rfl rfl (Nat.le_of_ble_eq_true rfl) dX0_isReverse_2 ⟨Nat.zero_le _, Nat.zero_le _⟩ hF (fun r2_1 er2_1 hF => ?_)
  refine a_istore_n C [(3, .int r2_1), (0, .ref t), (1, .int p1), (2, .int p2)] dX0_isReverse_5 rfl (by decide) rfl ?_
  refine a_iload_n C 0 dX0_isReverse_6 rfl rfl ?_
  refine a_aload_n C 1 dX0_isReverse_7 rfl rfl ?_
  refine a_iload_n C 3 dX0_isReverse_8 rfl rfl ?_
  refine a_callVir C 1 [0, 1, 2] 0 cs_X0_39 hd_X0_size ⟨rfl, rfl⟩ ⟨Nat.le_of_ble_eq_true rfl, Nat.le_of_ble_eq_true rfl⟩ (fun r h => c_X0_size l D kc ki kb kl kd t t_letters t_sizes t_lettersF t_sizesF t_lines p2 r h) rfl rfl rfl rfl rfl rfl (Nat.le_of_ble_eq_true rfl) dX0_isReverse_9 ⟨Nat.zero_le _, Nat.zero_le _⟩ hF (fun r9_2 er9_2 hF => ?_)
  refine a_ic_eq C (tgt := 17) dX0_isReverse_12 (by decide) hF (fun c12_3 hF => ?_) (fun c12_3 hF => ?_)
  · refine a_iconst C (v := 0) dX0_isReverse_17 (by decide) ?_
    refine a_istore C [(4, .int 0), (3, .int r2_1), (0, .ref t), (1, .int p1), (2, .int p2)] dX0_isReverse_18 (by decide) rfl ?_
    refine a_sub C [2, 3, 4, 1, 0] [(0, .ref t), (1, .int p1), (2, .int p2), (3, .int r2_1), (4, .int 0)] rfl ?_
    refine hI20 r2_1 t_lettersF t_sizesF t_lines 1000 0 _ hF (fun x4_20_8 hF => ?_)
    refine a_iconst C (v := 1) dX0_isReverse_55 (by decide) ?_
    exact a_iret C hr rfl dX0_isReverse_56 hF rfl rfl
  refine a_iconst C (v := 0) dX0_isReverse_15 (by decide) ?_
  exact a_iret C hr rfl dX0_isReverse_16 hF rfl rfl
theorem cs_X0_64 : GoodIn WW (wsV RX0 64 RX0 yX0_isReverse (aW yX0_isReverse cX0_isReverse 5 ((some .boolean)))) := gdV kl_X0_64 ki_X0_isReverse kv_X0_isReverse kn_X0 kc_X0_isReverse
def f_X0_countReversible_L4 : Nat → Int32 → Int32 → (Nat → Int32) → (Nat → Int32) → Int32 → (Int32 → Int32 → (Nat → Int32) → (Nat → Int32) → Int32 → Option (Int32 × (Nat → Int32) × (Nat → Int32) × Int32)) → Option (Int32 × (Nat → Int32) × (Nat → Int32) × Int32)
  | 0, _, _, _, _, _, _ => none
  | fuel + 1, x1, x2, q_t_lettersF, q_t_sizesF, q_t_lines, k => if q_t_lines ≤ x2 then (k x1 x2 q_t_lettersF q_t_sizesF q_t_lines) else ((f_X0_isReverse q_t_lettersF q_t_sizesF q_t_lines x2 x2).bind fun r15_2 => if r15_2.1 = 0 then (f_X0_countReversible_L4 fuel x1 (x2 + 1) r15_2.2.1 r15_2.2.2.1 r15_2.2.2.2 k) else (f_X0_countReversible_L4 fuel (x1 + 1) (x2 + 1) r15_2.2.1 r15_2.2.2.1 r15_2.2.2.2 k))
def f_X0_countReversible (t_lettersF : Nat → Int32) (t_sizesF : Nat → Int32) (t_lines : Int32) : Option (Int32 × (Nat → Int32) × (Nat → Int32) × Int32) := f_X0_countReversible_L4 1000 0 0 t_lettersF t_sizesF t_lines (fun x1_4_4 x2_4_5 q_t_lettersF_4_6 q_t_sizesF_4_7 q_t_lines_4_8 => some (x1_4_4, q_t_lettersF_4_6, q_t_sizesF_4_7, q_t_lines_4_8))
theorem hd_X0_countReversible : yX0_countReversible.cls = RX0 ∧ yX0_countReversible.cls ≠ "java/lang/invoke/MethodHandle" ∧ yX0_countReversible.cls ≠ "java/lang/invoke/VarHandle" ∧ (parseMethodDescriptor yX0_countReversible.desc).map (fun d => d.parameters.length) = some 0 := by decide +kernel
set_option maxRecDepth 100000 in
set_option maxHeartbeats 4000000 in
theorem c_X0_countReversible (l : Launch) (D : va_G) (kc ki kb kl kd : ClassId) (t t_letters t_sizes : Nat) (t_lettersF : Nat → Int32) (t_sizesF : Nat → Int32) (t_lines : Int32) (res : Int32 × (Nat → Int32) × (Nat → Int32) × Int32) (hF : f_X0_countReversible t_lettersF t_sizesF t_lines = some res) : aKi l yX0_countReversible (aW yX0_countReversible cX0_countReversible 3 ((some .int))) ({ frames := 3, cells := 0, slots := 0, locals := 68 } : Room) D (aTy kc ki kb kl kd) [.ref t] (wX0 kc ki t t_letters t_sizes t_lettersF t_sizesF t_lines) (fun r => r.1) (fun r => wX0 kc ki t t_letters t_sizes r.2.1 r.2.2.1 r.2.2.2) res := by
  refine aKi_of (own := RX0) (by decide) rfl (Nat.le_of_ble_eq_true rfl) rfl ?_
  intro p e s m args below meth c C hr
  have hI4 : ∀ (fuel : Nat) (x1 : Int32) (x2 : Int32) (q_t_lettersF : Nat → Int32) (q_t_sizesF : Nat → Int32) (q_t_lines : Int32) (k : Int32 → Int32 → (Nat → Int32) → (Nat → Int32) → Int32 → Option (Int32 × (Nat → Int32) × (Nat → Int32) × Int32)), f_X0_countReversible_L4 fuel x1 x2 q_t_lettersF q_t_sizesF q_t_lines k = some res → (∀ (x1 : Int32) (x2 : Int32) (q_t_lettersF : Nat → Int32) (q_t_sizesF : Nat → Int32) (q_t_lines : Int32), k x1 x2 q_t_lettersF q_t_sizesF q_t_lines = some res → aT p l e ({ frames := 3, cells := 0, slots := 0, locals := 68 } : Room) s m args below meth c (MQ below (aQi D (wX0 kc ki t t_letters t_sizes t_lettersF t_sizesF t_lines) s.heap.size (fun r => r.1) (fun r => wX0 kc ki t t_letters t_sizes r.2.1 r.2.2.1 r.2.2.2) res) args s 0 0 (va_A (wX0 kc ki t t_letters t_sizes t_lettersF t_sizesF t_lines) s.heap.size)) D (va_A (wX0 kc ki t t_letters t_sizes t_lettersF t_sizesF t_lines) s.heap.size) 3 0 0 30 [(1, .int x1)] [] (wX0 kc ki t t_letters t_sizes q_t_lettersF q_t_sizesF q_t_lines)) → aT p l e ({ frames := 3, cells := 0, slots := 0, locals := 68 } : Room) s m args below meth c (MQ below (aQi D (wX0 kc ki t t_letters t_sizes t_lettersF t_sizesF t_lines) s.heap.size (fun r => r.1) (fun r => wX0 kc ki t t_letters t_sizes r.2.1 r.2.2.1 r.2.2.2) res) args s 0 0 (va_A (wX0 kc ki t t_letters t_sizes t_lettersF t_sizesF t_lines) s.heap.size)) D (va_A (wX0 kc ki t t_letters t_sizes t_lettersF t_sizesF t_lines) s.heap.size) 3 0 0 4 [(0, .ref t), (1, .int x1), (2, .int x2)] [] (wX0 kc ki t t_letters t_sizes q_t_lettersF q_t_sizesF q_t_lines) := by
    intro fuel
    induction fuel with
    | zero => intro x1 x2 q_t_lettersF q_t_sizesF q_t_lines k hF hX; exact nomatch hF
    | succ fuel ih =>
      intro x1 x2 q_t_lettersF q_t_sizesF q_t_lines k hF hX
      rw [f_X0_countReversible_L4] at hF
      refine a_iload_n C 2 dX0_countReversible_4 rfl rfl ?_
      refine a_aload_n C 0 dX0_countReversible_5 rfl rfl ?_
      refine a_get C 0 2 iwX0 rfl rfl (by decide) kf_X0_19 rfl dX0_countReversible_6 ?_
      refine a_ic_ge C (tgt := 30) dX0_countReversible_9 (by decide) hF (fun c9_1 hF => ?_) (fun c9_1 hF => ?_)
      · refine a_sub C [1] [(1, .int x1)] rfl ?_
        exact hX x1 x2 q_t_lettersF q_t_sizesF q_t_lines hF
      refine a_aload_n C 0 dX0_countReversible_12 rfl rfl ?_
      refine a_iload_n C 2 dX0_countReversible_13 rfl rfl ?_
      refine a_iload_n C 2 dX0_countReversible_14 rfl rfl ?_
      refine a_callVi C 2 [0, 1, 2] 0 cs_X0_64 hd_X0_isReverse ⟨rfl, rfl⟩ ⟨Nat.le_of_ble_eq_true rfl, Nat.le_of_ble_eq_true rfl⟩ (fun r h => c_X0_isReverse l D kc ki kb kl kd t t_letters t_sizes q_t_lettersF q_t_sizesF q_t_lines x2 x2 r h) rfl rfl rfl (fun _ => rfl) rfl rfl rfl (Nat.le_of_ble_eq_true rfl) dX0_countReversible_15 ⟨Nat.zero_le _, Nat.zero_le _⟩ hF (fun r15_2 er15_2 hF => ?_)
      refine a_ws C (ws' := wX0 kc ki t t_letters t_sizes r15_2.2.1 r15_2.2.2.1 r15_2.2.2.2) rfl ?_
      refine a_if_eq C (tgt := 24) dX0_countReversible_18 (by decide) hF (fun c18_3 hF => ?_) (fun c18_3 hF => ?_)
      · refine a_iinc C 2 [(2, .int (x2 + 1)), (0, .ref t), (1, .int x1)] dX0_countReversible_24 rfl rfl (by decide) rfl ?_
        refine a_goto C (tgt := 4) dX0_countReversible_27 (by decide) ?_
        refine a_sub C [1, 2, 0] [(0, .ref t), (1, .int x1), (2, .int (x2 + 1))] rfl ?_
        exact ih x1 (x2 + 1) r15_2.2.1 r15_2.2.2.1 r15_2.2.2.2 k hF hX
      refine a_iinc C 1 [(1, .int (x1 + 1)), (0, .ref t), (2, .int x2)] dX0_countReversible_21 rfl rfl (by decide) rfl ?_
      refine a_iinc C 2 [(2, .int (x2 + 1)), (1, .int (x1 + 1)), (0, .ref t)] dX0_countReversible_24 rfl rfl (by decide) rfl ?_
      refine a_goto C (tgt := 4) dX0_countReversible_27 (by decide) ?_
      refine a_sub C [2, 1, 0] [(0, .ref t), (1, .int (x1 + 1)), (2, .int (x2 + 1))] rfl ?_
      exact ih (x1 + 1) (x2 + 1) r15_2.2.1 r15_2.2.2.1 r15_2.2.2.2 k hF hX
  unfold f_X0_countReversible at hF
  refine a_iconst C (v := 0) dX0_countReversible_0 (by decide) ?_
  refine a_istore_n C [(1, .int 0), (0, .ref t)] dX0_countReversible_1 rfl (by decide) rfl ?_
  refine a_iconst C (v := 0) dX0_countReversible_2 (by decide) ?_
  refine a_istore_n C [(2, .int 0), (1, .int 0), (0, .ref t)] dX0_countReversible_3 rfl (by decide) rfl ?_
  refine a_sub C [2, 1, 0] [(0, .ref t), (1, .int 0), (2, .int 0)] rfl ?_
  refine hI4 1000 0 0 t_lettersF t_sizesF t_lines _ hF (fun x1_4_4 x2_4_5 q_t_lettersF_4_6 q_t_sizesF_4_7 q_t_lines_4_8 hF => ?_)
  refine a_iload_n C 0 dX0_countReversible_30 rfl rfl ?_
  exact a_iret C hr rfl dX0_countReversible_31 hF rfl rfl
def f_X0_period_L8 (x2 : Int32) (p1 : Int32) : Nat → Int32 → (Nat → Int32) → (Nat → Int32) → Int32 → (Int32 → (Nat → Int32) → (Nat → Int32) → Int32 → Option (Int32 × (Nat → Int32) × (Nat → Int32) × Int32)) → Option (Int32 × (Nat → Int32) × (Nat → Int32) × Int32)
  | 0, _, _, _, _, _ => none
  | fuel + 1, x3, q_t_lettersF, q_t_sizesF, q_t_lines, k => if x2 ≤ x3 then (k x3 q_t_lettersF q_t_sizesF q_t_lines) else ((f_X0_sameLetters q_t_lettersF q_t_sizesF q_t_lines p1 x3 p1 0).bind fun r18_3 => if (x2 - x3) ≤ r18_3.1 then (k x3 r18_3.2.1 r18_3.2.2.1 r18_3.2.2.2) else (f_X0_period_L8 x2 p1 fuel (x3 + 1) r18_3.2.1 r18_3.2.2.1 r18_3.2.2.2 k))
def f_X0_period (t_lettersF : Nat → Int32) (t_sizesF : Nat → Int32) (t_lines : Int32) (p1 : Int32) : Option (Int32 × (Nat → Int32) × (Nat → Int32) × Int32) := (f_X0_size t_sizesF t_lines p1).bind fun r2_1 => f_X0_period_L8 r2_1 p1 1000 1 t_lettersF t_sizesF t_lines (fun x3_8_5 q_t_lettersF_8_6 q_t_sizesF_8_7 q_t_lines_8_8 => some (x3_8_5, q_t_lettersF_8_6, q_t_sizesF_8_7, q_t_lines_8_8))
theorem hd_X0_period : yX0_period.cls = RX0 ∧ yX0_period.cls ≠ "java/lang/invoke/MethodHandle" ∧ yX0_period.cls ≠ "java/lang/invoke/VarHandle" ∧ (parseMethodDescriptor yX0_period.desc).map (fun d => d.parameters.length) = some 1 := by decide +kernel
set_option maxRecDepth 100000 in
set_option maxHeartbeats 4000000 in
theorem c_X0_period (l : Launch) (D : va_G) (kc ki kb kl kd : ClassId) (t t_letters t_sizes : Nat) (t_lettersF : Nat → Int32) (t_sizesF : Nat → Int32) (t_lines : Int32) (p1 : Int32) (res : Int32 × (Nat → Int32) × (Nat → Int32) × Int32) (hF : f_X0_period t_lettersF t_sizesF t_lines p1 = some res) : aKi l yX0_period (aW yX0_period cX0_period 4 ((some .int))) ({ frames := 3, cells := 0, slots := 0, locals := 70 } : Room) D (aTy kc ki kb kl kd) [.ref t, .int p1] (wX0 kc ki t t_letters t_sizes t_lettersF t_sizesF t_lines) (fun r => r.1) (fun r => wX0 kc ki t t_letters t_sizes r.2.1 r.2.2.1 r.2.2.2) res := by
  refine aKi_of (own := RX0) (by decide) rfl (Nat.le_of_ble_eq_true rfl) rfl ?_
  intro p e s m args below meth c C hr
  have hI8 : ∀ (x2 : Int32) (fuel : Nat) (x3 : Int32) (q_t_lettersF : Nat → Int32) (q_t_sizesF : Nat → Int32) (q_t_lines : Int32) (k : Int32 → (Nat → Int32) → (Nat → Int32) → Int32 → Option (Int32 × (Nat → Int32) × (Nat → Int32) × Int32)), f_X0_period_L8 x2 p1 fuel x3 q_t_lettersF q_t_sizesF q_t_lines k = some res → (∀ (x3 : Int32) (q_t_lettersF : Nat → Int32) (q_t_sizesF : Nat → Int32) (q_t_lines : Int32), k x3 q_t_lettersF q_t_sizesF q_t_lines = some res → aT p l e ({ frames := 3, cells := 0, slots := 0, locals := 70 } : Room) s m args below meth c (MQ below (aQi D (wX0 kc ki t t_letters t_sizes t_lettersF t_sizesF t_lines) s.heap.size (fun r => r.1) (fun r => wX0 kc ki t t_letters t_sizes r.2.1 r.2.2.1 r.2.2.2) res) args s 0 0 (va_A (wX0 kc ki t t_letters t_sizes t_lettersF t_sizesF t_lines) s.heap.size)) D (va_A (wX0 kc ki t t_letters t_sizes t_lettersF t_sizesF t_lines) s.heap.size) 4 0 0 33 [(3, .int x3)] [] (wX0 kc ki t t_letters t_sizes q_t_lettersF q_t_sizesF q_t_lines)) → aT p l e ({ frames := 3, cells := 0, slots := 0, locals := 70 } : Room) s m args below meth c (MQ below (aQi D (wX0 kc ki t t_letters t_sizes t_lettersF t_sizesF t_lines) s.heap.size (fun r => r.1) (fun r => wX0 kc ki t t_letters t_sizes r.2.1 r.2.2.1 r.2.2.2) res) args s 0 0 (va_A (wX0 kc ki t t_letters t_sizes t_lettersF t_sizesF t_lines) s.heap.size)) D (va_A (wX0 kc ki t t_letters t_sizes t_lettersF t_sizesF t_lines) s.heap.size) 4 0 0 8 [(0, .ref t), (1, .int p1), (2, .int x2), (3, .int x3)] [] (wX0 kc ki t t_letters t_sizes q_t_lettersF q_t_sizesF q_t_lines) := by
    intro x2 fuel
    induction fuel with
    | zero => intro x3 q_t_lettersF q_t_sizesF q_t_lines k hF hX; exact nomatch hF
    | succ fuel ih =>
      intro x3 q_t_lettersF q_t_sizesF q_t_lines k hF hX
      rw [f_X0_period_L8] at hF
      refine a_iload_n C 3 dX0_period_8 rfl rfl ?_
      refine a_iload_n C 2 dX0_period_9 rfl rfl ?_
      refine a_ic_ge C (tgt := 33) dX0_period_10 (by decide) hF (fun c10_2 hF => ?_) (fun c10_2 hF => ?_)
      · refine a_sub C [3] [(3, .int x3)] rfl ?_
        exact hX x3 q_t_lettersF q_t_sizesF q_t_lines hF
      refine a_aload_n C 0 dX0_period_13 rfl rfl ?_
      refine a_iload_n C 1 dX0_period_14 rfl rfl ?_
      refine a_iload_n C 3 dX0_period_15 rfl rfl ?_
      refine a_iload_n C 1 dX0_period_16 rfl rfl ?_
      refine a_iconst C (v := 0) dX0_period_17 (by decide) ?_
      refine a_callVi C 4 [0, 1, 2] 0 cs_X0_57 hd_X0_sameLetters ⟨rfl, rfl⟩ ⟨Nat.le_of_ble_eq_true rfl, Nat.le_of_ble_eq_true rfl⟩ (fun r h => c_X0_sameLetters l D kc ki kb kl kd t t_letters t_sizes q_t_lettersF q_t_sizesF q_t_lines p1 x3 p1 0 r h) rfl rfl rfl (fun _ => rfl) rfl rfl rfl (Nat.le_of_ble_eq_true rfl) dX0_period_18 ⟨Nat.zero_le _, Nat.zero_le _⟩ hF (fun r18_3 er18_3 hF => ?_)
      refine a_ws C (ws' := wX0 kc ki t t_letters t_sizes r18_3.2.1 r18_3.2.2.1 r18_3.2.2.2) rfl ?_
      refine a_iload_n C 2 dX0_period_21 rfl rfl ?_
      refine a_iload_n C 3 dX0_period_22 rfl rfl ?_
      refine a_isub C dX0_period_23 ?_
      refine a_ic_ge C (tgt := 33) dX0_period_24 (by decide) hF (fun c24_4 hF => ?_) (fun c24_4 hF => ?_)
      · refine a_sub C [3] [(3, .int x3)] rfl ?_
        exact hX x3 r18_3.2.1 r18_3.2.2.1 r18_3.2.2.2 hF
      refine a_iinc C 3 [(3, .int (x3 + 1)), (0, .ref t), (1, .int p1), (2, .int x2)] dX0_period_27 rfl rfl (by decide) rfl ?_
      refine a_goto C (tgt := 8) dX0_period_30 (by decide) ?_
      refine a_sub C [1, 2, 3, 0] [(0, .ref t), (1, .int p1), (2, .int x2), (3, .int (x3 + 1))] rfl ?_
      exact ih (x3 + 1) r18_3.2.1 r18_3.2.2.1 r18_3.2.2.2 k hF hX
  unfold f_X0_period at hF
  refine a_aload_n C 0 dX0_period_0 rfl rfl ?_
  refine a_iload_n C 1 dX0_period_1 rfl rfl ?_
  refine a_callVir C 1 [0, 1, 2] 0 cs_X0_39 hd_X0_size ⟨rfl, rfl⟩ ⟨Nat.le_of_ble_eq_true rfl, Nat.le_of_ble_eq_true rfl⟩ (fun r h => c_X0_size l D kc ki kb kl kd t t_letters t_sizes t_lettersF t_sizesF t_lines p1 r h) rfl rfl rfl rfl rfl rfl (Nat.le_of_ble_eq_true rfl) dX0_period_2 ⟨Nat.zero_le _, Nat.zero_le _⟩ hF (fun r2_1 er2_1 hF => ?_)
  refine a_istore_n C [(2, .int r2_1), (0, .ref t), (1, .int p1)] dX0_period_5 rfl (by decide) rfl ?_
  refine a_iconst C (v := 1) dX0_period_6 (by decide) ?_
  refine a_istore_n C [(3, .int 1), (2, .int r2_1), (0, .ref t), (1, .int p1)] dX0_period_7 rfl (by decide) rfl ?_
  refine a_sub C [2, 3, 1, 0] [(0, .ref t), (1, .int p1), (2, .int r2_1), (3, .int 1)] rfl ?_
  refine hI8 r2_1 1000 1 t_lettersF t_sizesF t_lines _ hF (fun x3_8_5 q_t_lettersF_8_6 q_t_sizesF_8_7 q_t_lines_8_8 hF => ?_)
  refine a_iload_n C 0 dX0_period_33 rfl rfl ?_
  exact a_iret C hr rfl dX0_period_34 hF rfl rfl
def f_X0_letterSet_L4 (q_t_lettersF : Nat → Int32) (q_t_sizesF : Nat → Int32) (q_t_lines : Int32) (p1 : Int32) : Nat → Int32 → Int32 → (Int32 → Int32 → Option (Int32 × (Nat → Int32) × (Nat → Int32) × Int32)) → Option (Int32 × (Nat → Int32) × (Nat → Int32) × Int32)
  | 0, _, _, _ => none
  | fuel + 1, x2, x3, k => (f_X0_size q_t_sizesF q_t_lines p1).bind fun r7_1 => if r7_1 ≤ x3 then (k x2 x3) else ((f_X0_letterAt q_t_lettersF q_t_sizesF q_t_lines p1 x3).bind fun r18_3 => f_X0_letterSet_L4 q_t_lettersF q_t_sizesF q_t_lines p1 fuel (x2 ||| (1 <<< ((r18_3 - 97) &&& 31))) (x3 + 1) k)
def f_X0_letterSet (t_lettersF : Nat → Int32) (t_sizesF : Nat → Int32) (t_lines : Int32) (p1 : Int32) : Option (Int32 × (Nat → Int32) × (Nat → Int32) × Int32) := f_X0_letterSet_L4 t_lettersF t_sizesF t_lines p1 1000 0 0 (fun x2_4_4 x3_4_5 => some (x2_4_4, t_lettersF, t_sizesF, t_lines))
theorem hd_X0_letterSet : yX0_letterSet.cls = RX0 ∧ yX0_letterSet.cls ≠ "java/lang/invoke/MethodHandle" ∧ yX0_letterSet.cls ≠ "java/lang/invoke/VarHandle" ∧ (parseMethodDescriptor yX0_letterSet.desc).map (fun d => d.parameters.length) = some 1 := by decide +kernel
set_option maxRecDepth 100000 in
set_option maxHeartbeats 4000000 in
theorem c_X0_letterSet (l : Launch) (D : va_G) (kc ki kb kl kd : ClassId) (t t_letters t_sizes : Nat) (t_lettersF : Nat → Int32) (t_sizesF : Nat → Int32) (t_lines : Int32) (p1 : Int32) (res : Int32 × (Nat → Int32) × (Nat → Int32) × Int32) (hF : f_X0_letterSet t_lettersF t_sizesF t_lines p1 = some res) : aKi l yX0_letterSet (aW yX0_letterSet cX0_letterSet 4 ((some .int))) ({ frames := 2, cells := 0, slots := 0, locals := 44 } : Room) D (aTy kc ki kb kl kd) [.ref t, .int p1] (wX0 kc ki t t_letters t_sizes t_lettersF t_sizesF t_lines) (fun r => r.1) (fun r => wX0 kc ki t t_letters t_sizes r.2.1 r.2.2.1 r.2.2.2) res := by
  refine aKi_of (own := RX0) (by decide) rfl (Nat.le_of_ble_eq_true rfl) rfl ?_
  intro p e s m args below meth c C hr
  have hI4 : ∀ (q_t_lettersF : Nat → Int32) (q_t_sizesF : Nat → Int32) (q_t_lines : Int32) (fuel : Nat) (x2 : Int32) (x3 : Int32) (k : Int32 → Int32 → Option (Int32 × (Nat → Int32) × (Nat → Int32) × Int32)), f_X0_letterSet_L4 q_t_lettersF q_t_sizesF q_t_lines p1 fuel x2 x3 k = some res → (∀ (x2 : Int32) (x3 : Int32), k x2 x3 = some res → aT p l e ({ frames := 2, cells := 0, slots := 0, locals := 44 } : Room) s m args below meth c (MQ below (aQi D (wX0 kc ki t t_letters t_sizes t_lettersF t_sizesF t_lines) s.heap.size (fun r => r.1) (fun r => wX0 kc ki t t_letters t_sizes r.2.1 r.2.2.1 r.2.2.2) res) args s 0 0 (va_A (wX0 kc ki t t_letters t_sizes t_lettersF t_sizesF t_lines) s.heap.size)) D (va_A (wX0 kc ki t t_letters t_sizes t_lettersF t_sizesF t_lines) s.heap.size) 4 0 0 33 [(2, .int x2)] [] (wX0 kc ki t t_letters t_sizes q_t_lettersF q_t_sizesF q_t_lines)) → aT p l e ({ frames := 2, cells := 0, slots := 0, locals := 44 } : Room) s m args below meth c (MQ below (aQi D (wX0 kc ki t t_letters t_sizes t_lettersF t_sizesF t_lines) s.heap.size (fun r => r.1) (fun r => wX0 kc ki t t_letters t_sizes r.2.1 r.2.2.1 r.2.2.2) res) args s 0 0 (va_A (wX0 kc ki t t_letters t_sizes t_lettersF t_sizesF t_lines) s.heap.size)) D (va_A (wX0 kc ki t t_letters t_sizes t_lettersF t_sizesF t_lines) s.heap.size) 4 0 0 4 [(0, .ref t), (1, .int p1), (2, .int x2), (3, .int x3)] [] (wX0 kc ki t t_letters t_sizes q_t_lettersF q_t_sizesF q_t_lines) := by
    intro q_t_lettersF q_t_sizesF q_t_lines fuel
    induction fuel with
    | zero => intro x2 x3 k hF hX; exact nomatch hF
    | succ fuel ih =>
      intro x2 x3 k hF hX
      rw [f_X0_letterSet_L4] at hF
      refine a_iload_n C 3 dX0_letterSet_4 rfl rfl ?_
      refine a_aload_n C 0 dX0_letterSet_5 rfl rfl ?_
      refine a_iload_n C 1 dX0_letterSet_6 rfl rfl ?_
      refine a_callVir C 1 [0, 1, 2] 0 cs_X0_39 hd_X0_size ⟨rfl, rfl⟩ ⟨Nat.le_of_ble_eq_true rfl, Nat.le_of_ble_eq_true rfl⟩ (fun r h => c_X0_size l D kc ki kb kl kd t t_letters t_sizes q_t_lettersF q_t_sizesF q_t_lines p1 r h) rfl rfl rfl rfl rfl rfl (Nat.le_of_ble_eq_true rfl) dX0_letterSet_7 ⟨Nat.zero_le _, Nat.zero_le _⟩ hF (fun r7_1 er7_1 hF => ?_)
      refine a_ic_ge C (tgt := 33) dX0_letterSet_10 (by decide) hF (fun c10_2 hF => ?_) (fun c10_2 hF => ?_)
      · refine a_sub C [2] [(2, .int x2)] rfl ?_
        exact hX x2 x3 hF
      refine a_iload_n C 2 dX0_letterSet_13 rfl rfl ?_
      refine a_iconst C (v := 1) dX0_letterSet_14 (by decide) ?_
      refine a_aload_n C 0 dX0_letterSet_15 rfl rfl ?_
      refine a_iload_n C 1 dX0_letterSet_16 rfl rfl ?_
      refine a_iload_n C 3 dX0_letterSet_17 rfl rfl ?_
      refine a_callVir C 2 [0, 1, 2] 0 cs_X0_43 hd_X0_letterAt ⟨rfl, rfl⟩ ⟨Nat.le_of_ble_eq_true rfl, Nat.le_of_ble_eq_true rfl⟩ (fun r h => c_X0_letterAt l D kc ki kb kl kd t t_letters t_sizes q_t_lettersF q_t_sizesF q_t_lines p1 x3 r h) rfl rfl rfl rfl rfl rfl (Nat.le_of_ble_eq_true rfl) dX0_letterSet_18 ⟨Nat.zero_le _, Nat.zero_le _⟩ hF (fun r18_3 er18_3 hF => ?_)
      refine a_bipush C (v := 97) dX0_letterSet_21 (by decide) ?_
      refine a_isub C dX0_letterSet_23 ?_
      refine a_ishl C dX0_letterSet_24 ?_
      refine a_ior C dX0_letterSet_25 ?_
      refine a_istore_n C [(2, .int (x2 ||| (1 <<< ((r18_3 - 97) &&& 31)))), (0, .ref t), (1, .int p1), (3, .int x3)] dX0_letterSet_26 rfl (by decide) rfl ?_
      refine a_iinc C 3 [(3, .int (x3 + 1)), (2, .int (x2 ||| (1 <<< ((r18_3 - 97) &&& 31)))), (0, .ref t), (1, .int p1)] dX0_letterSet_27 rfl rfl (by decide) rfl ?_
      refine a_goto C (tgt := 4) dX0_letterSet_30 (by decide) ?_
      refine a_sub C [2, 3, 1, 0] [(0, .ref t), (1, .int p1), (2, .int (x2 ||| (1 <<< ((r18_3 - 97) &&& 31)))), (3, .int (x3 + 1))] rfl ?_
      exact ih (x2 ||| (1 <<< ((r18_3 - 97) &&& 31))) (x3 + 1) k hF hX
  unfold f_X0_letterSet at hF
  refine a_iconst C (v := 0) dX0_letterSet_0 (by decide) ?_
  refine a_istore_n C [(2, .int 0), (0, .ref t), (1, .int p1)] dX0_letterSet_1 rfl (by decide) rfl ?_
  refine a_iconst C (v := 0) dX0_letterSet_2 (by decide) ?_
  refine a_istore_n C [(3, .int 0), (2, .int 0), (0, .ref t), (1, .int p1)] dX0_letterSet_3 rfl (by decide) rfl ?_
  refine a_sub C [2, 3, 1, 0] [(0, .ref t), (1, .int p1), (2, .int 0), (3, .int 0)] rfl ?_
  refine hI4 t_lettersF t_sizesF t_lines 1000 0 0 _ hF (fun x2_4_4 x3_4_5 hF => ?_)
  refine a_iload_n C 0 dX0_letterSet_33 rfl rfl ?_
  exact a_iret C hr rfl dX0_letterSet_34 hF rfl rfl
theorem cs_X0_67 : GoodIn WW (wsV RX0 67 RX0 yX0_letterSet (aW yX0_letterSet cX0_letterSet 4 ((some .int)))) := gdV kl_X0_67 ki_X0_letterSet kv_X0_letterSet kn_X0 kc_X0_letterSet
def f_X0_letterSet__L4 : Nat → Int32 → Int32 → (Nat → Int32) → (Nat → Int32) → Int32 → (Int32 → Int32 → (Nat → Int32) → (Nat → Int32) → Int32 → Option (Int32 × (Nat → Int32) × (Nat → Int32) × Int32)) → Option (Int32 × (Nat → Int32) × (Nat → Int32) × Int32)
  | 0, _, _, _, _, _, _ => none
  | fuel + 1, x1, x2, q_t_lettersF, q_t_sizesF, q_t_lines, k => if q_t_lines ≤ x2 then (k x1 x2 q_t_lettersF q_t_sizesF q_t_lines) else ((f_X0_letterSet q_t_lettersF q_t_sizesF q_t_lines x2).bind fun r15_2 => f_X0_letterSet__L4 fuel (x1 ||| r15_2.1) (x2 + 1) r15_2.2.1 r15_2.2.2.1 r15_2.2.2.2 k)
def f_X0_letterSet_ (t_lettersF : Nat → Int32) (t_sizesF : Nat → Int32) (t_lines : Int32) : Option (Int32 × (Nat → Int32) × (Nat → Int32) × Int32) := f_X0_letterSet__L4 1000 0 0 t_lettersF t_sizesF t_lines (fun x1_4_3 x2_4_4 q_t_lettersF_4_5 q_t_sizesF_4_6 q_t_lines_4_7 => some (x1_4_3, q_t_lettersF_4_5, q_t_sizesF_4_6, q_t_lines_4_7))
theorem hd_X0_letterSet_ : yX0_letterSet_.cls = RX0 ∧ yX0_letterSet_.cls ≠ "java/lang/invoke/MethodHandle" ∧ yX0_letterSet_.cls ≠ "java/lang/invoke/VarHandle" ∧ (parseMethodDescriptor yX0_letterSet_.desc).map (fun d => d.parameters.length) = some 0 := by decide +kernel
set_option maxRecDepth 100000 in
set_option maxHeartbeats 4000000 in
theorem c_X0_letterSet_ (l : Launch) (D : va_G) (kc ki kb kl kd : ClassId) (t t_letters t_sizes : Nat) (t_lettersF : Nat → Int32) (t_sizesF : Nat → Int32) (t_lines : Int32) (res : Int32 × (Nat → Int32) × (Nat → Int32) × Int32) (hF : f_X0_letterSet_ t_lettersF t_sizesF t_lines = some res) : aKi l yX0_letterSet_ (aW yX0_letterSet_ cX0_letterSet_ 3 ((some .int))) ({ frames := 3, cells := 0, slots := 0, locals := 67 } : Room) D (aTy kc ki kb kl kd) [.ref t] (wX0 kc ki t t_letters t_sizes t_lettersF t_sizesF t_lines) (fun r => r.1) (fun r => wX0 kc ki t t_letters t_sizes r.2.1 r.2.2.1 r.2.2.2) res := by
  refine aKi_of (own := RX0) (by decide) rfl (Nat.le_of_ble_eq_true rfl) rfl ?_
  intro p e s m args below meth c C hr
  have hI4 : ∀ (fuel : Nat) (x1 : Int32) (x2 : Int32) (q_t_lettersF : Nat → Int32) (q_t_sizesF : Nat → Int32) (q_t_lines : Int32) (k : Int32 → Int32 → (Nat → Int32) → (Nat → Int32) → Int32 → Option (Int32 × (Nat → Int32) × (Nat → Int32) × Int32)), f_X0_letterSet__L4 fuel x1 x2 q_t_lettersF q_t_sizesF q_t_lines k = some res → (∀ (x1 : Int32) (x2 : Int32) (q_t_lettersF : Nat → Int32) (q_t_sizesF : Nat → Int32) (q_t_lines : Int32), k x1 x2 q_t_lettersF q_t_sizesF q_t_lines = some res → aT p l e ({ frames := 3, cells := 0, slots := 0, locals := 67 } : Room) s m args below meth c (MQ below (aQi D (wX0 kc ki t t_letters t_sizes t_lettersF t_sizesF t_lines) s.heap.size (fun r => r.1) (fun r => wX0 kc ki t t_letters t_sizes r.2.1 r.2.2.1 r.2.2.2) res) args s 0 0 (va_A (wX0 kc ki t t_letters t_sizes t_lettersF t_sizesF t_lines) s.heap.size)) D (va_A (wX0 kc ki t t_letters t_sizes t_lettersF t_sizesF t_lines) s.heap.size) 3 0 0 26 [(1, .int x1)] [] (wX0 kc ki t t_letters t_sizes q_t_lettersF q_t_sizesF q_t_lines)) → aT p l e ({ frames := 3, cells := 0, slots := 0, locals := 67 } : Room) s m args below meth c (MQ below (aQi D (wX0 kc ki t t_letters t_sizes t_lettersF t_sizesF t_lines) s.heap.size (fun r => r.1) (fun r => wX0 kc ki t t_letters t_sizes r.2.1 r.2.2.1 r.2.2.2) res) args s 0 0 (va_A (wX0 kc ki t t_letters t_sizes t_lettersF t_sizesF t_lines) s.heap.size)) D (va_A (wX0 kc ki t t_letters t_sizes t_lettersF t_sizesF t_lines) s.heap.size) 3 0 0 4 [(0, .ref t), (1, .int x1), (2, .int x2)] [] (wX0 kc ki t t_letters t_sizes q_t_lettersF q_t_sizesF q_t_lines) := by
    intro fuel
    induction fuel with
    | zero => intro x1 x2 q_t_lettersF q_t_sizesF q_t_lines k hF hX; exact nomatch hF
    | succ fuel ih =>
      intro x1 x2 q_t_lettersF q_t_sizesF q_t_lines k hF hX
      rw [f_X0_letterSet__L4] at hF
      refine a_iload_n C 2 dX0_letterSet__4 rfl rfl ?_
      refine a_aload_n C 0 dX0_letterSet__5 rfl rfl ?_
      refine a_get C 0 2 iwX0 rfl rfl (by decide) kf_X0_19 rfl dX0_letterSet__6 ?_
      refine a_ic_ge C (tgt := 26) dX0_letterSet__9 (by decide) hF (fun c9_1 hF => ?_) (fun c9_1 hF => ?_)
      · refine a_sub C [1] [(1, .int x1)] rfl ?_
        exact hX x1 x2 q_t_lettersF q_t_sizesF q_t_lines hF
      refine a_iload_n C 1 dX0_letterSet__12 rfl rfl ?_
      refine a_aload_n C 0 dX0_letterSet__13 rfl rfl ?_
      refine a_iload_n C 2 dX0_letterSet__14 rfl rfl ?_
      refine a_callVi C 1 [0, 1, 2] 0 cs_X0_67 hd_X0_letterSet ⟨rfl, rfl⟩ ⟨Nat.le_of_ble_eq_true rfl, Nat.le_of_ble_eq_true rfl⟩ (fun r h => c_X0_letterSet l D kc ki kb kl kd t t_letters t_sizes q_t_lettersF q_t_sizesF q_t_lines x2 r h) rfl rfl rfl (fun _ => rfl) rfl rfl rfl (Nat.le_of_ble_eq_true rfl) dX0_letterSet__15 ⟨Nat.zero_le _, Nat.zero_le _⟩ hF (fun r15_2 er15_2 hF => ?_)
      refine a_ws C (ws' := wX0 kc ki t t_letters t_sizes r15_2.2.1 r15_2.2.2.1 r15_2.2.2.2) rfl ?_
      refine a_ior C dX0_letterSet__18 ?_
      refine a_istore_n C [(1, .int (x1 ||| r15_2.1)), (0, .ref t), (2, .int x2)] dX0_letterSet__19 rfl (by decide) rfl ?_
      refine a_iinc C 2 [(2, .int (x2 + 1)), (1, .int (x1 ||| r15_2.1)), (0, .ref t)] dX0_letterSet__20 rfl rfl (by decide) rfl ?_
      refine a_goto C (tgt := 4) dX0_letterSet__23 (by decide) ?_
      refine a_sub C [2, 1, 0] [(0, .ref t), (1, .int (x1 ||| r15_2.1)), (2, .int (x2 + 1))] rfl ?_
      exact ih (x1 ||| r15_2.1) (x2 + 1) r15_2.2.1 r15_2.2.2.1 r15_2.2.2.2 k hF hX
  unfold f_X0_letterSet_ at hF
  refine a_iconst C (v := 0) dX0_letterSet__0 (by decide) ?_
  refine a_istore_n C [(1, .int 0), (0, .ref t)] dX0_letterSet__1 rfl (by decide) rfl ?_
  refine a_iconst C (v := 0) dX0_letterSet__2 (by decide) ?_
  refine a_istore_n C [(2, .int 0), (1, .int 0), (0, .ref t)] dX0_letterSet__3 rfl (by decide) rfl ?_
  refine a_sub C [2, 1, 0] [(0, .ref t), (1, .int 0), (2, .int 0)] rfl ?_
  refine hI4 1000 0 0 t_lettersF t_sizesF t_lines _ hF (fun x1_4_3 x2_4_4 q_t_lettersF_4_5 q_t_sizesF_4_6 q_t_lines_4_7 hF => ?_)
  refine a_iload_n C 0 dX0_letterSet__26 rfl rfl ?_
  exact a_iret C hr rfl dX0_letterSet__27 hF rfl rfl
end
