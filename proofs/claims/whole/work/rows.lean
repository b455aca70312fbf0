section
-- ===== PART A: goes FIRST, ahead of the names: the tables' words, and 'selects' of the private methods out of them =====
/-- a private method of a class that the tables say can be made, by its rows of tables_1 -/
def lw_okq (q : MethodName × Nat) : Prop := (q.1.cls ≠ "java/lang/invoke/MethodHandle" ∧ q.1.cls ≠ "java/lang/invoke/VarHandle") ∧ Cond.instantiable q.1.cls q.2 ∈ tables_1 ∧ Cond.privateMethod q.1 ∈ tables_1 ∧ Cond.instanceMethod q.1 ∈ tables_1
theorem lw_p0 : lw_okq (⟨"GuessFences", "noteNewWords", "()V"⟩, 12) := ⟨⟨by decide +kernel, by decide +kernel⟩, List.mem_of_getElem? (i := 33) (by decide +kernel), List.mem_of_getElem? (i := 343) (by decide +kernel), List.mem_of_getElem? (i := 344) (by decide +kernel)⟩
theorem lw_p1 : lw_okq (⟨"GuessFences", "hasWord", "(I)Z"⟩, 12) := ⟨⟨by decide +kernel, by decide +kernel⟩, List.mem_of_getElem? (i := 33) (by decide +kernel), List.mem_of_getElem? (i := 355) (by decide +kernel), List.mem_of_getElem? (i := 356) (by decide +kernel)⟩
theorem lw_p2 : lw_okq (⟨"GuessFences", "takeUp", "()I"⟩, 12) := ⟨⟨by decide +kernel, by decide +kernel⟩, List.mem_of_getElem? (i := 33) (by decide +kernel), List.mem_of_getElem? (i := 365) (by decide +kernel), List.mem_of_getElem? (i := 366) (by decide +kernel)⟩
theorem lw_p3 : lw_okq (⟨"java/lang/Throwable", "fillInStackTrace", "(I)Ljava/lang/Throwable;"⟩, 6) := ⟨⟨by decide +kernel, by decide +kernel⟩, List.mem_of_getElem? (i := 516) (by decide +kernel), List.mem_of_getElem? (i := 514) (by decide +kernel), List.mem_of_getElem? (i := 515) (by decide +kernel)⟩
theorem lw_p4 : lw_okq (⟨"GuessFences", "needLoaded", "()V"⟩, 12) := ⟨⟨by decide +kernel, by decide +kernel⟩, List.mem_of_getElem? (i := 33) (by decide +kernel), List.mem_of_getElem? (i := 552) (by decide +kernel), List.mem_of_getElem? (i := 553) (by decide +kernel)⟩
theorem lw_p5 : lw_okq (⟨"GuessFences", "needWord", "(I)V"⟩, 12) := ⟨⟨by decide +kernel, by decide +kernel⟩, List.mem_of_getElem? (i := 33) (by decide +kernel), List.mem_of_getElem? (i := 571) (by decide +kernel), List.mem_of_getElem? (i := 572) (by decide +kernel)⟩
theorem lw_p6 : lw_okq (⟨"GuessFences", "needAllResolved", "()V"⟩, 12) := ⟨⟨by decide +kernel, by decide +kernel⟩, List.mem_of_getElem? (i := 33) (by decide +kernel), List.mem_of_getElem? (i := 601) (by decide +kernel), List.mem_of_getElem? (i := 602) (by decide +kernel)⟩
theorem lw_p7 : lw_okq (⟨"GuessFences$Machine", "canRun", "()Z"⟩, 7) := ⟨⟨by decide +kernel, by decide +kernel⟩, List.mem_of_getElem? (i := 93) (by decide +kernel), List.mem_of_getElem? (i := 653) (by decide +kernel), List.mem_of_getElem? (i := 654) (by decide +kernel)⟩
theorem lw_p8 : lw_okq (⟨"GuessFences$Machine", "step", "()V"⟩, 7) := ⟨⟨by decide +kernel, by decide +kernel⟩, List.mem_of_getElem? (i := 93) (by decide +kernel), List.mem_of_getElem? (i := 661) (by decide +kernel), List.mem_of_getElem? (i := 662) (by decide +kernel)⟩
theorem lw_p9 : lw_okq (⟨"GuessFences$Machine", "compute", "(I)V"⟩, 7) := ⟨⟨by decide +kernel, by decide +kernel⟩, List.mem_of_getElem? (i := 93) (by decide +kernel), List.mem_of_getElem? (i := 665) (by decide +kernel), List.mem_of_getElem? (i := 666) (by decide +kernel)⟩
theorem lw_p10 : lw_okq (⟨"GuessFences$Machine", "fetch", "(I)V"⟩, 7) := ⟨⟨by decide +kernel, by decide +kernel⟩, List.mem_of_getElem? (i := 93) (by decide +kernel), List.mem_of_getElem? (i := 697) (by decide +kernel), List.mem_of_getElem? (i := 698) (by decide +kernel)⟩
theorem lw_p11 : lw_okq (⟨"GuessFences$Machine", "addressOf", "(I)I"⟩, 7) := ⟨⟨by decide +kernel, by decide +kernel⟩, List.mem_of_getElem? (i := 93) (by decide +kernel), List.mem_of_getElem? (i := 701) (by decide +kernel), List.mem_of_getElem? (i := 702) (by decide +kernel)⟩
theorem lw_p12 : lw_okq (⟨"GuessFences$Machine", "keep", "(I)V"⟩, 7) := ⟨⟨by decide +kernel, by decide +kernel⟩, List.mem_of_getElem? (i := 93) (by decide +kernel), List.mem_of_getElem? (i := 706) (by decide +kernel), List.mem_of_getElem? (i := 707) (by decide +kernel)⟩
theorem lw_p13 : lw_okq (⟨"GuessFences$Machine", "branchDestination", "(I)I"⟩, 7) := ⟨⟨by decide +kernel, by decide +kernel⟩, List.mem_of_getElem? (i := 93) (by decide +kernel), List.mem_of_getElem? (i := 711) (by decide +kernel), List.mem_of_getElem? (i := 712) (by decide +kernel)⟩
theorem lw_p14 : lw_okq (⟨"GuessFences$Machine", "goTo", "(I)V"⟩, 7) := ⟨⟨by decide +kernel, by decide +kernel⟩, List.mem_of_getElem? (i := 93) (by decide +kernel), List.mem_of_getElem? (i := 718) (by decide +kernel), List.mem_of_getElem? (i := 719) (by decide +kernel)⟩
theorem lw_p15 : lw_okq (⟨"GuessFences$Machine", "runAhead", "()I"⟩, 7) := ⟨⟨by decide +kernel, by decide +kernel⟩, List.mem_of_getElem? (i := 93) (by decide +kernel), List.mem_of_getElem? (i := 733) (by decide +kernel), List.mem_of_getElem? (i := 734) (by decide +kernel)⟩
def lw_privs_1 : List (MethodName × Nat) := [(⟨"GuessFences", "noteNewWords", "()V"⟩, 12), (⟨"GuessFences", "hasWord", "(I)Z"⟩, 12), (⟨"GuessFences", "takeUp", "()I"⟩, 12), (⟨"java/lang/Throwable", "fillInStackTrace", "(I)Ljava/lang/Throwable;"⟩, 6), (⟨"GuessFences", "needLoaded", "()V"⟩, 12), (⟨"GuessFences", "needWord", "(I)V"⟩, 12), (⟨"GuessFences", "needAllResolved", "()V"⟩, 12), (⟨"GuessFences$Machine", "canRun", "()Z"⟩, 7), (⟨"GuessFences$Machine", "step", "()V"⟩, 7), (⟨"GuessFences$Machine", "compute", "(I)V"⟩, 7), (⟨"GuessFences$Machine", "fetch", "(I)V"⟩, 7), (⟨"GuessFences$Machine", "addressOf", "(I)I"⟩, 7), (⟨"GuessFences$Machine", "keep", "(I)V"⟩, 7), (⟨"GuessFences$Machine", "branchDestination", "(I)I"⟩, 7), (⟨"GuessFences$Machine", "goTo", "(I)V"⟩, 7), (⟨"GuessFences$Machine", "runAhead", "()I"⟩, 7)]
theorem lw_r1 : ∀ q ∈ lw_privs_1, lw_okq q := List.forall_mem_cons.mpr ⟨lw_p0, List.forall_mem_cons.mpr ⟨lw_p1, List.forall_mem_cons.mpr ⟨lw_p2, List.forall_mem_cons.mpr ⟨lw_p3, List.forall_mem_cons.mpr ⟨lw_p4, List.forall_mem_cons.mpr ⟨lw_p5, List.forall_mem_cons.mpr ⟨lw_p6, List.forall_mem_cons.mpr ⟨lw_p7, List.forall_mem_cons.mpr ⟨lw_p8, List.forall_mem_cons.mpr ⟨lw_p9, List.forall_mem_cons.mpr ⟨lw_p10, List.forall_mem_cons.mpr ⟨lw_p11, List.forall_mem_cons.mpr ⟨lw_p12, List.forall_mem_cons.mpr ⟨lw_p13, List.forall_mem_cons.mpr ⟨lw_p14, List.forall_mem_cons.mpr ⟨lw_p15, fun _ h => absurd h List.not_mem_nil⟩⟩⟩⟩⟩⟩⟩⟩⟩⟩⟩⟩⟩⟩⟩⟩
theorem lw_p16 : lw_okq (⟨"GuessFences$Machine", "windowIsFull", "()Z"⟩, 7) := ⟨⟨by decide +kernel, by decide +kernel⟩, List.mem_of_getElem? (i := 93) (by decide +kernel), List.mem_of_getElem? (i := 741) (by decide +kernel), List.mem_of_getElem? (i := 742) (by decide +kernel)⟩
theorem lw_p17 : lw_okq (⟨"GuessFences$Machine", "guess", "(Z)I"⟩, 7) := ⟨⟨by decide +kernel, by decide +kernel⟩, List.mem_of_getElem? (i := 93) (by decide +kernel), List.mem_of_getElem? (i := 753) (by decide +kernel), List.mem_of_getElem? (i := 754) (by decide +kernel)⟩
theorem lw_p18 : lw_okq (⟨"GuessFences$Machine", "resolve", "()I"⟩, 7) := ⟨⟨by decide +kernel, by decide +kernel⟩, List.mem_of_getElem? (i := 93) (by decide +kernel), List.mem_of_getElem? (i := 768) (by decide +kernel), List.mem_of_getElem? (i := 769) (by decide +kernel)⟩
theorem lw_p19 : lw_okq (⟨"GuessFences", "study", "()V"⟩, 12) := ⟨⟨by decide +kernel, by decide +kernel⟩, List.mem_of_getElem? (i := 33) (by decide +kernel), List.mem_of_getElem? (i := 822) (by decide +kernel), List.mem_of_getElem? (i := 823) (by decide +kernel)⟩
theorem lw_p20 : lw_okq (⟨"GuessFences$Taint", "prepare", "()V"⟩, 11) := ⟨⟨by decide +kernel, by decide +kernel⟩, List.mem_of_getElem? (i := 198) (by decide +kernel), List.mem_of_getElem? (i := 830) (by decide +kernel), List.mem_of_getElem? (i := 831) (by decide +kernel)⟩
theorem lw_p21 : lw_okq (⟨"GuessFences$Taint", "markGuessed", "()V"⟩, 11) := ⟨⟨by decide +kernel, by decide +kernel⟩, List.mem_of_getElem? (i := 198) (by decide +kernel), List.mem_of_getElem? (i := 843) (by decide +kernel), List.mem_of_getElem? (i := 844) (by decide +kernel)⟩
theorem lw_p22 : lw_okq (⟨"GuessFences$Taint", "addGuessedNexts", "(I)V"⟩, 11) := ⟨⟨by decide +kernel, by decide +kernel⟩, List.mem_of_getElem? (i := 198) (by decide +kernel), List.mem_of_getElem? (i := 847) (by decide +kernel), List.mem_of_getElem? (i := 848) (by decide +kernel)⟩
theorem lw_p23 : lw_okq (⟨"GuessFences$Taint", "addGuessed", "(I)V"⟩, 11) := ⟨⟨by decide +kernel, by decide +kernel⟩, List.mem_of_getElem? (i := 198) (by decide +kernel), List.mem_of_getElem? (i := 855) (by decide +kernel), List.mem_of_getElem? (i := 856) (by decide +kernel)⟩
theorem lw_p24 : lw_okq (⟨"GuessFences$Taint", "addResult", "(I)V"⟩, 11) := ⟨⟨by decide +kernel, by decide +kernel⟩, List.mem_of_getElem? (i := 198) (by decide +kernel), List.mem_of_getElem? (i := 863) (by decide +kernel), List.mem_of_getElem? (i := 864) (by decide +kernel)⟩
theorem lw_p25 : lw_okq (⟨"GuessFences$Taint", "passOn", "(I)V"⟩, 11) := ⟨⟨by decide +kernel, by decide +kernel⟩, List.mem_of_getElem? (i := 198) (by decide +kernel), List.mem_of_getElem? (i := 867) (by decide +kernel), List.mem_of_getElem? (i := 868) (by decide +kernel)⟩
theorem lw_p26 : lw_okq (⟨"GuessFences$Reach", "follow", "(II)V"⟩, 6) := ⟨⟨by decide +kernel, by decide +kernel⟩, List.mem_of_getElem? (i := 173) (by decide +kernel), List.mem_of_getElem? (i := 1154) (by decide +kernel), List.mem_of_getElem? (i := 1155) (by decide +kernel)⟩
theorem lw_p27 : lw_okq (⟨"GuessFences$Reach", "addNexts", "(II)V"⟩, 6) := ⟨⟨by decide +kernel, by decide +kernel⟩, List.mem_of_getElem? (i := 173) (by decide +kernel), List.mem_of_getElem? (i := 1158) (by decide +kernel), List.mem_of_getElem? (i := 1159) (by decide +kernel)⟩
theorem lw_p28 : lw_okq (⟨"GuessFences$Reach", "addOnce", "(II)V"⟩, 6) := ⟨⟨by decide +kernel, by decide +kernel⟩, List.mem_of_getElem? (i := 173) (by decide +kernel), List.mem_of_getElem? (i := 1163) (by decide +kernel), List.mem_of_getElem? (i := 1164) (by decide +kernel)⟩
theorem lw_p29 : lw_okq (⟨"GuessFences$Taint", "expose", "(I)V"⟩, 11) := ⟨⟨by decide +kernel, by decide +kernel⟩, List.mem_of_getElem? (i := 198) (by decide +kernel), List.mem_of_getElem? (i := 1183) (by decide +kernel), List.mem_of_getElem? (i := 1184) (by decide +kernel)⟩
theorem lw_p30 : lw_okq (⟨"GuessFences$Taint", "addExposed", "(I)V"⟩, 11) := ⟨⟨by decide +kernel, by decide +kernel⟩, List.mem_of_getElem? (i := 198) (by decide +kernel), List.mem_of_getElem? (i := 1193) (by decide +kernel), List.mem_of_getElem? (i := 1194) (by decide +kernel)⟩
theorem lw_p31 : lw_okq (⟨"GuessFences$Cut", "prepare", "()V"⟩, 9) := ⟨⟨by decide +kernel, by decide +kernel⟩, List.mem_of_getElem? (i := 247) (by decide +kernel), List.mem_of_getElem? (i := 1201) (by decide +kernel), List.mem_of_getElem? (i := 1202) (by decide +kernel)⟩
def lw_privs_2 : List (MethodName × Nat) := [(⟨"GuessFences$Machine", "windowIsFull", "()Z"⟩, 7), (⟨"GuessFences$Machine", "guess", "(Z)I"⟩, 7), (⟨"GuessFences$Machine", "resolve", "()I"⟩, 7), (⟨"GuessFences", "study", "()V"⟩, 12), (⟨"GuessFences$Taint", "prepare", "()V"⟩, 11), (⟨"GuessFences$Taint", "markGuessed", "()V"⟩, 11), (⟨"GuessFences$Taint", "addGuessedNexts", "(I)V"⟩, 11), (⟨"GuessFences$Taint", "addGuessed", "(I)V"⟩, 11), (⟨"GuessFences$Taint", "addResult", "(I)V"⟩, 11), (⟨"GuessFences$Taint", "passOn", "(I)V"⟩, 11), (⟨"GuessFences$Reach", "follow", "(II)V"⟩, 6), (⟨"GuessFences$Reach", "addNexts", "(II)V"⟩, 6), (⟨"GuessFences$Reach", "addOnce", "(II)V"⟩, 6), (⟨"GuessFences$Taint", "expose", "(I)V"⟩, 11), (⟨"GuessFences$Taint", "addExposed", "(I)V"⟩, 11), (⟨"GuessFences$Cut", "prepare", "()V"⟩, 9)]
theorem lw_r2 : ∀ q ∈ lw_privs_2, lw_okq q := List.forall_mem_cons.mpr ⟨lw_p16, List.forall_mem_cons.mpr ⟨lw_p17, List.forall_mem_cons.mpr ⟨lw_p18, List.forall_mem_cons.mpr ⟨lw_p19, List.forall_mem_cons.mpr ⟨lw_p20, List.forall_mem_cons.mpr ⟨lw_p21, List.forall_mem_cons.mpr ⟨lw_p22, List.forall_mem_cons.mpr ⟨lw_p23, List.forall_mem_cons.mpr ⟨lw_p24, List.forall_mem_cons.mpr ⟨lw_p25, List.forall_mem_cons.mpr ⟨lw_p26, List.forall_mem_cons.mpr ⟨lw_p27, List.forall_mem_cons.mpr ⟨lw_p28, List.forall_mem_cons.mpr ⟨lw_p29, List.forall_mem_cons.mpr ⟨lw_p30, List.forall_mem_cons.mpr ⟨lw_p31, fun _ h => absurd h List.not_mem_nil⟩⟩⟩⟩⟩⟩⟩⟩⟩⟩⟩⟩⟩⟩⟩⟩
theorem lw_p32 : lw_okq (⟨"GuessFences$Cut", "openEntrance", "(I)V"⟩, 9) := ⟨⟨by decide +kernel, by decide +kernel⟩, List.mem_of_getElem? (i := 247) (by decide +kernel), List.mem_of_getElem? (i := 1207) (by decide +kernel), List.mem_of_getElem? (i := 1208) (by decide +kernel)⟩
theorem lw_p33 : lw_okq (⟨"GuessFences$Cut", "addPathFrom", "(I)V"⟩, 9) := ⟨⟨by decide +kernel, by decide +kernel⟩, List.mem_of_getElem? (i := 247) (by decide +kernel), List.mem_of_getElem? (i := 1211) (by decide +kernel), List.mem_of_getElem? (i := 1212) (by decide +kernel)⟩
theorem lw_p34 : lw_okq (⟨"GuessFences$Cut", "search", "(I)I"⟩, 9) := ⟨⟨by decide +kernel, by decide +kernel⟩, List.mem_of_getElem? (i := 247) (by decide +kernel), List.mem_of_getElem? (i := 1215) (by decide +kernel), List.mem_of_getElem? (i := 1216) (by decide +kernel)⟩
theorem lw_p35 : lw_okq (⟨"GuessFences$Cut", "see", "(II)V"⟩, 9) := ⟨⟨by decide +kernel, by decide +kernel⟩, List.mem_of_getElem? (i := 247) (by decide +kernel), List.mem_of_getElem? (i := 1219) (by decide +kernel), List.mem_of_getElem? (i := 1220) (by decide +kernel)⟩
theorem lw_p36 : lw_okq (⟨"GuessFences$Cut", "leaveExit", "(I)V"⟩, 9) := ⟨⟨by decide +kernel, by decide +kernel⟩, List.mem_of_getElem? (i := 247) (by decide +kernel), List.mem_of_getElem? (i := 1224) (by decide +kernel), List.mem_of_getElem? (i := 1225) (by decide +kernel)⟩
theorem lw_p37 : lw_okq (⟨"GuessFences$Cut", "leaveEntrance", "(I)V"⟩, 9) := ⟨⟨by decide +kernel, by decide +kernel⟩, List.mem_of_getElem? (i := 247) (by decide +kernel), List.mem_of_getElem? (i := 1229) (by decide +kernel), List.mem_of_getElem? (i := 1230) (by decide +kernel)⟩
theorem lw_p38 : lw_okq (⟨"GuessFences$Cut", "layPath", "(II)V"⟩, 9) := ⟨⟨by decide +kernel, by decide +kernel⟩, List.mem_of_getElem? (i := 247) (by decide +kernel), List.mem_of_getElem? (i := 1233) (by decide +kernel), List.mem_of_getElem? (i := 1234) (by decide +kernel)⟩
theorem lw_p39 : lw_okq (⟨"GuessFences$Cut", "forgetSearch", "()V"⟩, 9) := ⟨⟨by decide +kernel, by decide +kernel⟩, List.mem_of_getElem? (i := 247) (by decide +kernel), List.mem_of_getElem? (i := 1237) (by decide +kernel), List.mem_of_getElem? (i := 1238) (by decide +kernel)⟩
theorem lw_p40 : lw_okq (⟨"GuessFences$Cut", "markIfCut", "(I)V"⟩, 9) := ⟨⟨by decide +kernel, by decide +kernel⟩, List.mem_of_getElem? (i := 247) (by decide +kernel), List.mem_of_getElem? (i := 1241) (by decide +kernel), List.mem_of_getElem? (i := 1242) (by decide +kernel)⟩
theorem lw_p41 : lw_okq (⟨"GuessFences$Rewriter", "isCut", "(I)Z"⟩, 4) := ⟨⟨by decide +kernel, by decide +kernel⟩, List.mem_of_getElem? (i := 282) (by decide +kernel), List.mem_of_getElem? (i := 1282) (by decide +kernel), List.mem_of_getElem? (i := 1283) (by decide +kernel)⟩
theorem lw_p42 : lw_okq (⟨"GuessFences$Rewriter", "newOffset", "(I)I"⟩, 4) := ⟨⟨by decide +kernel, by decide +kernel⟩, List.mem_of_getElem? (i := 282) (by decide +kernel), List.mem_of_getElem? (i := 1286) (by decide +kernel), List.mem_of_getElem? (i := 1287) (by decide +kernel)⟩
theorem lw_p43 : lw_okq (⟨"GuessFences$Rewriter", "newWord", "(II)I"⟩, 4) := ⟨⟨by decide +kernel, by decide +kernel⟩, List.mem_of_getElem? (i := 282) (by decide +kernel), List.mem_of_getElem? (i := 1297) (by decide +kernel), List.mem_of_getElem? (i := 1298) (by decide +kernel)⟩
theorem lw_p44 : lw_okq (⟨"GuessFencesModel", "changed", "()V"⟩, 38) := ⟨⟨by decide +kernel, by decide +kernel⟩, List.mem_of_getElem? (i := 1316) (by decide +kernel), List.mem_of_getElem? (i := 1446) (by decide +kernel), List.mem_of_getElem? (i := 1447) (by decide +kernel)⟩
theorem lw_p45 : lw_okq (⟨"GuessFencesModel", "faultOf", "(I)I"⟩, 38) := ⟨⟨by decide +kernel, by decide +kernel⟩, List.mem_of_getElem? (i := 1316) (by decide +kernel), List.mem_of_getElem? (i := 1469) (by decide +kernel), List.mem_of_getElem? (i := 1470) (by decide +kernel)⟩
theorem lw_p46 : lw_okq (⟨"GuessFencesModel", "kind", "(I)I"⟩, 38) := ⟨⟨by decide +kernel, by decide +kernel⟩, List.mem_of_getElem? (i := 1316) (by decide +kernel), List.mem_of_getElem? (i := 1476) (by decide +kernel), List.mem_of_getElem? (i := 1477) (by decide +kernel)⟩
theorem lw_p47 : lw_okq (⟨"GuessFencesModel", "target", "(I)I"⟩, 38) := ⟨⟨by decide +kernel, by decide +kernel⟩, List.mem_of_getElem? (i := 1316) (by decide +kernel), List.mem_of_getElem? (i := 1492) (by decide +kernel), List.mem_of_getElem? (i := 1493) (by decide +kernel)⟩
def lw_privs_3 : List (MethodName × Nat) := [(⟨"GuessFences$Cut", "openEntrance", "(I)V"⟩, 9), (⟨"GuessFences$Cut", "addPathFrom", "(I)V"⟩, 9), (⟨"GuessFences$Cut", "search", "(I)I"⟩, 9), (⟨"GuessFences$Cut", "see", "(II)V"⟩, 9), (⟨"GuessFences$Cut", "leaveExit", "(I)V"⟩, 9), (⟨"GuessFences$Cut", "leaveEntrance", "(I)V"⟩, 9), (⟨"GuessFences$Cut", "layPath", "(II)V"⟩, 9), (⟨"GuessFences$Cut", "forgetSearch", "()V"⟩, 9), (⟨"GuessFences$Cut", "markIfCut", "(I)V"⟩, 9), (⟨"GuessFences$Rewriter", "isCut", "(I)Z"⟩, 4), (⟨"GuessFences$Rewriter", "newOffset", "(I)I"⟩, 4), (⟨"GuessFences$Rewriter", "newWord", "(II)I"⟩, 4), (⟨"GuessFencesModel", "changed", "()V"⟩, 38), (⟨"GuessFencesModel", "faultOf", "(I)I"⟩, 38), (⟨"GuessFencesModel", "kind", "(I)I"⟩, 38), (⟨"GuessFencesModel", "target", "(I)I"⟩, 38)]
theorem lw_r3 : ∀ q ∈ lw_privs_3, lw_okq q := List.forall_mem_cons.mpr ⟨lw_p32, List.forall_mem_cons.mpr ⟨lw_p33, List.forall_mem_cons.mpr ⟨lw_p34, List.forall_mem_cons.mpr ⟨lw_p35, List.forall_mem_cons.mpr ⟨lw_p36, List.forall_mem_cons.mpr ⟨lw_p37, List.forall_mem_cons.mpr ⟨lw_p38, List.forall_mem_cons.mpr ⟨lw_p39, List.forall_mem_cons.mpr ⟨lw_p40, List.forall_mem_cons.mpr ⟨lw_p41, List.forall_mem_cons.mpr ⟨lw_p42, List.forall_mem_cons.mpr ⟨lw_p43, List.forall_mem_cons.mpr ⟨lw_p44, List.forall_mem_cons.mpr ⟨lw_p45, List.forall_mem_cons.mpr ⟨lw_p46, List.forall_mem_cons.mpr ⟨lw_p47, fun _ h => absurd h List.not_mem_nil⟩⟩⟩⟩⟩⟩⟩⟩⟩⟩⟩⟩⟩⟩⟩⟩
theorem lw_p48 : lw_okq (⟨"GuessFencesModel", "begin", "()V"⟩, 38) := ⟨⟨by decide +kernel, by decide +kernel⟩, List.mem_of_getElem? (i := 1316) (by decide +kernel), List.mem_of_getElem? (i := 1496) (by decide +kernel), List.mem_of_getElem? (i := 1497) (by decide +kernel)⟩
theorem lw_p49 : lw_okq (⟨"GuessFencesModel", "isAt", "(I)Z"⟩, 38) := ⟨⟨by decide +kernel, by decide +kernel⟩, List.mem_of_getElem? (i := 1316) (by decide +kernel), List.mem_of_getElem? (i := 1508) (by decide +kernel), List.mem_of_getElem? (i := 1509) (by decide +kernel)⟩
theorem lw_p50 : lw_okq (⟨"GuessFencesModel", "result", "(I)I"⟩, 38) := ⟨⟨by decide +kernel, by decide +kernel⟩, List.mem_of_getElem? (i := 1316) (by decide +kernel), List.mem_of_getElem? (i := 1512) (by decide +kernel), List.mem_of_getElem? (i := 1513) (by decide +kernel)⟩
theorem lw_p51 : lw_okq (⟨"GuessFencesModel", "first", "(I)I"⟩, 38) := ⟨⟨by decide +kernel, by decide +kernel⟩, List.mem_of_getElem? (i := 1316) (by decide +kernel), List.mem_of_getElem? (i := 1516) (by decide +kernel), List.mem_of_getElem? (i := 1517) (by decide +kernel)⟩
theorem lw_p52 : lw_okq (⟨"GuessFencesModel", "second", "(I)I"⟩, 38) := ⟨⟨by decide +kernel, by decide +kernel⟩, List.mem_of_getElem? (i := 1316) (by decide +kernel), List.mem_of_getElem? (i := 1523) (by decide +kernel), List.mem_of_getElem? (i := 1524) (by decide +kernel)⟩
theorem lw_p53 : lw_okq (⟨"GuessFencesModel", "number", "(I)I"⟩, 38) := ⟨⟨by decide +kernel, by decide +kernel⟩, List.mem_of_getElem? (i := 1316) (by decide +kernel), List.mem_of_getElem? (i := 1530) (by decide +kernel), List.mem_of_getElem? (i := 1531) (by decide +kernel)⟩
theorem lw_p54 : lw_okq (⟨"GuessFencesModel", "write", "(III)V"⟩, 38) := ⟨⟨by decide +kernel, by decide +kernel⟩, List.mem_of_getElem? (i := 1316) (by decide +kernel), List.mem_of_getElem? (i := 1546) (by decide +kernel), List.mem_of_getElem? (i := 1547) (by decide +kernel)⟩
theorem lw_p55 : lw_okq (⟨"GuessFencesModel", "read", "(II)I"⟩, 38) := ⟨⟨by decide +kernel, by decide +kernel⟩, List.mem_of_getElem? (i := 1316) (by decide +kernel), List.mem_of_getElem? (i := 1554) (by decide +kernel), List.mem_of_getElem? (i := 1555) (by decide +kernel)⟩
theorem lw_p56 : lw_okq (⟨"GuessFencesModel", "runOne", "()V"⟩, 38) := ⟨⟨by decide +kernel, by decide +kernel⟩, List.mem_of_getElem? (i := 1316) (by decide +kernel), List.mem_of_getElem? (i := 1562) (by decide +kernel), List.mem_of_getElem? (i := 1563) (by decide +kernel)⟩
theorem lw_p57 : lw_okq (⟨"GuessFencesModel", "reg", "(I)I"⟩, 38) := ⟨⟨by decide +kernel, by decide +kernel⟩, List.mem_of_getElem? (i := 1316) (by decide +kernel), List.mem_of_getElem? (i := 1566) (by decide +kernel), List.mem_of_getElem? (i := 1567) (by decide +kernel)⟩
theorem lw_p58 : lw_okq (⟨"GuessFencesModel", "tell", "(II)V"⟩, 38) := ⟨⟨by decide +kernel, by decide +kernel⟩, List.mem_of_getElem? (i := 1316) (by decide +kernel), List.mem_of_getElem? (i := 1580) (by decide +kernel), List.mem_of_getElem? (i := 1581) (by decide +kernel)⟩
theorem lw_p59 : lw_okq (⟨"GuessFencesModel", "loadedValue", "(II)I"⟩, 38) := ⟨⟨by decide +kernel, by decide +kernel⟩, List.mem_of_getElem? (i := 1316) (by decide +kernel), List.mem_of_getElem? (i := 1587) (by decide +kernel), List.mem_of_getElem? (i := 1588) (by decide +kernel)⟩
theorem lw_p60 : lw_okq (⟨"GuessFencesModel", "goal", "(III)I"⟩, 38) := ⟨⟨by decide +kernel, by decide +kernel⟩, List.mem_of_getElem? (i := 1316) (by decide +kernel), List.mem_of_getElem? (i := 1591) (by decide +kernel), List.mem_of_getElem? (i := 1592) (by decide +kernel)⟩
theorem lw_p61 : lw_okq (⟨"GuessFencesModel", "resolve", "()I"⟩, 38) := ⟨⟨by decide +kernel, by decide +kernel⟩, List.mem_of_getElem? (i := 1316) (by decide +kernel), List.mem_of_getElem? (i := 1599) (by decide +kernel), List.mem_of_getElem? (i := 1600) (by decide +kernel)⟩
theorem lw_p62 : lw_okq (⟨"GuessFencesModel", "guess", "(Z)I"⟩, 38) := ⟨⟨by decide +kernel, by decide +kernel⟩, List.mem_of_getElem? (i := 1316) (by decide +kernel), List.mem_of_getElem? (i := 1603) (by decide +kernel), List.mem_of_getElem? (i := 1604) (by decide +kernel)⟩
theorem lw_p63 : lw_okq (⟨"GuessFencesModel", "goesTooFar", "()Z"⟩, 38) := ⟨⟨by decide +kernel, by decide +kernel⟩, List.mem_of_getElem? (i := 1316) (by decide +kernel), List.mem_of_getElem? (i := 1607) (by decide +kernel), List.mem_of_getElem? (i := 1608) (by decide +kernel)⟩
def lw_privs_4 : List (MethodName × Nat) := [(⟨"GuessFencesModel", "begin", "()V"⟩, 38), (⟨"GuessFencesModel", "isAt", "(I)Z"⟩, 38), (⟨"GuessFencesModel", "result", "(I)I"⟩, 38), (⟨"GuessFencesModel", "first", "(I)I"⟩, 38), (⟨"GuessFencesModel", "second", "(I)I"⟩, 38), (⟨"GuessFencesModel", "number", "(I)I"⟩, 38), (⟨"GuessFencesModel", "write", "(III)V"⟩, 38), (⟨"GuessFencesModel", "read", "(II)I"⟩, 38), (⟨"GuessFencesModel", "runOne", "()V"⟩, 38), (⟨"GuessFencesModel", "reg", "(I)I"⟩, 38), (⟨"GuessFencesModel", "tell", "(II)V"⟩, 38), (⟨"GuessFencesModel", "loadedValue", "(II)I"⟩, 38), (⟨"GuessFencesModel", "goal", "(III)I"⟩, 38), (⟨"GuessFencesModel", "resolve", "()I"⟩, 38), (⟨"GuessFencesModel", "guess", "(Z)I"⟩, 38), (⟨"GuessFencesModel", "goesTooFar", "()Z"⟩, 38)]
theorem lw_r4 : ∀ q ∈ lw_privs_4, lw_okq q := List.forall_mem_cons.mpr ⟨lw_p48, List.forall_mem_cons.mpr ⟨lw_p49, List.forall_mem_cons.mpr ⟨lw_p50, List.forall_mem_cons.mpr ⟨lw_p51, List.forall_mem_cons.mpr ⟨lw_p52, List.forall_mem_cons.mpr ⟨lw_p53, List.forall_mem_cons.mpr ⟨lw_p54, List.forall_mem_cons.mpr ⟨lw_p55, List.forall_mem_cons.mpr ⟨lw_p56, List.forall_mem_cons.mpr ⟨lw_p57, List.forall_mem_cons.mpr ⟨lw_p58, List.forall_mem_cons.mpr ⟨lw_p59, List.forall_mem_cons.mpr ⟨lw_p60, List.forall_mem_cons.mpr ⟨lw_p61, List.forall_mem_cons.mpr ⟨lw_p62, List.forall_mem_cons.mpr ⟨lw_p63, fun _ h => absurd h List.not_mem_nil⟩⟩⟩⟩⟩⟩⟩⟩⟩⟩⟩⟩⟩⟩⟩⟩
theorem lw_p64 : lw_okq (⟨"GuessFencesModel", "distance", "()I"⟩, 38) := ⟨⟨by decide +kernel, by decide +kernel⟩, List.mem_of_getElem? (i := 1316) (by decide +kernel), List.mem_of_getElem? (i := 1611) (by decide +kernel), List.mem_of_getElem? (i := 1612) (by decide +kernel)⟩
theorem lw_p65 : lw_okq (⟨"GuessFencesModel", "know", "()V"⟩, 38) := ⟨⟨by decide +kernel, by decide +kernel⟩, List.mem_of_getElem? (i := 1316) (by decide +kernel), List.mem_of_getElem? (i := 1635) (by decide +kernel), List.mem_of_getElem? (i := 1636) (by decide +kernel)⟩
theorem lw_p66 : lw_okq (⟨"GuessFencesModel", "findGuessed", "()V"⟩, 38) := ⟨⟨by decide +kernel, by decide +kernel⟩, List.mem_of_getElem? (i := 1316) (by decide +kernel), List.mem_of_getElem? (i := 1639) (by decide +kernel), List.mem_of_getElem? (i := 1640) (by decide +kernel)⟩
theorem lw_p67 : lw_okq (⟨"GuessFencesModel", "goOn", "(I)V"⟩, 38) := ⟨⟨by decide +kernel, by decide +kernel⟩, List.mem_of_getElem? (i := 1316) (by decide +kernel), List.mem_of_getElem? (i := 1643) (by decide +kernel), List.mem_of_getElem? (i := 1644) (by decide +kernel)⟩
theorem lw_p68 : lw_okq (⟨"GuessFencesModel", "visit", "(I)V"⟩, 38) := ⟨⟨by decide +kernel, by decide +kernel⟩, List.mem_of_getElem? (i := 1316) (by decide +kernel), List.mem_of_getElem? (i := 1647) (by decide +kernel), List.mem_of_getElem? (i := 1648) (by decide +kernel)⟩
theorem lw_p69 : lw_okq (⟨"GuessFencesModel", "findReach", "(I)V"⟩, 38) := ⟨⟨by decide +kernel, by decide +kernel⟩, List.mem_of_getElem? (i := 1316) (by decide +kernel), List.mem_of_getElem? (i := 1651) (by decide +kernel), List.mem_of_getElem? (i := 1652) (by decide +kernel)⟩
theorem lw_p70 : lw_okq (⟨"GuessFencesModel", "turn", "([III)V"⟩, 38) := ⟨⟨by decide +kernel, by decide +kernel⟩, List.mem_of_getElem? (i := 1316) (by decide +kernel), List.mem_of_getElem? (i := 1655) (by decide +kernel), List.mem_of_getElem? (i := 1656) (by decide +kernel)⟩
theorem lw_p71 : lw_okq (⟨"GuessFencesModel", "findTaint", "()V"⟩, 38) := ⟨⟨by decide +kernel, by decide +kernel⟩, List.mem_of_getElem? (i := 1316) (by decide +kernel), List.mem_of_getElem? (i := 1659) (by decide +kernel), List.mem_of_getElem? (i := 1660) (by decide +kernel)⟩
theorem lw_p72 : lw_okq (⟨"GuessFencesModel", "has", "([III)Z"⟩, 38) := ⟨⟨by decide +kernel, by decide +kernel⟩, List.mem_of_getElem? (i := 1316) (by decide +kernel), List.mem_of_getElem? (i := 1663) (by decide +kernel), List.mem_of_getElem? (i := 1664) (by decide +kernel)⟩
theorem lw_p73 : lw_okq (⟨"GuessFencesModel", "findExposed", "()V"⟩, 38) := ⟨⟨by decide +kernel, by decide +kernel⟩, List.mem_of_getElem? (i := 1316) (by decide +kernel), List.mem_of_getElem? (i := 1667) (by decide +kernel), List.mem_of_getElem? (i := 1668) (by decide +kernel)⟩
theorem lw_p74 : lw_okq (⟨"GuessFencesModel", "betrays", "(II)Z"⟩, 38) := ⟨⟨by decide +kernel, by decide +kernel⟩, List.mem_of_getElem? (i := 1316) (by decide +kernel), List.mem_of_getElem? (i := 1671) (by decide +kernel), List.mem_of_getElem? (i := 1672) (by decide +kernel)⟩
theorem lw_p75 : lw_okq (⟨"GuessFencesModel", "findCut", "()V"⟩, 38) := ⟨⟨by decide +kernel, by decide +kernel⟩, List.mem_of_getElem? (i := 1316) (by decide +kernel), List.mem_of_getElem? (i := 1678) (by decide +kernel), List.mem_of_getElem? (i := 1679) (by decide +kernel)⟩
theorem lw_p76 : lw_okq (⟨"GuessFencesModel", "search", "()I"⟩, 38) := ⟨⟨by decide +kernel, by decide +kernel⟩, List.mem_of_getElem? (i := 1316) (by decide +kernel), List.mem_of_getElem? (i := 1682) (by decide +kernel), List.mem_of_getElem? (i := 1683) (by decide +kernel)⟩
theorem lw_p77 : lw_okq (⟨"GuessFencesModel", "find", "(II)V"⟩, 38) := ⟨⟨by decide +kernel, by decide +kernel⟩, List.mem_of_getElem? (i := 1316) (by decide +kernel), List.mem_of_getElem? (i := 1686) (by decide +kernel), List.mem_of_getElem? (i := 1687) (by decide +kernel)⟩
theorem lw_p78 : lw_okq (⟨"GuessFencesModel", "findFromEntry", "(I)V"⟩, 38) := ⟨⟨by decide +kernel, by decide +kernel⟩, List.mem_of_getElem? (i := 1316) (by decide +kernel), List.mem_of_getElem? (i := 1690) (by decide +kernel), List.mem_of_getElem? (i := 1691) (by decide +kernel)⟩
theorem lw_p79 : lw_okq (⟨"GuessFencesModel", "findFromExit", "(I)V"⟩, 38) := ⟨⟨by decide +kernel, by decide +kernel⟩, List.mem_of_getElem? (i := 1316) (by decide +kernel), List.mem_of_getElem? (i := 1694) (by decide +kernel), List.mem_of_getElem? (i := 1695) (by decide +kernel)⟩
def lw_privs_5 : List (MethodName × Nat) := [(⟨"GuessFencesModel", "distance", "()I"⟩, 38), (⟨"GuessFencesModel", "know", "()V"⟩, 38), (⟨"GuessFencesModel", "findGuessed", "()V"⟩, 38), (⟨"GuessFencesModel", "goOn", "(I)V"⟩, 38), (⟨"GuessFencesModel", "visit", "(I)V"⟩, 38), (⟨"GuessFencesModel", "findReach", "(I)V"⟩, 38), (⟨"GuessFencesModel", "turn", "([III)V"⟩, 38), (⟨"GuessFencesModel", "findTaint", "()V"⟩, 38), (⟨"GuessFencesModel", "has", "([III)Z"⟩, 38), (⟨"GuessFencesModel", "findExposed", "()V"⟩, 38), (⟨"GuessFencesModel", "betrays", "(II)Z"⟩, 38), (⟨"GuessFencesModel", "findCut", "()V"⟩, 38), (⟨"GuessFencesModel", "search", "()I"⟩, 38), (⟨"GuessFencesModel", "find", "(II)V"⟩, 38), (⟨"GuessFencesModel", "findFromEntry", "(I)V"⟩, 38), (⟨"GuessFencesModel", "findFromExit", "(I)V"⟩, 38)]
theorem lw_r5 : ∀ q ∈ lw_privs_5, lw_okq q := List.forall_mem_cons.mpr ⟨lw_p64, List.forall_mem_cons.mpr ⟨lw_p65, List.forall_mem_cons.mpr ⟨lw_p66, List.forall_mem_cons.mpr ⟨lw_p67, List.forall_mem_cons.mpr ⟨lw_p68, List.forall_mem_cons.mpr ⟨lw_p69, List.forall_mem_cons.mpr ⟨lw_p70, List.forall_mem_cons.mpr ⟨lw_p71, List.forall_mem_cons.mpr ⟨lw_p72, List.forall_mem_cons.mpr ⟨lw_p73, List.forall_mem_cons.mpr ⟨lw_p74, List.forall_mem_cons.mpr ⟨lw_p75, List.forall_mem_cons.mpr ⟨lw_p76, List.forall_mem_cons.mpr ⟨lw_p77, List.forall_mem_cons.mpr ⟨lw_p78, List.forall_mem_cons.mpr ⟨lw_p79, fun _ h => absurd h List.not_mem_nil⟩⟩⟩⟩⟩⟩⟩⟩⟩⟩⟩⟩⟩⟩⟩⟩
theorem lw_p80 : lw_okq (⟨"GuessFencesModel", "carry", "(I)V"⟩, 38) := ⟨⟨by decide +kernel, by decide +kernel⟩, List.mem_of_getElem? (i := 1316) (by decide +kernel), List.mem_of_getElem? (i := 1698) (by decide +kernel), List.mem_of_getElem? (i := 1699) (by decide +kernel)⟩
def lw_privs_6 : List (MethodName × Nat) := [(⟨"GuessFencesModel", "carry", "(I)V"⟩, 38)]
theorem lw_r6 : ∀ q ∈ lw_privs_6, lw_okq q := List.forall_mem_cons.mpr ⟨lw_p80, fun _ h => absurd h List.not_mem_nil⟩
def lw_privs : List (MethodName × Nat) := lw_privs_1 ++ (lw_privs_2 ++ (lw_privs_3 ++ (lw_privs_4 ++ (lw_privs_5 ++ (lw_privs_6)))))
def lw_tbl : List Cond := k2_sels lw_privs ++ tables_1
theorem lw_privs_ok : ∀ q ∈ lw_privs, lw_okq q := by
  show ∀ q ∈ lw_privs_1 ++ (lw_privs_2 ++ (lw_privs_3 ++ (lw_privs_4 ++ (lw_privs_5 ++ (lw_privs_6))))), lw_okq q
  exact List.forall_mem_append.mpr ⟨lw_r1, List.forall_mem_append.mpr ⟨lw_r2, List.forall_mem_append.mpr ⟨lw_r3, List.forall_mem_append.mpr ⟨lw_r4, List.forall_mem_append.mpr ⟨lw_r5, lw_r6⟩⟩⟩⟩⟩
end
section
def gf_T0 : u_T := fun k => match k with
  | 0 => ("GuessFences", "words", "[I", true)
  | 1 => ("GuessFences", "listing", "LGuessFences$Listing;", true)
  | 2 => ("GuessFences", "machine", "LGuessFences$Machine;", true)
  | 3 => ("GuessFences", "reach", "LGuessFences$Reach;", true)
  | 4 => ("GuessFences", "taint", "LGuessFences$Taint;", true)
  | 5 => ("GuessFences", "smallestCut", "LGuessFences$Cut;", true)
  | 6 => ("GuessFences", "rewriter", "LGuessFences$Rewriter;", true)
  | 7 => ("GuessFences", "size", "I", false)
  | 8 => ("GuessFences", "faultPlace", "I", false)
  | 9 => ("GuessFences", "loaded", "Z", false)
  | 10 => ("GuessFences", "studied", "Z", false)
  | _ => ("GuessFences", "rewritten", "Z", false)
def gf_y0 : Nat → FieldType := fun k => match k with
  | 0 => .array .int
  | 1 => .object "GuessFences$Listing"
  | 2 => .object "GuessFences$Machine"
  | 3 => .object "GuessFences$Reach"
  | 4 => .object "GuessFences$Taint"
  | 5 => .object "GuessFences$Cut"
  | 6 => .object "GuessFences$Rewriter"
  | 7 => .int
  | 8 => .int
  | 9 => .boolean
  | 10 => .boolean
  | _ => .boolean
def gf_T1 : u_T := fun k => match k with
  | 0 => ("GuessFences$Listing", "kind", "[I", true)
  | 1 => ("GuessFences$Listing", "operation", "[I", true)
  | 2 => ("GuessFences$Listing", "result", "[I", true)
  | 3 => ("GuessFences$Listing", "first", "[I", true)
  | 4 => ("GuessFences$Listing", "second", "[I", true)
  | 5 => ("GuessFences$Listing", "number", "[I", true)
  | 6 => ("GuessFences$Listing", "target", "[I", true)
  | _ => ("GuessFences$Listing", "size", "I", false)
def gf_y1 : Nat → FieldType := fun k => match k with
  | 0 => .array .int
  | 1 => .array .int
  | 2 => .array .int
  | 3 => .array .int
  | 4 => .array .int
  | 5 => .array .int
  | 6 => .array .int
  | _ => .int
def gf_T2 : u_T := fun k => match k with
  | 0 => ("GuessFences$Machine", "listing", "LGuessFences$Listing;", true)
  | 1 => ("GuessFences$Machine", "registers", "[I", true)
  | 2 => ("GuessFences$Machine", "memory", "[B", true)
  | 3 => ("GuessFences$Machine", "leaks", "LGuessFences$Leaks;", true)
  | 4 => ("GuessFences$Machine", "guesses", "LGuessFences$Guesses;", true)
  | 5 => ("GuessFences$Machine", "place", "I", false)
  | _ => ("GuessFences$Machine", "window", "I", false)
def gf_y2 : Nat → FieldType := fun k => match k with
  | 0 => .object "GuessFences$Listing"
  | 1 => .array .int
  | 2 => .array .byte
  | 3 => .object "GuessFences$Leaks"
  | 4 => .object "GuessFences$Guesses"
  | 5 => .int
  | _ => .int
def gf_T3 : u_T := fun k => match k with
  | 0 => ("GuessFences$Leaks", "pairs", "[J", true)
  | _ => ("GuessFences$Leaks", "count", "I", false)
def gf_y3 : Nat → FieldType := fun k => match k with
  | 0 => .array .long
  | _ => .int
def gf_T4 : u_T := fun k => match k with
  | 0 => ("GuessFences$Guesses", "registers", "[I", true)
  | 1 => ("GuessFences$Guesses", "memory", "[B", true)
  | 2 => ("GuessFences$Guesses", "went", "[I", true)
  | 3 => ("GuessFences$Guesses", "ought", "[I", true)
  | 4 => ("GuessFences$Guesses", "stepsThen", "[I", true)
  | 5 => ("GuessFences$Guesses", "oldest", "I", false)
  | 6 => ("GuessFences$Guesses", "open", "I", false)
  | _ => ("GuessFences$Guesses", "steps", "I", false)
def gf_y4 : Nat → FieldType := fun k => match k with
  | 0 => .array .int
  | 1 => .array .byte
  | 2 => .array .int
  | 3 => .array .int
  | 4 => .array .int
  | 5 => .int
  | 6 => .int
  | _ => .int
def gf_T5 : u_T := fun k => match k with
  | 0 => ("GuessFences$Reach", "listing", "LGuessFences$Listing;", true)
  | 1 => ("GuessFences$Reach", "rows", "[J", true)
  | 2 => ("GuessFences$Reach", "traced", "[I", true)
  | 3 => ("GuessFences$Reach", "seenFor", "[I", true)
  | 4 => ("GuessFences$Reach", "queue", "[I", true)
  | _ => ("GuessFences$Reach", "tail", "I", false)
def gf_y5 : Nat → FieldType := fun k => match k with
  | 0 => .object "GuessFences$Listing"
  | 1 => .array .long
  | 2 => .array .int
  | 3 => .array .int
  | 4 => .array .int
  | _ => .int
def gf_T6 : u_T := fun k => match k with
  | 0 => ("GuessFences$Taint", "listing", "LGuessFences$Listing;", true)
  | 1 => ("GuessFences$Taint", "reach", "LGuessFences$Reach;", true)
  | 2 => ("GuessFences$Taint", "marks", "[I", true)
  | 3 => ("GuessFences$Taint", "guessed", "[I", true)
  | 4 => ("GuessFences$Taint", "results", "[I", true)
  | 5 => ("GuessFences$Taint", "givesAway", "[Z", true)
  | 6 => ("GuessFences$Taint", "clean", "[J", true)
  | 7 => ("GuessFences$Taint", "betrayers", "[J", true)
  | 8 => ("GuessFences$Taint", "guessedCount", "I", false)
  | 9 => ("GuessFences$Taint", "resultCount", "I", false)
  | _ => ("GuessFences$Taint", "exposed", "I", false)
def gf_y6 : Nat → FieldType := fun k => match k with
  | 0 => .object "GuessFences$Listing"
  | 1 => .object "GuessFences$Reach"
  | 2 => .array .int
  | 3 => .array .int
  | 4 => .array .int
  | 5 => .array .boolean
  | 6 => .array .long
  | 7 => .array .long
  | 8 => .int
  | 9 => .int
  | _ => .int
def gf_T7 : u_T := fun k => match k with
  | 0 => ("GuessFences$Cut", "listing", "LGuessFences$Listing;", true)
  | 1 => ("GuessFences$Cut", "reach", "LGuessFences$Reach;", true)
  | 2 => ("GuessFences$Cut", "taint", "LGuessFences$Taint;", true)
  | 3 => ("GuessFences$Cut", "pathBefore", "[I", true)
  | 4 => ("GuessFences$Cut", "cameFrom", "[I", true)
  | 5 => ("GuessFences$Cut", "queue", "[I", true)
  | 6 => ("GuessFences$Cut", "unseenEntrances", "[J", true)
  | 7 => ("GuessFences$Cut", "tail", "I", false)
  | _ => ("GuessFences$Cut", "results", "I", false)
def gf_y7 : Nat → FieldType := fun k => match k with
  | 0 => .object "GuessFences$Listing"
  | 1 => .object "GuessFences$Reach"
  | 2 => .object "GuessFences$Taint"
  | 3 => .array .int
  | 4 => .array .int
  | 5 => .array .int
  | 6 => .array .long
  | 7 => .int
  | _ => .int
def gf_T8 : u_T := fun k => match k with
  | 0 => ("GuessFences$Rewriter", "listing", "LGuessFences$Listing;", true)
  | 1 => ("GuessFences$Rewriter", "taint", "LGuessFences$Taint;", true)
  | 2 => ("GuessFences$Rewriter", "moved", "[I", true)
  | _ => ("GuessFences$Rewriter", "homes", "[I", true)
def gf_y8 : Nat → FieldType := fun k => match k with
  | 0 => .object "GuessFences$Listing"
  | 1 => .object "GuessFences$Taint"
  | 2 => .array .int
  | _ => .array .int
def gf_T9 : u_T := fun k => match k with
  | 0 => ("GuessFencesModel", "thrown", "I", false)
  | 1 => ("GuessFencesModel", "words", "[I", true)
  | 2 => ("GuessFencesModel", "size", "I", false)
  | 3 => ("GuessFencesModel", "homes", "[I", true)
  | 4 => ("GuessFencesModel", "hasHomes", "Z", false)
  | 5 => ("GuessFencesModel", "loaded", "Z", false)
  | 6 => ("GuessFencesModel", "faultPlace", "I", false)
  | 7 => ("GuessFencesModel", "place", "I", false)
  | 8 => ("GuessFencesModel", "registers", "[I", true)
  | 9 => ("GuessFencesModel", "memory", "[I", true)
  | 10 => ("GuessFencesModel", "leaks", "[J", true)
  | 11 => ("GuessFencesModel", "leaked", "I", false)
  | 12 => ("GuessFencesModel", "window", "I", false)
  | 13 => ("GuessFencesModel", "keptRegisters", "[I", true)
  | 14 => ("GuessFencesModel", "keptMemory", "[I", true)
  | 15 => ("GuessFencesModel", "keptPlaces", "[I", true)
  | 16 => ("GuessFencesModel", "keptWays", "[I", true)
  | 17 => ("GuessFencesModel", "keptSteps", "[I", true)
  | 18 => ("GuessFencesModel", "guesses", "I", false)
  | 19 => ("GuessFencesModel", "steps", "I", false)
  | 20 => ("GuessFencesModel", "known", "Z", false)
  | 21 => ("GuessFencesModel", "guessed", "[Z", true)
  | 22 => ("GuessFencesModel", "tainted", "[Z", true)
  | 23 => ("GuessFencesModel", "exposed", "[Z", true)
  | 24 => ("GuessFencesModel", "ends", "[Z", true)
  | 25 => ("GuessFencesModel", "inCut", "[Z", true)
  | 26 => ("GuessFencesModel", "cutSize", "I", false)
  | 27 => ("GuessFencesModel", "exposures", "I", false)
  | 28 => ("GuessFencesModel", "reach", "[I", true)
  | 29 => ("GuessFencesModel", "flow", "[I", true)
  | 30 => ("GuessFencesModel", "through", "[Z", true)
  | 31 => ("GuessFencesModel", "ended", "[Z", true)
  | 32 => ("GuessFencesModel", "from", "[I", true)
  | 33 => ("GuessFencesModel", "queue", "[I", true)
  | 34 => ("GuessFencesModel", "seen", "[Z", true)
  | 35 => ("GuessFencesModel", "fresh", "[I", true)
  | 36 => ("GuessFencesModel", "where", "[I", true)
  | _ => ("GuessFencesModel", "waiting", "I", false)
def gf_y9 : Nat → FieldType := fun k => match k with
  | 0 => .int
  | 1 => .array .int
  | 2 => .int
  | 3 => .array .int
  | 4 => .boolean
  | 5 => .boolean
  | 6 => .int
  | 7 => .int
  | 8 => .array .int
  | 9 => .array .int
  | 10 => .array .long
  | 11 => .int
  | 12 => .int
  | 13 => .array .int
  | 14 => .array .int
  | 15 => .array .int
  | 16 => .array .int
  | 17 => .array .int
  | 18 => .int
  | 19 => .int
  | 20 => .boolean
  | 21 => .array .boolean
  | 22 => .array .boolean
  | 23 => .array .boolean
  | 24 => .array .boolean
  | 25 => .array .boolean
  | 26 => .int
  | 27 => .int
  | 28 => .array .int
  | 29 => .array .int
  | 30 => .array .boolean
  | 31 => .array .boolean
  | 32 => .array .int
  | 33 => .array .int
  | 34 => .array .boolean
  | 35 => .array .int
  | 36 => .array .int
  | _ => .int
abbrev vwCl : List vw_C := [("GuessFences", gf_T0, 12), ("GuessFences$Listing", gf_T1, 8), ("GuessFences$Machine", gf_T2, 7), ("GuessFences$Leaks", gf_T3, 2), ("GuessFences$Guesses", gf_T4, 8), ("GuessFences$Reach", gf_T5, 6), ("GuessFences$Taint", gf_T6, 11), ("GuessFences$Cut", gf_T7, 9), ("GuessFences$Rewriter", gf_T8, 4), ("GuessFencesModel", gf_T9, 38)]
abbrev gD : Type := (FieldType × Nat) ⊕ (Nat × List (Option Nat))
def gv_sh : List gD := [
  .inr (0, [some 1, some 2, some 10, some 21, some 26, some 33, some 38, none, none, none, none, none]),
  .inl (.int, 1040),
  .inr (1, [some 3, some 4, some 5, some 6, some 7, some 8, some 9, none]),
  .inl (.int, 1040),
  .inl (.int, 1040),
  .inl (.int, 1040),
  .inl (.int, 1040),
  .inl (.int, 1040),
  .inl (.int, 1040),
  .inl (.int, 1040),
  .inr (2, [some 2, some 11, some 12, some 13, some 15, none, none]),
  .inl (.int, 32),
  .inl (.byte, 256),
  .inr (3, [some 14, none]),
  .inl (.long, 2048),
  .inr (4, [some 16, some 17, some 18, some 19, some 20, none, none, none]),
  .inl (.int, 512),
  .inl (.byte, 4096),
  .inl (.int, 16),
  .inl (.int, 16),
  .inl (.int, 16),
  .inr (5, [some 2, some 22, some 23, some 24, some 25, none]),
  .inl (.long, 17680),
  .inl (.int, 1040),
  .inl (.int, 1040),
  .inl (.int, 1040),
  .inr (6, [some 2, some 21, some 27, some 28, some 29, some 30, some 31, some 32, none, none, none]),
  .inl (.int, 1040),
  .inl (.int, 1040),
  .inl (.int, 1040),
  .inl (.boolean, 1040),
  .inl (.long, 17),
  .inl (.long, 17),
  .inr (7, [some 2, some 21, some 26, some 34, some 35, some 36, some 37, none, none]),
  .inl (.int, 1040),
  .inl (.int, 2080),
  .inl (.int, 2080),
  .inl (.long, 17),
  .inr (8, [some 2, some 26, some 39, some 40]),
  .inl (.int, 1041),
  .inl (.int, 1040),
  .inr (9, [none, some 42, none, some 43, none, none, none, none, some 44, some 45, some 46, none, none, some 47, some 48, some 49, some 50, some 51, none, none, none, some 52, some 53, some 54, some 55, some 56, none, none, some 57, some 58, some 59, some 60, some 61, some 62, some 63, some 64, some 65, none]),
  .inl (.int, 1040),
  .inl (.int, 1040),
  .inl (.int, 32),
  .inl (.int, 256),
  .inl (.long, 2048),
  .inl (.int, 512),
  .inl (.int, 4096),
  .inl (.int, 16),
  .inl (.int, 16),
  .inl (.int, 16),
  .inl (.boolean, 1040),
  .inl (.boolean, 1040),
  .inl (.boolean, 1040),
  .inl (.boolean, 1040),
  .inl (.boolean, 1040),
  .inl (.int, 34320),
  .inl (.int, 34320),
  .inl (.boolean, 1040),
  .inl (.boolean, 1040),
  .inl (.int, 2080),
  .inl (.int, 2081),
  .inl (.boolean, 1040),
  .inl (.int, 1040),
  .inl (.int, 1041),
  .inl (.long, 1)]
theorem gv_shl : gv_sh.length = 67 := rfl
def gv_scr : Nat := 900
def gv_en (n : Nat) : String := match n with
  | 1 => "java/lang/IllegalStateException"
  | 2 => "java/lang/IndexOutOfBoundsException"
  | _ => "java/lang/IllegalArgumentException"
def gv_good (w : Cond) : Bool := match w with
  | .fieldLinkNest .. => true
  | .methodLinkNest .. => true
  | .declares _ => true
  | .castable .. => true
  | w => w.onTables && w.keeps
def gv_nc : List Cond := [.not (.castable "java/lang/IllegalStateException" "java/lang/IndexOutOfBoundsException"), .not (.castable "java/lang/IllegalStateException" "java/lang/IllegalArgumentException"), .not (.castable "java/lang/IndexOutOfBoundsException" "java/lang/IllegalStateException"), .not (.castable "java/lang/IndexOutOfBoundsException" "java/lang/IllegalArgumentException"), .not (.castable "java/lang/IllegalArgumentException" "java/lang/IllegalStateException"), .not (.castable "java/lang/IllegalArgumentException" "java/lang/IndexOutOfBoundsException")]
def gv_ws : List Cond := gv_nc ++ lw_tbl.filter gv_good
theorem gv_in {w : Cond} (i : Nat) (h : tables_1[i]? = some w) (hg : gv_good w = true) : w ∈ gv_ws := List.mem_append_right _ (List.mem_filter.mpr ⟨List.mem_append_right _ (List.mem_of_getElem? h), hg⟩)
theorem gv_inp {w : Cond} (i : Nat) (h : (k2_sels lw_privs)[i]? = some w) (hg : gv_good w = true) : w ∈ gv_ws := List.mem_append_right _ (List.mem_filter.mpr ⟨List.mem_append_left _ (List.mem_of_getElem? h), hg⟩)
theorem gv_inn {w : Cond} (i : Nat) (h : gv_nc[i]? = some w) : w ∈ gv_ws := List.mem_append_left _ (List.mem_of_getElem? h)
theorem gv_i1 {w : Cond} (i : Nat) (h : tables_1_1[i]? = some w) (hg : gv_good w = true) : w ∈ gv_ws := List.mem_append_right _ (List.mem_filter.mpr ⟨List.mem_append_right _ (show w ∈ tables_1 from List.mem_append_left _ (List.mem_of_getElem? h)), hg⟩)
theorem gv_i2 {w : Cond} (i : Nat) (h : tables_1_2[i]? = some w) (hg : gv_good w = true) : w ∈ gv_ws := List.mem_append_right _ (List.mem_filter.mpr ⟨List.mem_append_right _ (show w ∈ tables_1 from List.mem_append_right _ (List.mem_append_left _ (List.mem_of_getElem? h))), hg⟩)
theorem gv_i3 {w : Cond} (i : Nat) (h : tables_1_3[i]? = some w) (hg : gv_good w = true) : w ∈ gv_ws := List.mem_append_right _ (List.mem_filter.mpr ⟨List.mem_append_right _ (show w ∈ tables_1 from List.mem_append_right _ (List.mem_append_right _ (List.mem_append_left _ (List.mem_of_getElem? h)))), hg⟩)
theorem gv_i4 {w : Cond} (i : Nat) (h : tables_1_4[i]? = some w) (hg : gv_good w = true) : w ∈ gv_ws := List.mem_append_right _ (List.mem_filter.mpr ⟨List.mem_append_right _ (show w ∈ tables_1 from List.mem_append_right _ (List.mem_append_right _ (List.mem_append_right _ (List.mem_append_left _ (List.mem_of_getElem? h))))), hg⟩)
theorem gv_i5 {w : Cond} (i : Nat) (h : tables_1_5[i]? = some w) (hg : gv_good w = true) : w ∈ gv_ws := List.mem_append_right _ (List.mem_filter.mpr ⟨List.mem_append_right _ (show w ∈ tables_1 from List.mem_append_right _ (List.mem_append_right _ (List.mem_append_right _ (List.mem_append_right _ (List.mem_append_left _ (List.mem_of_getElem? h)))))), hg⟩)
theorem gv_i6 {w : Cond} (i : Nat) (h : tables_1_6[i]? = some w) (hg : gv_good w = true) : w ∈ gv_ws := List.mem_append_right _ (List.mem_filter.mpr ⟨List.mem_append_right _ (show w ∈ tables_1 from List.mem_append_right _ (List.mem_append_right _ (List.mem_append_right _ (List.mem_append_right _ (List.mem_append_right _ (List.mem_append_left _ (List.mem_of_getElem? h))))))), hg⟩)
theorem gv_i7 {w : Cond} (i : Nat) (h : tables_1_7[i]? = some w) (hg : gv_good w = true) : w ∈ gv_ws := List.mem_append_right _ (List.mem_filter.mpr ⟨List.mem_append_right _ (show w ∈ tables_1 from List.mem_append_right _ (List.mem_append_right _ (List.mem_append_right _ (List.mem_append_right _ (List.mem_append_right _ (List.mem_append_right _ (List.mem_append_left _ (List.mem_of_getElem? h)))))))), hg⟩)
theorem gv_i8 {w : Cond} (i : Nat) (h : tables_1_8[i]? = some w) (hg : gv_good w = true) : w ∈ gv_ws := List.mem_append_right _ (List.mem_filter.mpr ⟨List.mem_append_right _ (show w ∈ tables_1 from List.mem_append_right _ (List.mem_append_right _ (List.mem_append_right _ (List.mem_append_right _ (List.mem_append_right _ (List.mem_append_right _ (List.mem_append_right _ (List.mem_of_getElem? h)))))))), hg⟩)
theorem gv_inl {ws : List Cond} (ks : List Nat) (h : ws = ks.filterMap (fun i => tables_1[i]?)) (hg : ws.all gv_good = true) : ∀ w ∈ ws, w ∈ gv_ws := by
  intro w hw
  have h1 := List.all_eq_true.mp hg w hw
  rw [h] at hw
  obtain ⟨i, -, hi⟩ := List.mem_filterMap.mp hw
  exact gv_in i hi h1
end
section
theorem gv_castm {a b : String} {s U : State} (hW : s.WarmedH U.vm) (h : (Cond.castable a b).before #[] s = true) : (Cond.castable a b).before #[] U = true := by
  have hal := hW.alike
  simp only [Cond.before, Cond.holds, Cond.value] at h ⊢
  rw [hal.findClass, hal.findClass]
  cases h1 : s.vm.findClass a with
  | none => rw [h1] at h; exact h
  | some x =>
    cases h2 : s.vm.findClass b with
    | none => rw [h1, h2] at h; exact h
    | some y =>
      rw [h1, h2] at h
      simp only [hal.assignable] at h ⊢
      exact h
theorem gv_ncastm {a b : String} {s U : State} (hW : s.WarmedH U.vm) (h : (Cond.not (.castable a b)).before #[] s = true) : (Cond.not (.castable a b)).before #[] U = true := by
  have hal := hW.alike
  simp only [Cond.before, Cond.holds, Cond.value] at h ⊢
  rw [hal.findClass, hal.findClass]
  cases h1 : s.vm.findClass a with
  | none => rw [h1] at h; exact h
  | some x =>
    cases h2 : s.vm.findClass b with
    | none => rw [h1, h2] at h; exact h
    | some y =>
      rw [h1, h2] at h
      simp only [hal.assignable] at h ⊢
      exact h
theorem gv_ncs {w : Cond} (h : w ∈ gv_nc) : ∃ a b, w = .not (.castable a b) := by
  simp only [gv_nc, List.mem_cons, List.not_mem_nil, or_false] at h
  rcases h with rfl | rfl | rfl | rfl | rfl | rfl <;> exact ⟨_, _, rfl⟩
theorem gv_wt {w : Cond} (hw : w ∈ gv_ws) {A A' : Array Value} {u U : State} (h : u.vm = U.vm) (hb : w.before A u = true) : w.before A' U = true := by
  rcases List.mem_append.mp hw with hw | hw
  · obtain ⟨a, b, rfl⟩ := gv_ncs hw
    simp only [Cond.before, Cond.holds, Cond.value] at hb ⊢
    rw [← h]
    exact hb
  · have hg := (List.mem_filter.mp hw).2
    have ho : w.onTables = true := by
      by_cases h1 : (w.onTables && w.keeps) = true
      · exact (Bool.and_eq_true_iff.mp h1).1
      · cases w <;> first | rfl | exact absurd hg h1
    exact va_tabs ho h hb
theorem gv_wm {s U : State} (hW : s.WarmedH U.vm) {w : Cond} (hw : w ∈ gv_ws) (h : w.before #[] s = true) : w.before #[] U = true := by
  rcases List.mem_append.mp hw with hw | hw
  · obtain ⟨a, b, rfl⟩ := gv_ncs hw
    exact gv_ncastm hW h
  · have hg := (List.mem_filter.mp hw).2
    by_cases h1 : (w.onTables && w.keeps) = true
    · exact word_at hW (Or.inl h1) h
    · cases w <;> first | exact va_Nw.warmF hW h | exact va_Nw.warmM hW h | exact va_Nw.warmD hW h | exact gv_castm hW h | exact absurd hg h1
def gv_Zs (C n d : String) (A : Nat → Prop) (U : State) (H : Heap) : Prop := ∃ (c : ClassId) (k : Class) (i : Nat) (f : Field) (a : Nat) (cell : Cell) (v : Value), U.vm.findClass C = some c ∧ U.fieldFound? C n d = some (c, k, i, f) ∧ f.isStatic = true ∧ k.statics = some a ∧ k.staticTypes[f.slot]? = some f.type ∧ H[a]? = some cell ∧ cell.vm.isStatics = true ∧ cell.cls = c ∧ f.slot < cell.slots.size ∧ cell.slots[f.slot]? = some v ∧ (v = .null ∨ ∃ t, v = .ref t) ∧ ¬ A a
theorem gv_Zs.moved {C n d : String} {A : Nat → Prop} {u U : State} {H : Heap} (hvm : u.vm.Alike U.vm) (h : gv_Zs C n d A u H) : gv_Zs C n d A U H := by
  obtain ⟨c, k, i, f, a, cell, v, h0, h1, h2, h3, h4, h5⟩ := h
  obtain ⟨k', hi', he⟩ := State.fieldFound?_setVm hvm h1
  exact ⟨c, k', i, f, a, cell, v, by rw [hvm.findClass]; exact h0, hi', h2, by rw [he]; exact h3, by rw [he]; exact h4, h5⟩
theorem gv_Zs.kept {C n d : String} {A : Nat → Prop} {U : State} {H H1 : Heap} (h : gv_Zs C n d A U H) (hq : ∀ a : Nat, a < H.size → ¬ A a → H1[a]? = H[a]?) : gv_Zs C n d A U H1 := by
  obtain ⟨c, k, i, f, a, cell, v, h0, h1, h2, h3, h4, h5, h6, h7, h8, h9, h10, h11⟩ := h
  exact ⟨c, k, i, f, a, cell, v, h0, h1, h2, h3, h4, by rw [hq a (Array.getElem?_eq_some_iff.mp h5).1 h11]; exact h5, h6, h7, h8, h9, h10, h11⟩
theorem gv_Zs.narrow {C n d : String} {A B : Nat → Prop} {U : State} {H : Heap} (h : gv_Zs C n d A U H) (hAB : ∀ q, B q → A q) : gv_Zs C n d B U H := by
  obtain ⟨c, k, i, f, a, cell, v, h0, h1, h2, h3, h4, h5, h6, h7, h8, h9, h10, h11⟩ := h
  exact ⟨c, k, i, f, a, cell, v, h0, h1, h2, h3, h4, h5, h6, h7, h8, h9, h10, fun z => h11 (hAB a z)⟩
theorem gv_Zs.of {C n d : String} {A : Nat → Prop} {s : State} {args : Array Value} (hl : (Cond.laysStatic C n d).before args s = true) (h : (Cond.isRef (.static C n d)).before args s = true) (hA : ∀ a : Nat, a < s.heap.size → ¬ A a) : gv_Zs C n d A s s.heap := by
  obtain ⟨c, k, i, f, a, cell, hc, hi, hst, ha, hcell, hs, hcls, hlt, hty⟩ := Cond.laysStatic_spec hl
  cases hv : (Term.static C n d).eval args s none [] s with
  | none => simp [Cond.before, Cond.holds, Cond.value, hv] at h
  | some w =>
    obtain ⟨hst', a', cell', ha', hcell', -, hslot⟩ := Term.static_spec hi hv
    cases ha.symm.trans ha'
    cases hcell.symm.trans hcell'
    refine ⟨c, k, i, f, a, cell, w, hc, hi, hst, ha, hty, hcell, hs, hcls, hlt, hslot, ?_, hA a (Array.getElem?_eq_some_iff.mp hcell).1⟩
    simp only [Cond.before, Cond.holds, Cond.value, hv] at h
    cases w with
    | null => exact Or.inl rfl
    | ref t => exact Or.inr ⟨t, rfl⟩
    | _ => simp at h
theorem gv_Zs.isref {C n d : String} {A : Nat → Prop} {s : State} (h : gv_Zs C n d A s s.heap) (args : Array Value) : (Cond.isRef (.static C n d)).before args s = true := by
  obtain ⟨c, k, i, f, a, cell, v, h0, h1, h2, h3, h4, h5, h6, h7, h8, h9, h10, h11⟩ := h
  rcases h10 with rfl | ⟨t, rfl⟩ <;> simp [Cond.before, Cond.holds, Cond.value, Term.eval, State.fieldNamed?, h1, h2, h3, h5, h6, h9]
theorem gv_Zs.lays {C n d : String} {A : Nat → Prop} {s : State} (h : gv_Zs C n d A s s.heap) (args : Array Value) : (Cond.laysStatic C n d).before args s = true := by
  obtain ⟨c, k, i, f, a, cell, v, h0, h1, h2, h3, h4, h5, h6, h7, h8, h9, h10, h11⟩ := h
  simp [Cond.before, Cond.holds, Cond.value, h0, h1, h2, h3, h4, h5, h6, h7, h8]
end
section

abbrev gS : Type := (Nat → Nat → Int32) × (Nat → Nat → Int32) × (Nat → Nat → Int64) × List Int32
def gv_up {α : Type} (f : Nat → Nat → α) (p k : Nat) (v : α) : Nat → Nat → α := fun q j => if q = p then (if j = k then v else f q j) else f q j
theorem gv_up_ne {α : Type} (f : Nat → Nat → α) {p k q : Nat} (v : α) (h : q ≠ p) : gv_up f p k v q = f q := by
  funext j; simp [gv_up, h]
theorem gv_up_self {α : Type} (f : Nat → Nat → α) (p k : Nat) (v : α) : gv_up f p k v p = fun j => if j = k then v else f p j := by
  funext j; simp [gv_up]
def gv_f (ad : Nat → Nat) (σ : gS) (p k : Nat) (f : Option Nat) : Value := match f with
  | some q => .ref (ad q)
  | none => .int (σ.1 p k)
def gv_e (cA : FieldType → ClassId) (ad : Nat → Nat) (σ : gS) (p : Nat) (d : gD) : va_E := match d with
  | .inl (.long, n) => .inl (cA .long, n, .inr (.inl (σ.2.2.1 p)))
  | .inl (ty, n) => .inl (cA ty, n, .inl (σ.2.1 p))
  | .inr (ci, fs) => .inr (ci, fs.mapIdx (fun k f => gv_f ad σ p k f))
def gv_w (cA : FieldType → ClassId) (ad : Nat → Nat) (σ : gS) : va_W := gv_sh.mapIdx (fun p d => (ad p, gv_e cA ad σ p d))
theorem gv_wget {cA : FieldType → ClassId} {ad : Nat → Nat} (σ : gS) {p : Nat} {d : gD} (h : gv_sh[p]? = some d) : (gv_w cA ad σ)[p]? = some (ad p, gv_e cA ad σ p d) := by
  simp [gv_w, List.getElem?_mapIdx, h]
theorem gv_wlen (cA : FieldType → ClassId) (ad : Nat → Nat) (σ : gS) : (gv_w cA ad σ).length = gv_sh.length := by simp [gv_w]
theorem gv_wset {cA : FieldType → ClassId} {ad : Nat → Nat} {σ σ' : gS} {p : Nat} {d : gD} (hd : gv_sh[p]? = some d) (h : ∀ q, q ≠ p → ∀ d', gv_e cA ad σ' q d' = gv_e cA ad σ q d') :
    (gv_w cA ad σ).set p (ad p, gv_e cA ad σ' p d) = gv_w cA ad σ' := by
  refine List.ext_getElem? fun q => ?_
  by_cases hq : q = p
  · subst hq
    have hl : q < (gv_w cA ad σ).length := by rw [gv_wlen]; exact (List.getElem?_eq_some_iff.mp hd).1
    rw [List.getElem?_set_self hl, gv_wget σ' hd]
  · rw [List.getElem?_set_ne (Ne.symm hq)]
    simp only [gv_w, List.getElem?_mapIdx]
    cases gv_sh[q]? with
    | none => rfl
    | some d' => simp [h q hq d']
def gv_A (ad : Nat → Nat) (s : State) : Nat → Prop := fun q => (∃ i, i < gv_sh.length ∧ q = ad i) ∨ s.heap.size ≤ q
theorem gv_Aw {cA : FieldType → ClassId} {ad : Nat → Nat} {σ : gS} {s : State} (hi : ∀ i j, i < gv_sh.length → j < gv_sh.length → ad i = ad j → i = j) : va_D (gv_A ad s) (gv_w cA ad σ) := by
  have key : ∀ (k : Nat) (q : Nat × va_E), (gv_w cA ad σ)[k]? = some q → k < gv_sh.length ∧ q.1 = ad k := by
    intro k q hk
    have hl : k < gv_sh.length := by rw [← gv_wlen cA ad σ]; exact (List.getElem?_eq_some_iff.mp hk).1
    rw [gv_wget σ (List.getElem?_eq_getElem hl)] at hk
    cases hk
    exact ⟨hl, rfl⟩
  refine ⟨fun i j x y h1 h2 hxy => ?_, fun k q hk => ?_⟩
  · obtain ⟨a1, a2⟩ := key i x h1
    obtain ⟨b1, b2⟩ := key j y h2
    exact hi i j a1 b1 (by rw [← a2, ← b2]; exact hxy)
  · obtain ⟨a1, a2⟩ := key k q hk
    exact Or.inl ⟨k, a1, a2⟩
def gv_t (ad : Nat → Nat) (v : Value) : Value := match v with
  | .ref q => .ref (ad q)
  | v => v
theorem gv_tc (ad : Nat → Nat) (v : Value) : (gv_t ad v).category = v.category := by cases v <;> rfl
theorem gv_tf (ad : Nat → Nat) (σ : gS) (p k : Nat) (f : Option Nat) : gv_t ad (match f with | some q => .ref q | none => .int (σ.1 p k)) = gv_f ad σ p k f := by cases f <;> rfl
def gv_l (ad : Nat → Nat) (ls : List (Option Value)) : List (Nat × Value) := (List.range ls.length).filterMap (fun i => (ls[i]?.join).map (fun v => (i, gv_t ad v)))
theorem gv_lmem {ad : Nat → Nat} {ls : List (Option Value)} {q : Nat × Value} : q ∈ gv_l ad ls ↔ ∃ v, ls[q.1]? = some (some v) ∧ q.2 = gv_t ad v := by
  obtain ⟨i, w⟩ := q
  simp only [gv_l, List.mem_filterMap, List.mem_range, Option.map_eq_some_iff, Option.join_eq_some_iff, Prod.mk.injEq]
  constructor
  · rintro ⟨j, -, v, h1, h2, h3⟩
    subst h2
    exact ⟨v, h1, h3.symm⟩
  · rintro ⟨v, h1, h2⟩
    exact ⟨i, (List.getElem?_eq_some_iff.mp h1).1, v, h1, rfl, h2.symm⟩
theorem gv_lat {ad : Nat → Nat} {ls : List (Option Value)} {sl : Array Slot} {n i : Nat} {v : Value} (h : lv_has sl n (gv_l ad ls)) (hi : ls[i]? = some (some v)) : sl[i]? = some (.val (gv_t ad v)) :=
  h.2.2 (i, gv_t ad v) (gv_lmem.mpr ⟨v, hi, rfl⟩)
theorem gv_lle {ad : Nat → Nat} {ls ls' : List (Option Value)} {sl : Array Slot} {n : Nat} (h : lv_has sl n (gv_l ad ls)) (hs : ∀ (i : Nat) (v : Value), ls'[i]? = some (some v) → ls[i]? = some (some v)) : lv_has sl n (gv_l ad ls') := by
  refine ⟨h.1, h.2.1, fun q hq => ?_⟩
  obtain ⟨v, h1, h2⟩ := gv_lmem.mp hq
  exact h.2.2 q (gv_lmem.mpr ⟨v, hs _ _ h1, h2⟩)
def gv_c1 (ls : List (Option Value)) (i : Nat) : List (Option Value) := match i with
  | 0 => ls
  | j + 1 => match ls[j]? with
    | some (some v) => bif v.category == 2 then ls.set j none else ls
    | _ => ls
def gv_s1 (ls : List (Option Value)) (i : Nat) (v : Value) : List (Option Value) := (gv_c1 ls i).set i (some v)
def gv_s2 (ls : List (Option Value)) (i : Nat) (v : Value) : List (Option Value) := ((gv_c1 ls i).set i (some v)).set (i + 1) none
theorem gv_c1_at {ls : List (Option Value)} {i q : Nat} {w : Value} (h : (gv_c1 ls i)[q]? = some (some w)) : ls[q]? = some (some w) ∧ ¬ (q + 1 = i ∧ w.category = 2) := by
  cases i with
  | zero => exact ⟨h, fun z => by omega⟩
  | succ j =>
    simp only [gv_c1] at h
    split at h
    · rename_i v hx
      by_cases hc : v.category = 2
      · rw [show (v.category == 2) = true by simp [hc]] at h
        simp only [cond_true] at h
        by_cases hj : q = j
        · subst hj
          have hl := (List.getElem?_eq_some_iff.mp hx).1
          rw [List.getElem?_set_self hl] at h
          cases h
        · rw [List.getElem?_set_ne (Ne.symm hj)] at h
          exact ⟨h, fun z => hj (by omega)⟩
      · rw [show (v.category == 2) = false by simp [hc]] at h
        simp only [cond_false] at h
        refine ⟨h, fun z => ?_⟩
        have : q = j := by omega
        subst this
        rw [hx] at h
        cases h
        exact hc z.2
    · rename_i hx
      refine ⟨h, fun z => ?_⟩
      have : q = j := by omega
      subst this
      exact hx w h
theorem gv_sub1 {ad : Nat → Nat} {ls : List (Option Value)} {sl : Array Slot} {n i : Nat} {v : Value} (h : lv_has sl n ((i, gv_t ad v) :: (gv_l ad ls).filter (fun q => !(q.1 == i) && !(q.1 + 1 == i && q.2.category == 2)))) : lv_has sl n (gv_l ad (gv_s1 ls i v)) := by
  refine ⟨h.1, h.2.1, fun q hq => h.2.2 q ?_⟩
  obtain ⟨w, h1, h2⟩ := gv_lmem.mp hq
  by_cases hi : q.1 = i
  · rw [hi] at h1
    have hl : i < (gv_c1 ls i).length := by
      have := (List.getElem?_eq_some_iff.mp h1).1
      simpa [gv_s1] using this
    rw [gv_s1, List.getElem?_set_self hl] at h1
    cases h1
    exact List.mem_cons.mpr (Or.inl (Prod.ext hi h2))
  · rw [gv_s1, List.getElem?_set_ne (Ne.symm hi)] at h1
    obtain ⟨h3, h4⟩ := gv_c1_at h1
    refine List.mem_cons_of_mem _ (List.mem_filter.mpr ⟨gv_lmem.mpr ⟨w, h3, h2⟩, ?_⟩)
    rw [h2, gv_tc]
    simp only [Bool.and_eq_true, Bool.not_eq_true', beq_eq_false_iff_ne, ne_eq, Bool.and_eq_false_iff]
    exact ⟨hi, by
      by_cases z : q.1 + 1 = i
      · exact Or.inr (fun z2 => h4 ⟨z, z2⟩)
      · exact Or.inl z⟩
theorem gv_sub2 {ad : Nat → Nat} {ls : List (Option Value)} {sl : Array Slot} {n i : Nat} {v : Value} (h : lv_has sl n ((i, gv_t ad v) :: (gv_l ad ls).filter (fun q => !(q.1 == i) && (!(q.1 == i + 1) && !(q.1 + 1 == i && q.2.category == 2))))) : lv_has sl n (gv_l ad (gv_s2 ls i v)) := by
  refine ⟨h.1, h.2.1, fun q hq => h.2.2 q ?_⟩
  obtain ⟨w, h1, h2⟩ := gv_lmem.mp hq
  by_cases hj : q.1 = i + 1
  · rw [hj] at h1
    have hl : i + 1 < ((gv_c1 ls i).set i (some v)).length := by
      have := (List.getElem?_eq_some_iff.mp h1).1
      simpa [gv_s2] using this
    rw [gv_s2, List.getElem?_set_self hl] at h1
    cases h1
  · rw [gv_s2, List.getElem?_set_ne (Ne.symm hj)] at h1
    by_cases hi : q.1 = i
    · rw [hi] at h1
      have hl : i < (gv_c1 ls i).length := by
        have := (List.getElem?_eq_some_iff.mp h1).1
        simpa using this
      rw [List.getElem?_set_self hl] at h1
      cases h1
      exact List.mem_cons.mpr (Or.inl (Prod.ext hi h2))
    · rw [List.getElem?_set_ne (Ne.symm hi)] at h1
      obtain ⟨h3, h4⟩ := gv_c1_at h1
      refine List.mem_cons_of_mem _ (List.mem_filter.mpr ⟨gv_lmem.mpr ⟨w, h3, h2⟩, ?_⟩)
      rw [h2, gv_tc]
      simp only [Bool.and_eq_true, Bool.not_eq_true', beq_eq_false_iff_ne, ne_eq, Bool.and_eq_false_iff]
      exact ⟨hi, hj, by
        by_cases z : q.1 + 1 = i
        · exact Or.inr (fun z2 => h4 ⟨z, z2⟩)
        · exact Or.inl z⟩
abbrev gM : Type := MethodName × ByteArray × Nat × Option FieldType × List (Nat × Nat × Nat × Nat) × Nat × Nat × Bool
abbrev gM.y (μ : gM) : MethodName := μ.1
abbrev gM.cc (μ : gM) : ByteArray := μ.2.1
abbrev gM.nL (μ : gM) : Nat := μ.2.2.1
abbrev gM.rt (μ : gM) : Option FieldType := μ.2.2.2.1
abbrev gM.hh (μ : gM) : List (Nat × Nat × Nat × Nat) := μ.2.2.2.2.1
abbrev gM.F (μ : gM) : Nat := μ.2.2.2.2.2.1
abbrev gM.c (μ : gM) : Nat := μ.2.2.2.2.2.2.1
abbrev gM.pu (μ : gM) : Bool := μ.2.2.2.2.2.2.2
def gv_rm (μ : gM) : Room := { frames := μ.F, cells := 1, slots := 6, locals := 100 * μ.F }
abbrev gQ : Type := Option Value ⊕ Nat
def gv_ty (cA : FieldType → ClassId) : List (ClassId × FieldType) := [(cA .int, .int), (cA .byte, .byte), (cA .boolean, .boolean), (cA .long, .long)]
def gv_G (D : va_G) (cA : FieldType → ClassId) (ad : Nat → Nat) (s : State) : Prop :=
  (∀ w ∈ gv_ws, w.before #[] s = true) ∧ va_K D vwCl (gv_ty cA) s ∧ (∀ i j, i < gv_sh.length → j < gv_sh.length → ad i = ad j → i = j) ∧ ((∀ i, i < gv_sh.length → ad gv_scr ≠ ad i) ∧ ad gv_scr < s.heap.size) ∧
  gv_Zs "java/lang/Throwable" "UNASSIGNED_STACK" "[Ljava/lang/StackTraceElement;" (gv_A ad s) s s.heap ∧ gv_Zs "java/lang/Throwable" "SUPPRESSED_SENTINEL" "Ljava/util/List;" (gv_A ad s) s s.heap
def gv_C (μ : gM) (p : Program) (l : Launch) (R : Room) (s : State) (m : MethodId) (meth : Method) (c : Code) (D : va_G) (cA : FieldType → ClassId) (ad : Nat → Nat) : Prop :=
  (p.tables.exec = Jvm.exec ∧ c.code = μ.cc ∧ c.maxLocals = μ.nL ∧ s.vm.findClass μ.y.cls = some m.cls ∧ meth.sig.returnType = μ.rt ∧ meth.locks = false ∧ (c.exceptionTable.toList.map fun h => (h.startPc, h.endPc, h.handlerPc, h.catchType)) = μ.hh ∧ l.stackTraces = false ∧ μ.F ≤ R.frames ∧ 100 * μ.F ≤ R.locals) ∧ gv_G D cA ad s
def gv_X (ad : Nat → Nat) (σ : gS) (s : State) : Prop := va_X (ad gv_scr) σ.2.2.2.length (fun j => σ.2.2.2.getD j 0) s s.heap
def gv_exc (n : Nat) (s : State) (H : Heap) (a : Addr) : Prop := ∃ ce : Cell, H[a]? = some ce ∧ ce.vm.isStatics = false ∧ s.vm.findClass (gv_en n) = some ce.cls
def gv_ri (rt : Option FieldType) (v : Option Value) (i : Instr) : Prop :=
  (v = none ∧ rt = none ∧ i = .return_) ∨ (∃ (x : Int32) (ty : FieldType), v = some (.int x) ∧ rt = some ty ∧ narrow ty (.int x) = .int x ∧ i = .ireturn) ∨ ∃ x : Int64, v = some (.long x) ∧ rt = some .long ∧ i = .lreturn
def gv_Ex (μ : gM) (p : Program) (l : Launch) (e : Env) (R : Room) (s : State) (m : MethodId) (args : Array Value) (below : List Frame) (meth : Method) (c : Code) (D : va_G) (cA : FieldType → ClassId) (ad : Nat → Nat) (Z : State → Prop) (Q : gQ → gS → Prop) : Prop :=
  (∀ (v : Option Value) (σ : gS) (k : Nat) (H : Heap) (locs : List Loc) (cells slots : Nat) (sl : Array Slot) (pc : Nat) (i : Instr), Q (.inl v) σ → gv_ri μ.rt v i → 1 ≤ k + μ.c → (μ.pu = true → locs = []) → cells + k ≤ R.cells → slots + 6 * k ≤ R.slots → gv_X ad σ s → va_P D vwCl (gv_w cA ad σ) H → va_S (gv_A ad s) s.heap H locs →
    decode μ.cc pc = .ok (i, 1) → W p l e R s m args below meth c H locs cells slots Z (F0 m pc sl (v.toList.map (gv_t ad)))) ∧
  ∀ (n : Nat) (σ : gS) (U : State) (a : Addr) (locs : List Loc) (cells slots : Nat), Q (.inr n) σ → U.status = .running → Ended U below (.threw a) → s.WarmedH U.vm → s.sameButNew ({ U with vm := s.vm } : State) locs cells slots → cells ≤ R.cells → slots ≤ R.slots → gv_X ad σ s → va_P D vwCl (gv_w cA ad σ) U.heap → va_S (gv_A ad s) s.heap U.heap locs → gv_exc n s U.heap a → Z U
def gv_V (μ : gM) (k : Nat) (w : Bool) (pc : Nat) (ls : List (Option Value)) (st : List Value) (σ : gS) (Q : gQ → gS → Prop) : Prop :=
  ∀ (p : Program) (l : Launch) (e : Env) (R : Room) (s : State) (m : MethodId) (args : Array Value) (below : List Frame) (meth : Method) (c : Code) (D : va_G) (cA : FieldType → ClassId) (ad : Nat → Nat) (Z : State → Prop),
    gv_C μ p l R s m meth c D cA ad → gv_Ex μ p l e R s m args below meth c D cA ad Z Q → ∀ (H : Heap) (locs : List Loc) (cells slots : Nat) (sl : Array Slot), (w = true → locs = [] ∧ ∀ i, i < gv_sh.length → ad i < s.heap.size) → cells + k ≤ R.cells → slots + 6 * k ≤ R.slots → gv_X ad σ s → va_P D vwCl (gv_w cA ad σ) H → va_S (gv_A ad s) s.heap H locs →
      lv_has sl μ.nL (gv_l ad ls) → W p l e R s m args below meth c H locs cells slots Z (F0 m pc sl (st.map (gv_t ad)))
end
section
theorem gv_iconst {μ : gM} {k pc pc' : Nat} {w : Bool} {ls : List (Option Value)} {st : List Value} {σ : gS} {Q : gQ → gS → Prop} {n : Int} {v : Int32} (hd : decode μ.cc pc = .ok (.iconst n, 1)) (hv : Int32.ofInt n = v) (hp : pc + 1 = pc')
    (h : gv_V μ k w pc' ls (.int v :: st) σ Q) : gv_V μ k w pc ls (st) σ Q := by
  intro p l e R s m args below meth c D cA ad Z hC hE H locs cells slots sl hw0 hc hs hX hP hS hl
  subst hp
  exact lv_iconst hC.1.1 hC.1.2.1 hd hv (h p l e R s m args below meth c D cA ad Z hC hE H locs cells slots sl hw0 hc hs hX hP hS hl)
theorem gv_bipush {μ : gM} {k pc pc' : Nat} {w : Bool} {ls : List (Option Value)} {st : List Value} {σ : gS} {Q : gQ → gS → Prop} {n : Int} {v : Int32} (hd : decode μ.cc pc = .ok (.bipush n, 2)) (hv : (Int8.ofInt n).toInt32 = v) (hp : pc + 2 = pc')
    (h : gv_V μ k w pc' ls (.int v :: st) σ Q) : gv_V μ k w pc ls (st) σ Q := by
  intro p l e R s m args below meth c D cA ad Z hC hE H locs cells slots sl hw0 hc hs hX hP hS hl
  subst hp
  exact lv_bipush hC.1.1 hC.1.2.1 hd hv (h p l e R s m args below meth c D cA ad Z hC hE H locs cells slots sl hw0 hc hs hX hP hS hl)
theorem gv_sipush {μ : gM} {k pc pc' : Nat} {w : Bool} {ls : List (Option Value)} {st : List Value} {σ : gS} {Q : gQ → gS → Prop} {n : Int} {v : Int32} (hd : decode μ.cc pc = .ok (.sipush n, 3)) (hv : (Int16.ofInt n).toInt32 = v) (hp : pc + 3 = pc')
    (h : gv_V μ k w pc' ls (.int v :: st) σ Q) : gv_V μ k w pc ls (st) σ Q := by
  intro p l e R s m args below meth c D cA ad Z hC hE H locs cells slots sl hw0 hc hs hX hP hS hl
  subst hp
  exact lv_sipush hC.1.1 hC.1.2.1 hd hv (h p l e R s m args below meth c D cA ad Z hC hE H locs cells slots sl hw0 hc hs hX hP hS hl)
theorem gv_lconst {μ : gM} {k pc pc' : Nat} {w : Bool} {ls : List (Option Value)} {st : List Value} {σ : gS} {Q : gQ → gS → Prop} {n : Fin 2} {v : Int64} (hd : decode μ.cc pc = .ok (.lconst n, 1)) (hv : Int64.ofNat (n : Nat) = v) (hp : pc + 1 = pc')
    (h : gv_V μ k w pc' ls (.long v :: st) σ Q) : gv_V μ k w pc ls (st) σ Q := by
  intro p l e R s m args below meth c D cA ad Z hC hE H locs cells slots sl hw0 hc hs hX hP hS hl
  subst hp
  exact lv_lconst hC.1.1 hC.1.2.1 hd hv (h p l e R s m args below meth c D cA ad Z hC hE H locs cells slots sl hw0 hc hs hX hP hS hl)
theorem gv_ldc {μ : gM} {k pc pc' : Nat} {w : Bool} {ls : List (Option Value)} {st : List Value} {σ : gS} {Q : gQ → gS → Prop} {i : Nat} {v : Int32} (hd : decode μ.cc pc = .ok (.ldc i, 2)) (hw : Cond.constant μ.y.cls i v ∈ gv_ws) (hp : pc + 2 = pc')
    (h : gv_V μ k w pc' ls (.int v :: st) σ Q) : gv_V μ k w pc ls st σ Q := by
  intro p l e R s m args below meth c D cA ad Z hC hE H locs cells slots sl hw0 hc hs hX hP hS hl
  subst hp
  exact lv_ldc hC.1.1 hC.1.2.1 hC.1.2.2.2.1 (va_tabs rfl rfl (hC.2.1 _ hw)) hd (h p l e R s m args below meth c D cA ad Z hC hE H locs cells slots sl hw0 hc hs hX hP hS hl)
theorem gv_ldc2 {μ : gM} {k pc pc' : Nat} {w : Bool} {ls : List (Option Value)} {st : List Value} {σ : gS} {Q : gQ → gS → Prop} {i : Nat} {v : Int64} (hd : decode μ.cc pc = .ok (.ldc2_w i, 3)) (hw : Cond.constantLong μ.y.cls i v ∈ gv_ws) (hp : pc + 3 = pc')
    (h : gv_V μ k w pc' ls (.long v :: st) σ Q) : gv_V μ k w pc ls st σ Q := by
  intro p l e R s m args below meth c D cA ad Z hC hE H locs cells slots sl hw0 hc hs hX hP hS hl
  subst hp
  exact lv_ldc2 hC.1.1 hC.1.2.1 hC.1.2.2.2.1 (va_tabs rfl rfl (hC.2.1 _ hw)) hd (h p l e R s m args below meth c D cA ad Z hC hE H locs cells slots sl hw0 hc hs hX hP hS hl)
theorem gv_iload_n {μ : gM} {k pc pc' : Nat} {w : Bool} {ls : List (Option Value)} {st : List Value} {σ : gS} {Q : gQ → gS → Prop} {n : Fin 4} {x : Int32} (hd : decode μ.cc pc = .ok (.iload_n n, 1)) (hi : ls[(n : Nat)]? = some (some (.int x))) (hp : pc + 1 = pc')
    (h : gv_V μ k w pc' ls (.int x :: st) σ Q) : gv_V μ k w pc ls st σ Q := by
  intro p l e R s m args below meth c D cA ad Z hC hE H locs cells slots sl hw0 hc hs hX hP hS hl
  subst hp
  exact lv_iload_n hC.1.1 hC.1.2.1 hd rfl (gv_lat hl hi) (h p l e R s m args below meth c D cA ad Z hC hE H locs cells slots sl hw0 hc hs hX hP hS hl)
theorem gv_iload {μ : gM} {k pc pc' : Nat} {w : Bool} {ls : List (Option Value)} {st : List Value} {σ : gS} {Q : gQ → gS → Prop} {n : Nat} {x : Int32} (hd : decode μ.cc pc = .ok (.iload n, 2)) (hi : ls[n]? = some (some (.int x))) (hp : pc + 2 = pc')
    (h : gv_V μ k w pc' ls (.int x :: st) σ Q) : gv_V μ k w pc ls st σ Q := by
  intro p l e R s m args below meth c D cA ad Z hC hE H locs cells slots sl hw0 hc hs hX hP hS hl
  subst hp
  exact lv_iload hC.1.1 hC.1.2.1 hd (gv_lat hl hi) (h p l e R s m args below meth c D cA ad Z hC hE H locs cells slots sl hw0 hc hs hX hP hS hl)
theorem gv_lload_n {μ : gM} {k pc pc' : Nat} {w : Bool} {ls : List (Option Value)} {st : List Value} {σ : gS} {Q : gQ → gS → Prop} {n : Fin 4} {x : Int64} (hd : decode μ.cc pc = .ok (.lload_n n, 1)) (hi : ls[(n : Nat)]? = some (some (.long x))) (hp : pc + 1 = pc')
    (h : gv_V μ k w pc' ls (.long x :: st) σ Q) : gv_V μ k w pc ls st σ Q := by
  intro p l e R s m args below meth c D cA ad Z hC hE H locs cells slots sl hw0 hc hs hX hP hS hl
  subst hp
  exact lv_lload_n hC.1.1 hC.1.2.1 hd rfl (gv_lat hl hi) (h p l e R s m args below meth c D cA ad Z hC hE H locs cells slots sl hw0 hc hs hX hP hS hl)
theorem gv_lload {μ : gM} {k pc pc' : Nat} {w : Bool} {ls : List (Option Value)} {st : List Value} {σ : gS} {Q : gQ → gS → Prop} {n : Nat} {x : Int64} (hd : decode μ.cc pc = .ok (.lload n, 2)) (hi : ls[n]? = some (some (.long x))) (hp : pc + 2 = pc')
    (h : gv_V μ k w pc' ls (.long x :: st) σ Q) : gv_V μ k w pc ls st σ Q := by
  intro p l e R s m args below meth c D cA ad Z hC hE H locs cells slots sl hw0 hc hs hX hP hS hl
  subst hp
  exact lv_lload hC.1.1 hC.1.2.1 hd (gv_lat hl hi) (h p l e R s m args below meth c D cA ad Z hC hE H locs cells slots sl hw0 hc hs hX hP hS hl)
theorem gv_aload_n {μ : gM} {k pc pc' : Nat} {w : Bool} {ls : List (Option Value)} {st : List Value} {σ : gS} {Q : gQ → gS → Prop} {n : Fin 4} {x : Nat} (hd : decode μ.cc pc = .ok (.aload_n n, 1)) (hi : ls[(n : Nat)]? = some (some (.ref x))) (hp : pc + 1 = pc')
    (h : gv_V μ k w pc' ls (.ref x :: st) σ Q) : gv_V μ k w pc ls st σ Q := by
  intro p l e R s m args below meth c D cA ad Z hC hE H locs cells slots sl hw0 hc hs hX hP hS hl
  subst hp
  exact lv_aload_n hC.1.1 hC.1.2.1 hd rfl (gv_lat hl hi) (h p l e R s m args below meth c D cA ad Z hC hE H locs cells slots sl hw0 hc hs hX hP hS hl)
theorem gv_aload {μ : gM} {k pc pc' : Nat} {w : Bool} {ls : List (Option Value)} {st : List Value} {σ : gS} {Q : gQ → gS → Prop} {n : Nat} {x : Nat} (hd : decode μ.cc pc = .ok (.aload n, 2)) (hi : ls[n]? = some (some (.ref x))) (hp : pc + 2 = pc')
    (h : gv_V μ k w pc' ls (.ref x :: st) σ Q) : gv_V μ k w pc ls st σ Q := by
  intro p l e R s m args below meth c D cA ad Z hC hE H locs cells slots sl hw0 hc hs hX hP hS hl
  subst hp
  exact lv_aload hC.1.1 hC.1.2.1 hd (gv_lat hl hi) (h p l e R s m args below meth c D cA ad Z hC hE H locs cells slots sl hw0 hc hs hX hP hS hl)
theorem gv_istore_n {μ : gM} {k pc pc' : Nat} {w : Bool} {ls : List (Option Value)} {st : List Value} {σ : gS} {Q : gQ → gS → Prop} {n : Fin 4} {x : Int32} (hd : decode μ.cc pc = .ok (.istore_n n, 1)) (hn : (n : Nat) < μ.nL) (hp : pc + 1 = pc')
    (h : gv_V μ k w pc' (gv_s1 ls (n : Nat) (.int x)) st σ Q) : gv_V μ k w pc ls (.int x :: st) σ Q := by
  intro p l e R s m args below meth c D cA ad Z hC hE H locs cells slots sl hw0 hc hs hX hP hS hl
  subst hp
  exact lv_istore_n hC.1.1 hC.1.2.1 hd rfl hl hn rfl (fun sl' hl' => h p l e R s m args below meth c D cA ad Z hC hE H locs cells slots sl' hw0 hc hs hX hP hS (gv_sub1 (v := .int x) hl'))
theorem gv_istore {μ : gM} {k pc pc' : Nat} {w : Bool} {ls : List (Option Value)} {st : List Value} {σ : gS} {Q : gQ → gS → Prop} {n : Nat} {x : Int32} (hd : decode μ.cc pc = .ok (.istore n, 2)) (hn : n < μ.nL) (hp : pc + 2 = pc')
    (h : gv_V μ k w pc' (gv_s1 ls n (.int x)) st σ Q) : gv_V μ k w pc ls (.int x :: st) σ Q := by
  intro p l e R s m args below meth c D cA ad Z hC hE H locs cells slots sl hw0 hc hs hX hP hS hl
  subst hp
  exact lv_istore hC.1.1 hC.1.2.1 hd hl hn rfl (fun sl' hl' => h p l e R s m args below meth c D cA ad Z hC hE H locs cells slots sl' hw0 hc hs hX hP hS (gv_sub1 (v := .int x) hl'))
theorem gv_lstore_n {μ : gM} {k pc pc' : Nat} {w : Bool} {ls : List (Option Value)} {st : List Value} {σ : gS} {Q : gQ → gS → Prop} {n : Fin 4} {x : Int64} (hd : decode μ.cc pc = .ok (.lstore_n n, 1)) (hn : (n : Nat) + 1 < μ.nL) (hp : pc + 1 = pc')
    (h : gv_V μ k w pc' (gv_s2 ls (n : Nat) (.long x)) st σ Q) : gv_V μ k w pc ls (.long x :: st) σ Q := by
  intro p l e R s m args below meth c D cA ad Z hC hE H locs cells slots sl hw0 hc hs hX hP hS hl
  subst hp
  exact lv_lstore_n hC.1.1 hC.1.2.1 hd rfl hl hn rfl (fun sl' hl' => h p l e R s m args below meth c D cA ad Z hC hE H locs cells slots sl' hw0 hc hs hX hP hS (gv_sub2 (v := .long x) hl'))
theorem gv_lstore {μ : gM} {k pc pc' : Nat} {w : Bool} {ls : List (Option Value)} {st : List Value} {σ : gS} {Q : gQ → gS → Prop} {n : Nat} {x : Int64} (hd : decode μ.cc pc = .ok (.lstore n, 2)) (hn : n + 1 < μ.nL) (hp : pc + 2 = pc')
    (h : gv_V μ k w pc' (gv_s2 ls n (.long x)) st σ Q) : gv_V μ k w pc ls (.long x :: st) σ Q := by
  intro p l e R s m args below meth c D cA ad Z hC hE H locs cells slots sl hw0 hc hs hX hP hS hl
  subst hp
  exact lv_lstore hC.1.1 hC.1.2.1 hd hl hn rfl (fun sl' hl' => h p l e R s m args below meth c D cA ad Z hC hE H locs cells slots sl' hw0 hc hs hX hP hS (gv_sub2 (v := .long x) hl'))
theorem gv_astore_n {μ : gM} {k pc pc' : Nat} {w : Bool} {ls : List (Option Value)} {st : List Value} {σ : gS} {Q : gQ → gS → Prop} {n : Fin 4} {x : Nat} (hd : decode μ.cc pc = .ok (.astore_n n, 1)) (hn : (n : Nat) < μ.nL) (hp : pc + 1 = pc')
    (h : gv_V μ k w pc' (gv_s1 ls (n : Nat) (.ref x)) st σ Q) : gv_V μ k w pc ls (.ref x :: st) σ Q := by
  intro p l e R s m args below meth c D cA ad Z hC hE H locs cells slots sl hw0 hc hs hX hP hS hl
  subst hp
  exact lv_astore_n hC.1.1 hC.1.2.1 hd rfl hl hn rfl (fun sl' hl' => h p l e R s m args below meth c D cA ad Z hC hE H locs cells slots sl' hw0 hc hs hX hP hS (gv_sub1 (v := .ref x) hl'))
theorem gv_astore {μ : gM} {k pc pc' : Nat} {w : Bool} {ls : List (Option Value)} {st : List Value} {σ : gS} {Q : gQ → gS → Prop} {n : Nat} {x : Nat} (hd : decode μ.cc pc = .ok (.astore n, 2)) (hn : n < μ.nL) (hp : pc + 2 = pc')
    (h : gv_V μ k w pc' (gv_s1 ls n (.ref x)) st σ Q) : gv_V μ k w pc ls (.ref x :: st) σ Q := by
  intro p l e R s m args below meth c D cA ad Z hC hE H locs cells slots sl hw0 hc hs hX hP hS hl
  subst hp
  exact lv_astore hC.1.1 hC.1.2.1 hd hl hn rfl (fun sl' hl' => h p l e R s m args below meth c D cA ad Z hC hE H locs cells slots sl' hw0 hc hs hX hP hS (gv_sub1 (v := .ref x) hl'))
theorem gv_iinc {μ : gM} {k pc pc' : Nat} {w : Bool} {ls : List (Option Value)} {st : List Value} {σ : gS} {Q : gQ → gS → Prop} {i : Nat} {n : Int} {x v : Int32} (hd : decode μ.cc pc = .ok (.iinc i n, 3)) (hi : ls[i]? = some (some (.int x))) (hv : x + Int32.ofInt n = v) (hn : i < μ.nL) (hp : pc + 3 = pc')
    (h : gv_V μ k w pc' (gv_s1 ls i (.int v)) st σ Q) : gv_V μ k w pc ls st σ Q := by
  intro p l e R s m args below meth c D cA ad Z hC hE H locs cells slots sl hw0 hc hs hX hP hS hl
  subst hp
  have hl2 : lv_has sl μ.nL ((i, .int x) :: gv_l ad ls) := ⟨hl.1, hl.2.1, fun q hq => by
    rcases List.mem_cons.mp hq with rfl | hq
    · exact gv_lat hl hi
    · exact hl.2.2 q hq⟩
  refine lv_iinc (k := 0) hC.1.1 hC.1.2.1 hd hl2 rfl hv hn rfl (fun sl' hl' => h p l e R s m args below meth c D cA ad Z hC hE H locs cells slots sl' hw0 hc hs hX hP hS (gv_sub1 (v := .int v) ⟨hl'.1, hl'.2.1, fun q hq => hl'.2.2 q ?_⟩))
  rcases List.mem_cons.mp hq with rfl | hq
  · exact List.mem_cons_self
  · refine List.mem_cons_of_mem _ ?_
    obtain ⟨a, b⟩ := List.mem_filter.mp hq
    exact List.mem_filter.mpr ⟨List.mem_cons_of_mem _ a, b⟩
theorem gv_iadd {μ : gM} {k pc pc' : Nat} {w : Bool} {ls : List (Option Value)} {st : List Value} {σ : gS} {Q : gQ → gS → Prop} {x y : Int32} (hd : decode μ.cc pc = .ok (.iadd, 1)) (hp : pc + 1 = pc')
    (h : gv_V μ k w pc' ls (.int (x + y) :: st) σ Q) : gv_V μ k w pc ls (.int y :: .int x :: st) σ Q := by
  intro p l e R s m args below meth c D cA ad Z hC hE H locs cells slots sl hw0 hc hs hX hP hS hl
  subst hp
  exact lv_iadd hC.1.1 hC.1.2.1 hd  (h p l e R s m args below meth c D cA ad Z hC hE H locs cells slots sl hw0 hc hs hX hP hS hl)
theorem gv_isub {μ : gM} {k pc pc' : Nat} {w : Bool} {ls : List (Option Value)} {st : List Value} {σ : gS} {Q : gQ → gS → Prop} {x y : Int32} (hd : decode μ.cc pc = .ok (.isub, 1)) (hp : pc + 1 = pc')
    (h : gv_V μ k w pc' ls (.int (x - y) :: st) σ Q) : gv_V μ k w pc ls (.int y :: .int x :: st) σ Q := by
  intro p l e R s m args below meth c D cA ad Z hC hE H locs cells slots sl hw0 hc hs hX hP hS hl
  subst hp
  exact lv_isub hC.1.1 hC.1.2.1 hd  (h p l e R s m args below meth c D cA ad Z hC hE H locs cells slots sl hw0 hc hs hX hP hS hl)
theorem gv_imul {μ : gM} {k pc pc' : Nat} {w : Bool} {ls : List (Option Value)} {st : List Value} {σ : gS} {Q : gQ → gS → Prop} {x y : Int32} (hd : decode μ.cc pc = .ok (.imul, 1)) (hp : pc + 1 = pc')
    (h : gv_V μ k w pc' ls (.int (x * y) :: st) σ Q) : gv_V μ k w pc ls (.int y :: .int x :: st) σ Q := by
  intro p l e R s m args below meth c D cA ad Z hC hE H locs cells slots sl hw0 hc hs hX hP hS hl
  subst hp
  exact lv_imul hC.1.1 hC.1.2.1 hd  (h p l e R s m args below meth c D cA ad Z hC hE H locs cells slots sl hw0 hc hs hX hP hS hl)
theorem gv_iand {μ : gM} {k pc pc' : Nat} {w : Bool} {ls : List (Option Value)} {st : List Value} {σ : gS} {Q : gQ → gS → Prop} {x y : Int32} (hd : decode μ.cc pc = .ok (.iand, 1)) (hp : pc + 1 = pc')
    (h : gv_V μ k w pc' ls (.int (x &&& y) :: st) σ Q) : gv_V μ k w pc ls (.int y :: .int x :: st) σ Q := by
  intro p l e R s m args below meth c D cA ad Z hC hE H locs cells slots sl hw0 hc hs hX hP hS hl
  subst hp
  exact lv_iand hC.1.1 hC.1.2.1 hd  (h p l e R s m args below meth c D cA ad Z hC hE H locs cells slots sl hw0 hc hs hX hP hS hl)
theorem gv_ior {μ : gM} {k pc pc' : Nat} {w : Bool} {ls : List (Option Value)} {st : List Value} {σ : gS} {Q : gQ → gS → Prop} {x y : Int32} (hd : decode μ.cc pc = .ok (.ior, 1)) (hp : pc + 1 = pc')
    (h : gv_V μ k w pc' ls (.int (x ||| y) :: st) σ Q) : gv_V μ k w pc ls (.int y :: .int x :: st) σ Q := by
  intro p l e R s m args below meth c D cA ad Z hC hE H locs cells slots sl hw0 hc hs hX hP hS hl
  subst hp
  exact lv_ior hC.1.1 hC.1.2.1 hd  (h p l e R s m args below meth c D cA ad Z hC hE H locs cells slots sl hw0 hc hs hX hP hS hl)
theorem gv_ixor {μ : gM} {k pc pc' : Nat} {w : Bool} {ls : List (Option Value)} {st : List Value} {σ : gS} {Q : gQ → gS → Prop} {x y : Int32} (hd : decode μ.cc pc = .ok (.ixor, 1)) (hp : pc + 1 = pc')
    (h : gv_V μ k w pc' ls (.int (x ^^^ y) :: st) σ Q) : gv_V μ k w pc ls (.int y :: .int x :: st) σ Q := by
  intro p l e R s m args below meth c D cA ad Z hC hE H locs cells slots sl hw0 hc hs hX hP hS hl
  subst hp
  exact lv_ixor hC.1.1 hC.1.2.1 hd  (h p l e R s m args below meth c D cA ad Z hC hE H locs cells slots sl hw0 hc hs hX hP hS hl)
theorem gv_ishl {μ : gM} {k pc pc' : Nat} {w : Bool} {ls : List (Option Value)} {st : List Value} {σ : gS} {Q : gQ → gS → Prop} {x y : Int32} (hd : decode μ.cc pc = .ok (.ishl, 1)) (hp : pc + 1 = pc')
    (h : gv_V μ k w pc' ls (.int (x <<< (y &&& 31)) :: st) σ Q) : gv_V μ k w pc ls (.int y :: .int x :: st) σ Q := by
  intro p l e R s m args below meth c D cA ad Z hC hE H locs cells slots sl hw0 hc hs hX hP hS hl
  subst hp
  exact lv_ishl hC.1.1 hC.1.2.1 hd  (h p l e R s m args below meth c D cA ad Z hC hE H locs cells slots sl hw0 hc hs hX hP hS hl)
theorem gv_ishr {μ : gM} {k pc pc' : Nat} {w : Bool} {ls : List (Option Value)} {st : List Value} {σ : gS} {Q : gQ → gS → Prop} {x y : Int32} (hd : decode μ.cc pc = .ok (.ishr, 1)) (hp : pc + 1 = pc')
    (h : gv_V μ k w pc' ls (.int (x >>> (y &&& 31)) :: st) σ Q) : gv_V μ k w pc ls (.int y :: .int x :: st) σ Q := by
  intro p l e R s m args below meth c D cA ad Z hC hE H locs cells slots sl hw0 hc hs hX hP hS hl
  subst hp
  exact lv_ishr hC.1.1 hC.1.2.1 hd  (h p l e R s m args below meth c D cA ad Z hC hE H locs cells slots sl hw0 hc hs hX hP hS hl)
theorem gv_idiv {μ : gM} {k pc pc' : Nat} {w : Bool} {ls : List (Option Value)} {st : List Value} {σ : gS} {Q : gQ → gS → Prop} {x y : Int32} (hd : decode μ.cc pc = .ok (.idiv, 1)) (hne : ¬ y = 0) (hp : pc + 1 = pc')
    (h : gv_V μ k w pc' ls (.int (x / y) :: st) σ Q) : gv_V μ k w pc ls (.int y :: .int x :: st) σ Q := by
  intro p l e R s m args below meth c D cA ad Z hC hE H locs cells slots sl hw0 hc hs hX hP hS hl
  subst hp
  exact lv_idiv hC.1.1 hC.1.2.1 hd hne (h p l e R s m args below meth c D cA ad Z hC hE H locs cells slots sl hw0 hc hs hX hP hS hl)
theorem gv_irem {μ : gM} {k pc pc' : Nat} {w : Bool} {ls : List (Option Value)} {st : List Value} {σ : gS} {Q : gQ → gS → Prop} {x y : Int32} (hd : decode μ.cc pc = .ok (.irem, 1)) (hne : ¬ y = 0) (hp : pc + 1 = pc')
    (h : gv_V μ k w pc' ls (.int (x - x / y * y) :: st) σ Q) : gv_V μ k w pc ls (.int y :: .int x :: st) σ Q := by
  intro p l e R s m args below meth c D cA ad Z hC hE H locs cells slots sl hw0 hc hs hX hP hS hl
  subst hp
  exact lv_irem hC.1.1 hC.1.2.1 hd hne (h p l e R s m args below meth c D cA ad Z hC hE H locs cells slots sl hw0 hc hs hX hP hS hl)
theorem gv_ineg {μ : gM} {k pc pc' : Nat} {w : Bool} {ls : List (Option Value)} {st : List Value} {σ : gS} {Q : gQ → gS → Prop} {x : Int32} (hd : decode μ.cc pc = .ok (.ineg, 1)) (hp : pc + 1 = pc')
    (h : gv_V μ k w pc' ls (.int (-x) :: st) σ Q) : gv_V μ k w pc ls (.int x :: st) σ Q := by
  intro p l e R s m args below meth c D cA ad Z hC hE H locs cells slots sl hw0 hc hs hX hP hS hl
  subst hp
  exact lv_ineg hC.1.1 hC.1.2.1 hd  (h p l e R s m args below meth c D cA ad Z hC hE H locs cells slots sl hw0 hc hs hX hP hS hl)
theorem gv_iushr {μ : gM} {k pc pc' : Nat} {w : Bool} {ls : List (Option Value)} {st : List Value} {σ : gS} {Q : gQ → gS → Prop} {x y : Int32} (hd : decode μ.cc pc = .ok (.iushr, 1)) (hp : pc + 1 = pc')
    (h : gv_V μ k w pc' ls (.int (x.toUInt32 >>> (y.toUInt32 &&& Int32.toUInt32 31)).toInt32 :: st) σ Q) : gv_V μ k w pc ls (.int y :: .int x :: st) σ Q := by
  intro p l e R s m args below meth c D cA ad Z hC hE H locs cells slots sl hw0 hc hs hX hP hS hl
  subst hp
  exact lv_iushr hC.1.1 hC.1.2.1 hd rfl (h p l e R s m args below meth c D cA ad Z hC hE H locs cells slots sl hw0 hc hs hX hP hS hl)
theorem gv_ladd {μ : gM} {k pc pc' : Nat} {w : Bool} {ls : List (Option Value)} {st : List Value} {σ : gS} {Q : gQ → gS → Prop} {x y : Int64} (hd : decode μ.cc pc = .ok (.ladd, 1)) (hp : pc + 1 = pc')
    (h : gv_V μ k w pc' ls (.long (x + y) :: st) σ Q) : gv_V μ k w pc ls (.long y :: .long x :: st) σ Q := by
  intro p l e R s m args below meth c D cA ad Z hC hE H locs cells slots sl hw0 hc hs hX hP hS hl
  subst hp
  exact lv_ladd hC.1.1 hC.1.2.1 hd  (h p l e R s m args below meth c D cA ad Z hC hE H locs cells slots sl hw0 hc hs hX hP hS hl)
theorem gv_lsub {μ : gM} {k pc pc' : Nat} {w : Bool} {ls : List (Option Value)} {st : List Value} {σ : gS} {Q : gQ → gS → Prop} {x y : Int64} (hd : decode μ.cc pc = .ok (.lsub, 1)) (hp : pc + 1 = pc')
    (h : gv_V μ k w pc' ls (.long (x - y) :: st) σ Q) : gv_V μ k w pc ls (.long y :: .long x :: st) σ Q := by
  intro p l e R s m args below meth c D cA ad Z hC hE H locs cells slots sl hw0 hc hs hX hP hS hl
  subst hp
  exact lv_lsub hC.1.1 hC.1.2.1 hd  (h p l e R s m args below meth c D cA ad Z hC hE H locs cells slots sl hw0 hc hs hX hP hS hl)
theorem gv_lmul {μ : gM} {k pc pc' : Nat} {w : Bool} {ls : List (Option Value)} {st : List Value} {σ : gS} {Q : gQ → gS → Prop} {x y : Int64} (hd : decode μ.cc pc = .ok (.lmul, 1)) (hp : pc + 1 = pc')
    (h : gv_V μ k w pc' ls (.long (x * y) :: st) σ Q) : gv_V μ k w pc ls (.long y :: .long x :: st) σ Q := by
  intro p l e R s m args below meth c D cA ad Z hC hE H locs cells slots sl hw0 hc hs hX hP hS hl
  subst hp
  exact lv_lmul hC.1.1 hC.1.2.1 hd  (h p l e R s m args below meth c D cA ad Z hC hE H locs cells slots sl hw0 hc hs hX hP hS hl)
theorem gv_land {μ : gM} {k pc pc' : Nat} {w : Bool} {ls : List (Option Value)} {st : List Value} {σ : gS} {Q : gQ → gS → Prop} {x y : Int64} (hd : decode μ.cc pc = .ok (.land, 1)) (hp : pc + 1 = pc')
    (h : gv_V μ k w pc' ls (.long (x &&& y) :: st) σ Q) : gv_V μ k w pc ls (.long y :: .long x :: st) σ Q := by
  intro p l e R s m args below meth c D cA ad Z hC hE H locs cells slots sl hw0 hc hs hX hP hS hl
  subst hp
  exact lv_land hC.1.1 hC.1.2.1 hd  (h p l e R s m args below meth c D cA ad Z hC hE H locs cells slots sl hw0 hc hs hX hP hS hl)
theorem gv_lor {μ : gM} {k pc pc' : Nat} {w : Bool} {ls : List (Option Value)} {st : List Value} {σ : gS} {Q : gQ → gS → Prop} {x y : Int64} (hd : decode μ.cc pc = .ok (.lor, 1)) (hp : pc + 1 = pc')
    (h : gv_V μ k w pc' ls (.long (x ||| y) :: st) σ Q) : gv_V μ k w pc ls (.long y :: .long x :: st) σ Q := by
  intro p l e R s m args below meth c D cA ad Z hC hE H locs cells slots sl hw0 hc hs hX hP hS hl
  subst hp
  exact lv_lor hC.1.1 hC.1.2.1 hd  (h p l e R s m args below meth c D cA ad Z hC hE H locs cells slots sl hw0 hc hs hX hP hS hl)
theorem gv_lxor {μ : gM} {k pc pc' : Nat} {w : Bool} {ls : List (Option Value)} {st : List Value} {σ : gS} {Q : gQ → gS → Prop} {x y : Int64} (hd : decode μ.cc pc = .ok (.lxor, 1)) (hp : pc + 1 = pc')
    (h : gv_V μ k w pc' ls (.long (x ^^^ y) :: st) σ Q) : gv_V μ k w pc ls (.long y :: .long x :: st) σ Q := by
  intro p l e R s m args below meth c D cA ad Z hC hE H locs cells slots sl hw0 hc hs hX hP hS hl
  subst hp
  exact lv_lxor hC.1.1 hC.1.2.1 hd  (h p l e R s m args below meth c D cA ad Z hC hE H locs cells slots sl hw0 hc hs hX hP hS hl)
theorem gv_ldiv {μ : gM} {k pc pc' : Nat} {w : Bool} {ls : List (Option Value)} {st : List Value} {σ : gS} {Q : gQ → gS → Prop} {x y : Int64} (hd : decode μ.cc pc = .ok (.ldiv, 1)) (hne : ¬ y = 0) (hp : pc + 1 = pc')
    (h : gv_V μ k w pc' ls (.long (x / y) :: st) σ Q) : gv_V μ k w pc ls (.long y :: .long x :: st) σ Q := by
  intro p l e R s m args below meth c D cA ad Z hC hE H locs cells slots sl hw0 hc hs hX hP hS hl
  subst hp
  exact lv_ldiv hC.1.1 hC.1.2.1 hd hne (h p l e R s m args below meth c D cA ad Z hC hE H locs cells slots sl hw0 hc hs hX hP hS hl)
theorem gv_lrem {μ : gM} {k pc pc' : Nat} {w : Bool} {ls : List (Option Value)} {st : List Value} {σ : gS} {Q : gQ → gS → Prop} {x y : Int64} (hd : decode μ.cc pc = .ok (.lrem, 1)) (hne : ¬ y = 0) (hp : pc + 1 = pc')
    (h : gv_V μ k w pc' ls (.long (x - x / y * y) :: st) σ Q) : gv_V μ k w pc ls (.long y :: .long x :: st) σ Q := by
  intro p l e R s m args below meth c D cA ad Z hC hE H locs cells slots sl hw0 hc hs hX hP hS hl
  subst hp
  exact lv_lrem hC.1.1 hC.1.2.1 hd hne (h p l e R s m args below meth c D cA ad Z hC hE H locs cells slots sl hw0 hc hs hX hP hS hl)
theorem gv_lneg {μ : gM} {k pc pc' : Nat} {w : Bool} {ls : List (Option Value)} {st : List Value} {σ : gS} {Q : gQ → gS → Prop} {x : Int64} (hd : decode μ.cc pc = .ok (.lneg, 1)) (hp : pc + 1 = pc')
    (h : gv_V μ k w pc' ls (.long (-x) :: st) σ Q) : gv_V μ k w pc ls (.long x :: st) σ Q := by
  intro p l e R s m args below meth c D cA ad Z hC hE H locs cells slots sl hw0 hc hs hX hP hS hl
  subst hp
  exact lv_lneg hC.1.1 hC.1.2.1 hd  (h p l e R s m args below meth c D cA ad Z hC hE H locs cells slots sl hw0 hc hs hX hP hS hl)
theorem gv_lshl {μ : gM} {k pc pc' : Nat} {w : Bool} {ls : List (Option Value)} {st : List Value} {σ : gS} {Q : gQ → gS → Prop} {x : Int64} {y : Int32} (hd : decode μ.cc pc = .ok (.lshl, 1)) (hp : pc + 1 = pc')
    (h : gv_V μ k w pc' ls (.long (x <<< (y.toInt64 &&& 63)) :: st) σ Q) : gv_V μ k w pc ls (.int y :: .long x :: st) σ Q := by
  intro p l e R s m args below meth c D cA ad Z hC hE H locs cells slots sl hw0 hc hs hX hP hS hl
  subst hp
  exact lv_lshl hC.1.1 hC.1.2.1 hd rfl (h p l e R s m args below meth c D cA ad Z hC hE H locs cells slots sl hw0 hc hs hX hP hS hl)
theorem gv_lshr {μ : gM} {k pc pc' : Nat} {w : Bool} {ls : List (Option Value)} {st : List Value} {σ : gS} {Q : gQ → gS → Prop} {x : Int64} {y : Int32} (hd : decode μ.cc pc = .ok (.lshr, 1)) (hp : pc + 1 = pc')
    (h : gv_V μ k w pc' ls (.long (x >>> (y.toInt64 &&& 63)) :: st) σ Q) : gv_V μ k w pc ls (.int y :: .long x :: st) σ Q := by
  intro p l e R s m args below meth c D cA ad Z hC hE H locs cells slots sl hw0 hc hs hX hP hS hl
  subst hp
  exact lv_lshr hC.1.1 hC.1.2.1 hd rfl (h p l e R s m args below meth c D cA ad Z hC hE H locs cells slots sl hw0 hc hs hX hP hS hl)
theorem gv_lushr {μ : gM} {k pc pc' : Nat} {w : Bool} {ls : List (Option Value)} {st : List Value} {σ : gS} {Q : gQ → gS → Prop} {x : Int64} {y : Int32} (hd : decode μ.cc pc = .ok (.lushr, 1)) (hp : pc + 1 = pc')
    (h : gv_V μ k w pc' ls (.long (x.toUInt64 >>> (y.toInt64.toUInt64 &&& Int64.toUInt64 63)).toInt64 :: st) σ Q) : gv_V μ k w pc ls (.int y :: .long x :: st) σ Q := by
  intro p l e R s m args below meth c D cA ad Z hC hE H locs cells slots sl hw0 hc hs hX hP hS hl
  subst hp
  exact lv_lushr hC.1.1 hC.1.2.1 hd rfl (h p l e R s m args below meth c D cA ad Z hC hE H locs cells slots sl hw0 hc hs hX hP hS hl)
theorem gv_i2l {μ : gM} {k pc pc' : Nat} {w : Bool} {ls : List (Option Value)} {st : List Value} {σ : gS} {Q : gQ → gS → Prop} {x : Int32} (hd : decode μ.cc pc = .ok (.i2l, 1)) (hp : pc + 1 = pc')
    (h : gv_V μ k w pc' ls (.long x.toInt64 :: st) σ Q) : gv_V μ k w pc ls (.int x :: st) σ Q := by
  intro p l e R s m args below meth c D cA ad Z hC hE H locs cells slots sl hw0 hc hs hX hP hS hl
  subst hp
  exact lv_i2l hC.1.1 hC.1.2.1 hd rfl (h p l e R s m args below meth c D cA ad Z hC hE H locs cells slots sl hw0 hc hs hX hP hS hl)
theorem gv_l2i {μ : gM} {k pc pc' : Nat} {w : Bool} {ls : List (Option Value)} {st : List Value} {σ : gS} {Q : gQ → gS → Prop} {x : Int64} (hd : decode μ.cc pc = .ok (.l2i, 1)) (hp : pc + 1 = pc')
    (h : gv_V μ k w pc' ls (.int x.toInt32 :: st) σ Q) : gv_V μ k w pc ls (.long x :: st) σ Q := by
  intro p l e R s m args below meth c D cA ad Z hC hE H locs cells slots sl hw0 hc hs hX hP hS hl
  subst hp
  exact lv_l2i hC.1.1 hC.1.2.1 hd rfl (h p l e R s m args below meth c D cA ad Z hC hE H locs cells slots sl hw0 hc hs hX hP hS hl)
theorem gv_i2b {μ : gM} {k pc pc' : Nat} {w : Bool} {ls : List (Option Value)} {st : List Value} {σ : gS} {Q : gQ → gS → Prop} {x : Int32} (hd : decode μ.cc pc = .ok (.i2b, 1)) (hp : pc + 1 = pc')
    (h : gv_V μ k w pc' ls (.int x.toInt8.toInt32 :: st) σ Q) : gv_V μ k w pc ls (.int x :: st) σ Q := by
  intro p l e R s m args below meth c D cA ad Z hC hE H locs cells slots sl hw0 hc hs hX hP hS hl
  subst hp
  exact lv_i2b hC.1.1 hC.1.2.1 hd rfl (h p l e R s m args below meth c D cA ad Z hC hE H locs cells slots sl hw0 hc hs hX hP hS hl)
theorem gv_lcmp {μ : gM} {k pc pc' : Nat} {w : Bool} {ls : List (Option Value)} {st : List Value} {σ : gS} {Q : gQ → gS → Prop} {x y : Int64} (hd : decode μ.cc pc = .ok (.lcmp, 1)) (hp : pc + 1 = pc')
    (h : gv_V μ k w pc' ls (.int (lg_cmp x y) :: st) σ Q) : gv_V μ k w pc ls (.long y :: .long x :: st) σ Q := by
  intro p l e R s m args below meth c D cA ad Z hC hE H locs cells slots sl hw0 hc hs hX hP hS hl
  subst hp
  exact W.lcmp hC.1.1 hC.1.2.1 hd  (h p l e R s m args below meth c D cA ad Z hC hE H locs cells slots sl hw0 hc hs hX hP hS hl)
theorem gv_dup {μ : gM} {k pc pc' : Nat} {w : Bool} {ls : List (Option Value)} {st : List Value} {σ : gS} {Q : gQ → gS → Prop} {va : Value} (hd : decode μ.cc pc = .ok (.dup, 1)) (hva : va.category = 1) (hp : pc + 1 = pc')
    (h : gv_V μ k w pc' ls (va :: va :: st) σ Q) : gv_V μ k w pc ls (va :: st) σ Q := by
  intro p l e R s m args below meth c D cA ad Z hC hE H locs cells slots sl hw0 hc hs hX hP hS hl
  subst hp
  exact lv_dup hC.1.1 hC.1.2.1 hd ((gv_tc ad va).trans hva) (h p l e R s m args below meth c D cA ad Z hC hE H locs cells slots sl hw0 hc hs hX hP hS hl)
theorem gv_pop {μ : gM} {k pc pc' : Nat} {w : Bool} {ls : List (Option Value)} {st : List Value} {σ : gS} {Q : gQ → gS → Prop} {va : Value} (hd : decode μ.cc pc = .ok (.pop, 1)) (hva : va.category = 1) (hp : pc + 1 = pc')
    (h : gv_V μ k w pc' ls (st) σ Q) : gv_V μ k w pc ls (va :: st) σ Q := by
  intro p l e R s m args below meth c D cA ad Z hC hE H locs cells slots sl hw0 hc hs hX hP hS hl
  subst hp
  exact lv_pop hC.1.1 hC.1.2.1 hd ((gv_tc ad va).trans hva) (h p l e R s m args below meth c D cA ad Z hC hE H locs cells slots sl hw0 hc hs hX hP hS hl)
theorem gv_dup_x1 {μ : gM} {k pc pc' : Nat} {w : Bool} {ls : List (Option Value)} {st : List Value} {σ : gS} {Q : gQ → gS → Prop} {va vb : Value} (hd : decode μ.cc pc = .ok (.dup_x1, 1)) (hva : va.category = 1) (hvb : vb.category = 1) (hp : pc + 1 = pc')
    (h : gv_V μ k w pc' ls (va :: vb :: va :: st) σ Q) : gv_V μ k w pc ls (va :: vb :: st) σ Q := by
  intro p l e R s m args below meth c D cA ad Z hC hE H locs cells slots sl hw0 hc hs hX hP hS hl
  subst hp
  exact lv_dup_x1 hC.1.1 hC.1.2.1 hd ((gv_tc ad va).trans hva) ((gv_tc ad vb).trans hvb) (h p l e R s m args below meth c D cA ad Z hC hE H locs cells slots sl hw0 hc hs hX hP hS hl)
theorem gv_dup_x2 {μ : gM} {k pc pc' : Nat} {w : Bool} {ls : List (Option Value)} {st : List Value} {σ : gS} {Q : gQ → gS → Prop} {va vb vd : Value} (hd : decode μ.cc pc = .ok (.dup_x2, 1)) (hva : va.category = 1) (hvb : vb.category = 1) (hvd : vd.category = 1) (hp : pc + 1 = pc')
    (h : gv_V μ k w pc' ls (va :: vb :: vd :: va :: st) σ Q) : gv_V μ k w pc ls (va :: vb :: vd :: st) σ Q := by
  intro p l e R s m args below meth c D cA ad Z hC hE H locs cells slots sl hw0 hc hs hX hP hS hl
  subst hp
  exact lv_dup_x2 hC.1.1 hC.1.2.1 hd ((gv_tc ad va).trans hva) ((gv_tc ad vb).trans hvb) ((gv_tc ad vd).trans hvd) (h p l e R s m args below meth c D cA ad Z hC hE H locs cells slots sl hw0 hc hs hX hP hS hl)
theorem gv_dup2_11 {μ : gM} {k pc pc' : Nat} {w : Bool} {ls : List (Option Value)} {st : List Value} {σ : gS} {Q : gQ → gS → Prop} {va vb : Value} (hd : decode μ.cc pc = .ok (.dup2, 1)) (hva : va.category = 1) (hvb : vb.category = 1) (hp : pc + 1 = pc')
    (h : gv_V μ k w pc' ls (va :: vb :: va :: vb :: st) σ Q) : gv_V μ k w pc ls (va :: vb :: st) σ Q := by
  intro p l e R s m args below meth c D cA ad Z hC hE H locs cells slots sl hw0 hc hs hX hP hS hl
  subst hp
  exact lv_dup2_11 hC.1.1 hC.1.2.1 hd ((gv_tc ad va).trans hva) ((gv_tc ad vb).trans hvb) (h p l e R s m args below meth c D cA ad Z hC hE H locs cells slots sl hw0 hc hs hX hP hS hl)
theorem gv_dup2_2 {μ : gM} {k pc pc' : Nat} {w : Bool} {ls : List (Option Value)} {st : List Value} {σ : gS} {Q : gQ → gS → Prop} {va : Value} (hd : decode μ.cc pc = .ok (.dup2, 1)) (hva : va.category = 2) (hp : pc + 1 = pc')
    (h : gv_V μ k w pc' ls (va :: va :: st) σ Q) : gv_V μ k w pc ls (va :: st) σ Q := by
  intro p l e R s m args below meth c D cA ad Z hC hE H locs cells slots sl hw0 hc hs hX hP hS hl
  subst hp
  exact lv_dup2_2 hC.1.1 hC.1.2.1 hd ((gv_tc ad va).trans hva) (h p l e R s m args below meth c D cA ad Z hC hE H locs cells slots sl hw0 hc hs hX hP hS hl)
theorem gv_pop2_2 {μ : gM} {k pc pc' : Nat} {w : Bool} {ls : List (Option Value)} {st : List Value} {σ : gS} {Q : gQ → gS → Prop} {va : Value} (hd : decode μ.cc pc = .ok (.pop2, 1)) (hva : va.category = 2) (hp : pc + 1 = pc')
    (h : gv_V μ k w pc' ls (st) σ Q) : gv_V μ k w pc ls (va :: st) σ Q := by
  intro p l e R s m args below meth c D cA ad Z hC hE H locs cells slots sl hw0 hc hs hX hP hS hl
  subst hp
  exact lv_pop2_2 hC.1.1 hC.1.2.1 hd ((gv_tc ad va).trans hva) (h p l e R s m args below meth c D cA ad Z hC hE H locs cells slots sl hw0 hc hs hX hP hS hl)
theorem gv_dup2_x1_2 {μ : gM} {k pc pc' : Nat} {w : Bool} {ls : List (Option Value)} {st : List Value} {σ : gS} {Q : gQ → gS → Prop} {va vb : Value} (hd : decode μ.cc pc = .ok (.dup2_x1, 1)) (hva : va.category = 2) (hvb : vb.category = 1) (hp : pc + 1 = pc')
    (h : gv_V μ k w pc' ls (va :: vb :: va :: st) σ Q) : gv_V μ k w pc ls (va :: vb :: st) σ Q := by
  intro p l e R s m args below meth c D cA ad Z hC hE H locs cells slots sl hw0 hc hs hX hP hS hl
  subst hp
  exact lv_dup2_x1_2 hC.1.1 hC.1.2.1 hd ((gv_tc ad va).trans hva) ((gv_tc ad vb).trans hvb) (h p l e R s m args below meth c D cA ad Z hC hE H locs cells slots sl hw0 hc hs hX hP hS hl)
theorem gv_if_eq {μ : gM} {k pc tgt pc' : Nat} {w : Bool} {ls : List (Option Value)} {st : List Value} {σ : gS} {Q : gQ → gS → Prop} {off : Int} {x : Int32} (hd : decode μ.cc pc = .ok (.ifCond .eq off, 3)) (ht : (pc : Int) + off = (tgt : Int)) (hp : pc + 3 = pc')
    (h1 : x = 0 → gv_V μ k w tgt ls st σ Q) (h2 : ¬ x = 0 → gv_V μ k w pc' ls st σ Q) : gv_V μ k w pc ls (.int x :: st) σ Q := by
  intro p l e R s m args below meth c D cA ad Z hC hE H locs cells slots sl hw0 hc hs hX hP hS hl
  subst hp
  exact lv_if_eq hC.1.1 hC.1.2.1 hd ht (fun z => h1 z p l e R s m args below meth c D cA ad Z hC hE H locs cells slots sl hw0 hc hs hX hP hS hl) (fun z => h2 z p l e R s m args below meth c D cA ad Z hC hE H locs cells slots sl hw0 hc hs hX hP hS hl)
theorem gv_icmp_eq {μ : gM} {k pc tgt pc' : Nat} {w : Bool} {ls : List (Option Value)} {st : List Value} {σ : gS} {Q : gQ → gS → Prop} {off : Int} {x y : Int32} (hd : decode μ.cc pc = .ok (.if_icmp .eq off, 3)) (ht : (pc : Int) + off = (tgt : Int)) (hp : pc + 3 = pc')
    (h1 : x = y → gv_V μ k w tgt ls st σ Q) (h2 : ¬ x = y → gv_V μ k w pc' ls st σ Q) : gv_V μ k w pc ls (.int y :: .int x :: st) σ Q := by
  intro p l e R s m args below meth c D cA ad Z hC hE H locs cells slots sl hw0 hc hs hX hP hS hl
  subst hp
  exact lv_icmp_eq hC.1.1 hC.1.2.1 hd ht (fun z => h1 z p l e R s m args below meth c D cA ad Z hC hE H locs cells slots sl hw0 hc hs hX hP hS hl) (fun z => h2 z p l e R s m args below meth c D cA ad Z hC hE H locs cells slots sl hw0 hc hs hX hP hS hl)
theorem gv_if_ne {μ : gM} {k pc tgt pc' : Nat} {w : Bool} {ls : List (Option Value)} {st : List Value} {σ : gS} {Q : gQ → gS → Prop} {off : Int} {x : Int32} (hd : decode μ.cc pc = .ok (.ifCond .ne off, 3)) (ht : (pc : Int) + off = (tgt : Int)) (hp : pc + 3 = pc')
    (h1 : ¬ x = 0 → gv_V μ k w tgt ls st σ Q) (h2 : x = 0 → gv_V μ k w pc' ls st σ Q) : gv_V μ k w pc ls (.int x :: st) σ Q := by
  intro p l e R s m args below meth c D cA ad Z hC hE H locs cells slots sl hw0 hc hs hX hP hS hl
  subst hp
  exact lv_if_ne hC.1.1 hC.1.2.1 hd ht (fun z => h1 z p l e R s m args below meth c D cA ad Z hC hE H locs cells slots sl hw0 hc hs hX hP hS hl) (fun z => h2 z p l e R s m args below meth c D cA ad Z hC hE H locs cells slots sl hw0 hc hs hX hP hS hl)
theorem gv_icmp_ne {μ : gM} {k pc tgt pc' : Nat} {w : Bool} {ls : List (Option Value)} {st : List Value} {σ : gS} {Q : gQ → gS → Prop} {off : Int} {x y : Int32} (hd : decode μ.cc pc = .ok (.if_icmp .ne off, 3)) (ht : (pc : Int) + off = (tgt : Int)) (hp : pc + 3 = pc')
    (h1 : ¬ x = y → gv_V μ k w tgt ls st σ Q) (h2 : x = y → gv_V μ k w pc' ls st σ Q) : gv_V μ k w pc ls (.int y :: .int x :: st) σ Q := by
  intro p l e R s m args below meth c D cA ad Z hC hE H locs cells slots sl hw0 hc hs hX hP hS hl
  subst hp
  exact lv_icmp_ne hC.1.1 hC.1.2.1 hd ht (fun z => h1 z p l e R s m args below meth c D cA ad Z hC hE H locs cells slots sl hw0 hc hs hX hP hS hl) (fun z => h2 z p l e R s m args below meth c D cA ad Z hC hE H locs cells slots sl hw0 hc hs hX hP hS hl)
theorem gv_if_lt {μ : gM} {k pc tgt pc' : Nat} {w : Bool} {ls : List (Option Value)} {st : List Value} {σ : gS} {Q : gQ → gS → Prop} {off : Int} {x : Int32} (hd : decode μ.cc pc = .ok (.ifCond .lt off, 3)) (ht : (pc : Int) + off = (tgt : Int)) (hp : pc + 3 = pc')
    (h1 : x < 0 → gv_V μ k w tgt ls st σ Q) (h2 : ¬ x < 0 → gv_V μ k w pc' ls st σ Q) : gv_V μ k w pc ls (.int x :: st) σ Q := by
  intro p l e R s m args below meth c D cA ad Z hC hE H locs cells slots sl hw0 hc hs hX hP hS hl
  subst hp
  exact lv_if_lt hC.1.1 hC.1.2.1 hd ht (fun z => h1 z p l e R s m args below meth c D cA ad Z hC hE H locs cells slots sl hw0 hc hs hX hP hS hl) (fun z => h2 z p l e R s m args below meth c D cA ad Z hC hE H locs cells slots sl hw0 hc hs hX hP hS hl)
theorem gv_icmp_lt {μ : gM} {k pc tgt pc' : Nat} {w : Bool} {ls : List (Option Value)} {st : List Value} {σ : gS} {Q : gQ → gS → Prop} {off : Int} {x y : Int32} (hd : decode μ.cc pc = .ok (.if_icmp .lt off, 3)) (ht : (pc : Int) + off = (tgt : Int)) (hp : pc + 3 = pc')
    (h1 : x < y → gv_V μ k w tgt ls st σ Q) (h2 : ¬ x < y → gv_V μ k w pc' ls st σ Q) : gv_V μ k w pc ls (.int y :: .int x :: st) σ Q := by
  intro p l e R s m args below meth c D cA ad Z hC hE H locs cells slots sl hw0 hc hs hX hP hS hl
  subst hp
  exact lv_icmp_lt hC.1.1 hC.1.2.1 hd ht (fun z => h1 z p l e R s m args below meth c D cA ad Z hC hE H locs cells slots sl hw0 hc hs hX hP hS hl) (fun z => h2 z p l e R s m args below meth c D cA ad Z hC hE H locs cells slots sl hw0 hc hs hX hP hS hl)
theorem gv_if_ge {μ : gM} {k pc tgt pc' : Nat} {w : Bool} {ls : List (Option Value)} {st : List Value} {σ : gS} {Q : gQ → gS → Prop} {off : Int} {x : Int32} (hd : decode μ.cc pc = .ok (.ifCond .ge off, 3)) (ht : (pc : Int) + off = (tgt : Int)) (hp : pc + 3 = pc')
    (h1 : 0 ≤ x → gv_V μ k w tgt ls st σ Q) (h2 : ¬ 0 ≤ x → gv_V μ k w pc' ls st σ Q) : gv_V μ k w pc ls (.int x :: st) σ Q := by
  intro p l e R s m args below meth c D cA ad Z hC hE H locs cells slots sl hw0 hc hs hX hP hS hl
  subst hp
  exact lv_if_ge hC.1.1 hC.1.2.1 hd ht (fun z => h1 z p l e R s m args below meth c D cA ad Z hC hE H locs cells slots sl hw0 hc hs hX hP hS hl) (fun z => h2 z p l e R s m args below meth c D cA ad Z hC hE H locs cells slots sl hw0 hc hs hX hP hS hl)
theorem gv_icmp_ge {μ : gM} {k pc tgt pc' : Nat} {w : Bool} {ls : List (Option Value)} {st : List Value} {σ : gS} {Q : gQ → gS → Prop} {off : Int} {x y : Int32} (hd : decode μ.cc pc = .ok (.if_icmp .ge off, 3)) (ht : (pc : Int) + off = (tgt : Int)) (hp : pc + 3 = pc')
    (h1 : y ≤ x → gv_V μ k w tgt ls st σ Q) (h2 : ¬ y ≤ x → gv_V μ k w pc' ls st σ Q) : gv_V μ k w pc ls (.int y :: .int x :: st) σ Q := by
  intro p l e R s m args below meth c D cA ad Z hC hE H locs cells slots sl hw0 hc hs hX hP hS hl
  subst hp
  exact lv_icmp_ge hC.1.1 hC.1.2.1 hd ht (fun z => h1 z p l e R s m args below meth c D cA ad Z hC hE H locs cells slots sl hw0 hc hs hX hP hS hl) (fun z => h2 z p l e R s m args below meth c D cA ad Z hC hE H locs cells slots sl hw0 hc hs hX hP hS hl)
theorem gv_if_gt {μ : gM} {k pc tgt pc' : Nat} {w : Bool} {ls : List (Option Value)} {st : List Value} {σ : gS} {Q : gQ → gS → Prop} {off : Int} {x : Int32} (hd : decode μ.cc pc = .ok (.ifCond .gt off, 3)) (ht : (pc : Int) + off = (tgt : Int)) (hp : pc + 3 = pc')
    (h1 : 0 < x → gv_V μ k w tgt ls st σ Q) (h2 : ¬ 0 < x → gv_V μ k w pc' ls st σ Q) : gv_V μ k w pc ls (.int x :: st) σ Q := by
  intro p l e R s m args below meth c D cA ad Z hC hE H locs cells slots sl hw0 hc hs hX hP hS hl
  subst hp
  exact lv_if_gt hC.1.1 hC.1.2.1 hd ht (fun z => h1 z p l e R s m args below meth c D cA ad Z hC hE H locs cells slots sl hw0 hc hs hX hP hS hl) (fun z => h2 z p l e R s m args below meth c D cA ad Z hC hE H locs cells slots sl hw0 hc hs hX hP hS hl)
theorem gv_icmp_gt {μ : gM} {k pc tgt pc' : Nat} {w : Bool} {ls : List (Option Value)} {st : List Value} {σ : gS} {Q : gQ → gS → Prop} {off : Int} {x y : Int32} (hd : decode μ.cc pc = .ok (.if_icmp .gt off, 3)) (ht : (pc : Int) + off = (tgt : Int)) (hp : pc + 3 = pc')
    (h1 : y < x → gv_V μ k w tgt ls st σ Q) (h2 : ¬ y < x → gv_V μ k w pc' ls st σ Q) : gv_V μ k w pc ls (.int y :: .int x :: st) σ Q := by
  intro p l e R s m args below meth c D cA ad Z hC hE H locs cells slots sl hw0 hc hs hX hP hS hl
  subst hp
  exact lv_icmp_gt hC.1.1 hC.1.2.1 hd ht (fun z => h1 z p l e R s m args below meth c D cA ad Z hC hE H locs cells slots sl hw0 hc hs hX hP hS hl) (fun z => h2 z p l e R s m args below meth c D cA ad Z hC hE H locs cells slots sl hw0 hc hs hX hP hS hl)
theorem gv_if_le {μ : gM} {k pc tgt pc' : Nat} {w : Bool} {ls : List (Option Value)} {st : List Value} {σ : gS} {Q : gQ → gS → Prop} {off : Int} {x : Int32} (hd : decode μ.cc pc = .ok (.ifCond .le off, 3)) (ht : (pc : Int) + off = (tgt : Int)) (hp : pc + 3 = pc')
    (h1 : x ≤ 0 → gv_V μ k w tgt ls st σ Q) (h2 : ¬ x ≤ 0 → gv_V μ k w pc' ls st σ Q) : gv_V μ k w pc ls (.int x :: st) σ Q := by
  intro p l e R s m args below meth c D cA ad Z hC hE H locs cells slots sl hw0 hc hs hX hP hS hl
  subst hp
  exact lv_if_le hC.1.1 hC.1.2.1 hd ht (fun z => h1 z p l e R s m args below meth c D cA ad Z hC hE H locs cells slots sl hw0 hc hs hX hP hS hl) (fun z => h2 z p l e R s m args below meth c D cA ad Z hC hE H locs cells slots sl hw0 hc hs hX hP hS hl)
theorem gv_icmp_le {μ : gM} {k pc tgt pc' : Nat} {w : Bool} {ls : List (Option Value)} {st : List Value} {σ : gS} {Q : gQ → gS → Prop} {off : Int} {x y : Int32} (hd : decode μ.cc pc = .ok (.if_icmp .le off, 3)) (ht : (pc : Int) + off = (tgt : Int)) (hp : pc + 3 = pc')
    (h1 : x ≤ y → gv_V μ k w tgt ls st σ Q) (h2 : ¬ x ≤ y → gv_V μ k w pc' ls st σ Q) : gv_V μ k w pc ls (.int y :: .int x :: st) σ Q := by
  intro p l e R s m args below meth c D cA ad Z hC hE H locs cells slots sl hw0 hc hs hX hP hS hl
  subst hp
  exact lv_icmp_le hC.1.1 hC.1.2.1 hd ht (fun z => h1 z p l e R s m args below meth c D cA ad Z hC hE H locs cells slots sl hw0 hc hs hX hP hS hl) (fun z => h2 z p l e R s m args below meth c D cA ad Z hC hE H locs cells slots sl hw0 hc hs hX hP hS hl)
theorem gv_goto {μ : gM} {k pc tgt : Nat} {w : Bool} {ls : List (Option Value)} {st : List Value} {σ : gS} {Q : gQ → gS → Prop} {off : Int} (hd : decode μ.cc pc = .ok (.goto off, 3)) (ht : (pc : Int) + off = (tgt : Int))
    (h : gv_V μ k w tgt ls st σ Q) : gv_V μ k w pc ls st σ Q := by
  intro p l e R s m args below meth c D cA ad Z hC hE H locs cells slots sl hw0 hc hs hX hP hS hl
  exact lv_goto hC.1.1 hC.1.2.1 hd ht (h p l e R s m args below meth c D cA ad Z hC hE H locs cells slots sl hw0 hc hs hX hP hS hl)
theorem gv_lookup {μ : gM} {k pc tgt : Nat} {w : Bool} {ls : List (Option Value)} {st : List Value} {σ : gS} {Q : gQ → gS → Prop} {dflt : Int} {ps : Array (Int × Int)} {len : Nat} {x : Int32} {off : Int} (hd : decode μ.cc pc = .ok (.lookupswitch dflt ps, len)) (hq : (ps.toList.zip (ps.toList.drop 1)).all (fun (a, next) => a.1 < next.1) = true) (ho : Op.lookupswitch.offset ps.toList dflt x.toInt = off) (ht : (pc : Int) + off = (tgt : Int))
    (h : gv_V μ k w tgt ls st σ Q) : gv_V μ k w pc ls (.int x :: st) σ Q := by
  intro p l e R s m args below meth c D cA ad Z hC hE H locs cells slots sl hw0 hc hs hX hP hS hl
  exact lv_lookup hC.1.1 hC.1.2.1 hd hq ho ht (h p l e R s m args below meth c D cA ad Z hC hE H locs cells slots sl hw0 hc hs hX hP hS hl)
theorem gv_tableOut {μ : gM} {k pc tgt : Nat} {w : Bool} {ls : List (Option Value)} {st : List Value} {σ : gS} {Q : gQ → gS → Prop} {dflt lo hi : Int} {offs : Array Int} {len : Nat} {x : Int32} (hd : decode μ.cc pc = .ok (.tableswitch dflt lo hi offs, len)) (hx : x.toInt < lo ∨ hi < x.toInt) (ht : (pc : Int) + dflt = (tgt : Int))
    (h : gv_V μ k w tgt ls st σ Q) : gv_V μ k w pc ls (.int x :: st) σ Q := by
  intro p l e R s m args below meth c D cA ad Z hC hE H locs cells slots sl hw0 hc hs hX hP hS hl
  exact lv_tableOut hC.1.1 hC.1.2.1 hd hx ht (h p l e R s m args below meth c D cA ad Z hC hE H locs cells slots sl hw0 hc hs hX hP hS hl)
theorem gv_tableIn {μ : gM} {k pc tgt : Nat} {w : Bool} {ls : List (Option Value)} {st : List Value} {σ : gS} {Q : gQ → gS → Prop} {dflt lo hi : Int} {offs : Array Int} {len : Nat} {x : Int32} {off : Int} (hd : decode μ.cc pc = .ok (.tableswitch dflt lo hi offs, len)) (h1 : ¬ x.toInt < lo) (h2 : ¬ hi < x.toInt) (ho : offs[(x.toInt - lo).toNat]? = some off) (ht : (pc : Int) + off = (tgt : Int))
    (h : gv_V μ k w tgt ls st σ Q) : gv_V μ k w pc ls (.int x :: st) σ Q := by
  intro p l e R s m args below meth c D cA ad Z hC hE H locs cells slots sl hw0 hc hs hX hP hS hl
  exact lv_tableIn hC.1.1 hC.1.2.1 hd h1 h2 ho ht (h p l e R s m args below meth c D cA ad Z hC hE H locs cells slots sl hw0 hc hs hX hP hS hl)
theorem gv_less {μ : gM} {k pc : Nat} {w : Bool} {ls ls' : List (Option Value)} {st : List Value} {σ : gS} {Q : gQ → gS → Prop} (hs' : ∀ (i : Nat) (v : Value), ls'[i]? = some (some v) → ls[i]? = some (some v)) (h : gv_V μ k w pc ls' st σ Q) : gv_V μ k w pc ls st σ Q := by
  intro p l e R s m args below meth c D cA ad Z hC hE H locs cells slots sl hw0 hc hs hX hP hS hl
  exact h p l e R s m args below meth c D cA ad Z hC hE H locs cells slots sl hw0 hc hs hX hP hS (gv_lle hl hs')
theorem gv_ret {μ : gM} {k pc : Nat} {w : Bool} {ls : List (Option Value)} {σ : gS} {Q : gQ → gS → Prop} (hd : decode μ.cc pc = .ok (.return_, 1)) (hr : μ.rt = none) (hk : 1 ≤ k + μ.c) (hu : μ.pu = true → w = true) (h : Q (.inl none) σ) : gv_V μ k w pc ls [] σ Q := by
  intro p l e R s m args below meth c D cA ad Z hC hE H locs cells slots sl hw0 hc hs hX hP hS hl
  exact hE.1 none σ k H locs cells slots sl pc .return_ h (Or.inl ⟨rfl, hr, rfl⟩) hk (fun z => (hw0 (hu z)).1) hc hs hX hP hS hd
theorem gv_iret {μ : gM} {k pc : Nat} {w : Bool} {ls : List (Option Value)} {σ : gS} {Q : gQ → gS → Prop} {x : Int32} (ty : FieldType) (hd : decode μ.cc pc = .ok (.ireturn, 1)) (hr : μ.rt = some ty) (hn : narrow ty (.int x) = .int x) (hk : 1 ≤ k + μ.c) (hu : μ.pu = true → w = true) (h : Q (.inl (some (.int x))) σ) : gv_V μ k w pc ls [.int x] σ Q := by
  intro p l e R s m args below meth c D cA ad Z hC hE H locs cells slots sl hw0 hc hs hX hP hS hl
  exact hE.1 (some (.int x)) σ k H locs cells slots sl pc .ireturn h (Or.inr (Or.inl ⟨x, ty, rfl, hr, hn, rfl⟩)) hk (fun z => (hw0 (hu z)).1) hc hs hX hP hS hd
theorem gv_lret {μ : gM} {k pc : Nat} {w : Bool} {ls : List (Option Value)} {σ : gS} {Q : gQ → gS → Prop} {x : Int64} (hd : decode μ.cc pc = .ok (.lreturn, 1)) (hr : μ.rt = some .long) (hk : 1 ≤ k + μ.c) (hu : μ.pu = true → w = true) (h : Q (.inl (some (.long x))) σ) : gv_V μ k w pc ls [.long x] σ Q := by
  intro p l e R s m args below meth c D cA ad Z hC hE H locs cells slots sl hw0 hc hs hX hP hS hl
  exact hE.1 (some (.long x)) σ k H locs cells slots sl pc .lreturn h (Or.inr (Or.inr ⟨x, rfl, hr, rfl⟩)) hk (fun z => (hw0 (hu z)).1) hc hs hX hP hS hd
end
section
theorem gv_hts {μ : gM} {p : Program} {l : Launch} {R : Room} {s : State} {m : MethodId} {meth : Method} {c : Code} {D : va_G} {cA : FieldType → ClassId} {ad : Nat → Nat} (hC : gv_C μ p l R s m meth c D cA ad) (args : Array Value) : ∀ w ∈ gv_ws, w.before args s = true :=
  fun w hw => gv_wt hw rfl (hC.2.1 w hw)
def gv_lk (own : String) (idx ci kf : Nat) : Prop := ∃ (C : String) (T : u_T) (N : Nat), vwCl[ci]? = some (C, T, N) ∧ kf < N ∧ (∀ w ∈ u_ws C T N, w ∈ gv_ws) ∧ (Cond.fieldLink own idx (T kf).1 (T kf).2.1 (T kf).2.2.1 ∈ gv_ws ∨ ∃ host, Cond.fieldLinkNest own idx (T kf).1 (T kf).2.1 (T kf).2.2.1 host ∈ gv_ws)
def gv_lkp (own : String) (idx ci kf : Nat) (ty : FieldType) : Prop := ∃ (C : String) (T : u_T) (N : Nat), vwCl[ci]? = some (C, T, N) ∧ kf < N ∧ (∀ w ∈ u_ws C T N, w ∈ gv_ws) ∧ (Cond.fieldLink own idx (T kf).1 (T kf).2.1 (T kf).2.2.1 ∈ gv_ws ∨ ∃ host, Cond.fieldLinkNest own idx (T kf).1 (T kf).2.1 (T kf).2.2.1 host ∈ gv_ws) ∧
  (∃ ty0 : Nat → FieldType, ∀ k, k < N → parseFieldDescriptor (T k).2.2.1 = some (ty0 k)) ∧ (∀ a, a < N → ∀ b, b < N → a ≠ b → (T a).2.1 ≠ (T b).2.1) ∧ (T kf).2.2.2 = false ∧ parseFieldDescriptor (T kf).2.2.1 = some ty
theorem gv_get0 {μ : gM} {k pc pc' : Nat} {w : Bool} {ls : List (Option Value)} {st : List Value} {σ : gS} {Q : gQ → gS → Prop} {q ci kf idx : Nat} {fs : List (Option Nat)} {f : Option Nat} {v : Value} (lk : gv_lk μ.y.cls idx ci kf) (hd : decode μ.cc pc = .ok (.getfield idx, 3)) (hsh : gv_sh[q]? = some (.inr (ci, fs))) (hf : fs[kf]? = some f)
    (hv : ∀ ad, gv_t ad v = gv_f ad σ q kf f) (hp : pc + 3 = pc') (h : gv_V μ k w pc' ls (v :: st) σ Q) : gv_V μ k w pc ls (.ref q :: st) σ Q := by
  intro p l e R s m args below meth c D cA ad Z hC hE H locs cells slots sl hw0 hc hs hX hP hS hl
  subst hp
  obtain ⟨C, T, N, hcl, hkN, hin, hlink⟩ := lk
  have hts := gv_hts hC args
  have he : (gv_w cA ad σ)[q]? = some (ad q, .inr (ci, fs.mapIdx (fun k f => gv_f ad σ q k f))) := gv_wget σ hsh
  have hv2 : (fs.mapIdx (fun k f => gv_f ad σ q k f))[kf]? = some (gv_t ad v) := by rw [List.getElem?_mapIdx, hf, hv ad]; rfl
  rcases hlink with hlink | ⟨host, hlink⟩
  · exact va_get hC.1.1 hC.1.2.1 hts hin hC.1.2.2.2.1 hC.2.2.1 hP q he hcl kf hkN (hts _ hlink) (fun _ h => h) hv2 hd (h p l e R s m args below meth c D cA ad Z hC hE H locs cells slots sl hw0 hc hs hX hP hS hl)
  · exact va_getN hC.1.1 hC.1.2.1 hts hin hC.1.2.2.2.1 hC.2.2.1 hP q he hcl kf hkN (hts _ hlink) (fun _ h => h) hv2 hd (h p l e R s m args below meth c D cA ad Z hC hE H locs cells slots sl hw0 hc hs hX hP hS hl)
theorem gv_geti {μ : gM} {k pc pc' : Nat} {w : Bool} {ls : List (Option Value)} {st : List Value} {σ : gS} {Q : gQ → gS → Prop} {q ci kf idx : Nat} {fs : List (Option Nat)} (lk : gv_lk μ.y.cls idx ci kf) (hd : decode μ.cc pc = .ok (.getfield idx, 3)) (hsh : gv_sh[q]? = some (.inr (ci, fs))) (hf : fs[kf]? = some none)
    (hp : pc + 3 = pc') (h : gv_V μ k w pc' ls (.int (σ.1 q kf) :: st) σ Q) : gv_V μ k w pc ls (.ref q :: st) σ Q := gv_get0 lk hd hsh hf (fun _ => rfl) hp h
theorem gv_getr {μ : gM} {k pc pc' : Nat} {w : Bool} {ls : List (Option Value)} {st : List Value} {σ : gS} {Q : gQ → gS → Prop} {q ci kf idx r : Nat} {fs : List (Option Nat)} (lk : gv_lk μ.y.cls idx ci kf) (hd : decode μ.cc pc = .ok (.getfield idx, 3)) (hsh : gv_sh[q]? = some (.inr (ci, fs))) (hf : fs[kf]? = some (some r))
    (hp : pc + 3 = pc') (h : gv_V μ k w pc' ls (.ref r :: st) σ Q) : gv_V μ k w pc ls (.ref q :: st) σ Q := gv_get0 lk hd hsh hf (fun _ => rfl) hp h
theorem gv_wputi {cA : FieldType → ClassId} {ad : Nat → Nat} {σ : gS} {q ci kf : Nat} {fs : List (Option Nat)} {x : Int32} (hsh : gv_sh[q]? = some (.inr (ci, fs))) (hf : fs[kf]? = some none) :
    (gv_w cA ad σ).set q (ad q, .inr (ci, (fs.mapIdx (fun k f => gv_f ad σ q k f)).set kf (.int x))) = gv_w cA ad ((gv_up σ.1 q kf x, σ.2) : gS) := by
  have hlen : kf < (fs.mapIdx (fun k f => gv_f ad σ q k f)).length := by rw [List.length_mapIdx]; exact (List.getElem?_eq_some_iff.mp hf).1
  have hset : (fs.mapIdx (fun k f => gv_f ad σ q k f)).set kf (.int x) = fs.mapIdx (fun k f => gv_f ad ((gv_up σ.1 q kf x, σ.2) : gS) q k f) := by
    refine List.ext_getElem? fun j => ?_
    by_cases hj : j = kf
    · subst hj
      rw [List.getElem?_set_self hlen, List.getElem?_mapIdx, hf]
      simp [gv_f, gv_up]
    · rw [List.getElem?_set_ne (Ne.symm hj), List.getElem?_mapIdx, List.getElem?_mapIdx]
      cases fs[j]? with
      | none => rfl
      | some f => cases f <;> simp [gv_f, gv_up, hj]
  have hoth : ∀ r, r ≠ q → ∀ d', gv_e cA ad ((gv_up σ.1 q kf x, σ.2) : gS) r d' = gv_e cA ad σ r d' := by
    intro r hr d'
    rcases d' with ⟨ty', n⟩ | ⟨ci', fs'⟩
    · cases ty' <;> rfl
    · simp only [gv_e]
      congr 2
      refine congrArg (fun g => List.mapIdx g fs') ?_
      funext j f
      cases f <;> simp [gv_f, gv_up, hr]
  have h0 := gv_wset (cA := cA) (ad := ad) (σ := σ) (σ' := ((gv_up σ.1 q kf x, σ.2) : gS)) hsh hoth
  have e0 : gv_e cA ad ((gv_up σ.1 q kf x, σ.2) : gS) q (.inr (ci, fs)) = .inr (ci, fs.mapIdx (fun k f => gv_f ad ((gv_up σ.1 q kf x, σ.2) : gS) q k f)) := rfl
  rw [e0, ← hset] at h0
  exact h0
theorem gv_wasta {cA : FieldType → ClassId} {ad : Nat → Nat} {σ : gS} {q n j : Nat} {ty : FieldType} {x : Int32} (hty : ty ≠ .long) (hsh : gv_sh[q]? = some (.inl (ty, n))) :
    (gv_w cA ad σ).set q (ad q, .inl (cA ty, n, .inl (upd (σ.2.1 q) j x))) = gv_w cA ad ((σ.1, gv_up σ.2.1 q j x, σ.2.2) : gS) := by
  have hoth : ∀ r, r ≠ q → ∀ d', gv_e cA ad ((σ.1, gv_up σ.2.1 q j x, σ.2.2) : gS) r d' = gv_e cA ad σ r d' := by
    intro r hr d'
    rcases d' with ⟨ty', n'⟩ | ⟨ci', fs'⟩
    · cases ty' <;> simp [gv_e, gv_up_ne, hr]
    · rfl
  have h0 := gv_wset (cA := cA) (ad := ad) (σ := σ) (σ' := ((σ.1, gv_up σ.2.1 q j x, σ.2.2) : gS)) hsh hoth
  have e1 : gv_up σ.2.1 q j x q = upd (σ.2.1 q) j x := by funext i; simp [gv_up, upd]
  have e0 : gv_e cA ad ((σ.1, gv_up σ.2.1 q j x, σ.2.2) : gS) q (.inl (ty, n)) = .inl (cA ty, n, .inl (upd (σ.2.1 q) j x)) := by
    rw [← e1]
    cases ty <;> first | rfl | exact absurd rfl hty
  rw [e0] at h0
  exact h0
theorem gv_wastl {cA : FieldType → ClassId} {ad : Nat → Nat} {σ : gS} {q n j : Nat} {x : Int64} (hsh : gv_sh[q]? = some (.inl (.long, n))) :
    (gv_w cA ad σ).set q (ad q, .inl (cA .long, n, .inr (.inl (vp_updL (σ.2.2.1 q) j x)))) = gv_w cA ad ((σ.1, σ.2.1, gv_up σ.2.2.1 q j x, σ.2.2.2) : gS) := by
  have hoth : ∀ r, r ≠ q → ∀ d', gv_e cA ad ((σ.1, σ.2.1, gv_up σ.2.2.1 q j x, σ.2.2.2) : gS) r d' = gv_e cA ad σ r d' := by
    intro r hr d'
    rcases d' with ⟨ty', n'⟩ | ⟨ci', fs'⟩
    · cases ty' <;> simp [gv_e, gv_up_ne, hr]
    · rfl
  have h0 := gv_wset (cA := cA) (ad := ad) (σ := σ) (σ' := ((σ.1, σ.2.1, gv_up σ.2.2.1 q j x, σ.2.2.2) : gS)) hsh hoth
  have e1 : gv_up σ.2.2.1 q j x q = vp_updL (σ.2.2.1 q) j x := by funext i; simp [gv_up, vp_updL]
  have e0 : gv_e cA ad ((σ.1, σ.2.1, gv_up σ.2.2.1 q j x, σ.2.2.2) : gS) q (.inl (.long, n)) = .inl (cA .long, n, .inr (.inl (vp_updL (σ.2.2.1 q) j x))) := by
    rw [← e1]; rfl
  rw [e0] at h0
  exact h0
theorem gv_puti {μ : gM} {k pc pc' : Nat} {w : Bool} {ls : List (Option Value)} {st : List Value} {σ : gS} {Q : gQ → gS → Prop} {q ci kf idx : Nat} {fs : List (Option Nat)} {x : Int32} {ty : FieldType} (lk : gv_lkp μ.y.cls idx ci kf ty) (hd : decode μ.cc pc = .ok (.putfield idx, 3)) (hsh : gv_sh[q]? = some (.inr (ci, fs))) (hf : fs[kf]? = some none)
    (hn : narrow ty (.int x) = .int x) (hfit : fits ty (.int x) = true) (hp : pc + 3 = pc') (h : gv_V μ k false pc' ls st (gv_up σ.1 q kf x, σ.2) Q) : gv_V μ k w pc ls (.int x :: .ref q :: st) σ Q := by
  intro p l e R s m args below meth c D cA ad Z hC hE H locs cells slots sl hw0 hc hs hX hP hS hl
  subst hp
  obtain ⟨C, T, N, hcl, hkN, hin, hlink, ⟨ty0, hty⟩, hnm, hfin, hpd⟩ := lk
  have hts := gv_hts hC args
  have hD : va_D (gv_A ad s) (gv_w cA ad σ) := gv_Aw hC.2.2.2.1
  have he : (gv_w cA ad σ)[q]? = some (ad q, .inr (ci, fs.mapIdx (fun k f => gv_f ad σ q k f))) := gv_wget σ hsh
  have hlen : kf < (fs.mapIdx (fun k f => gv_f ad σ q k f)).length := by rw [List.length_mapIdx]; exact (List.getElem?_eq_some_iff.mp hf).1
  have kk : ∀ (H1 : Heap) (locs1 : List Loc), va_P D vwCl ((gv_w cA ad σ).set q (ad q, .inr (ci, (fs.mapIdx (fun k f => gv_f ad σ q k f)).set kf (.int x)))) H1 → va_D (gv_A ad s) ((gv_w cA ad σ).set q (ad q, .inr (ci, (fs.mapIdx (fun k f => gv_f ad σ q k f)).set kf (.int x)))) → va_S (gv_A ad s) s.heap H1 locs1 → W p l e R s m args below meth c H1 locs1 cells slots Z (F0 m (pc + 3) sl (st.map (gv_t ad))) := by
    intro H1 locs1 hP1 _ hS1
    rw [gv_wputi hsh hf] at hP1
    exact h p l e R s m args below meth c D cA ad Z hC hE H1 locs1 cells slots sl (fun z => by cases z) hc hs hX hP1 hS1 hl
  rcases hlink with hlink | ⟨host, hlink⟩
  · exact va_put hC.1.1 hC.1.2.1 hts hin ty0 hty hnm hC.1.2.2.2.1 hC.2.2.1 hP hD hS q he hcl kf hkN (hts _ hlink) (fun _ h => h) hfin hpd hn hfit hlen hd kk
  · exact va_putN hC.1.1 hC.1.2.1 hts hin ty0 hty hnm hC.1.2.2.2.1 hC.2.2.1 hP hD hS q he hcl kf hkN (hts _ hlink) (fun _ h => h) hfin hpd hn hfit hlen hd kk
theorem gv_iald {μ : gM} {k pc pc' : Nat} {w : Bool} {ls : List (Option Value)} {st : List Value} {σ : gS} {Q : gQ → gS → Prop} {q n : Nat} {i : Int32} (j : Nat) (hd : decode μ.cc pc = .ok (.iaload, 1)) (hsh : gv_sh[q]? = some (.inl (.int, n))) (hin : vp_in i n) (hj : i.toNatClampNeg = j) (hp : pc + 1 = pc')
    (h : gv_V μ k w pc' ls (.int (σ.2.1 q j) :: st) σ Q) : gv_V μ k w pc ls (.int i :: .ref q :: st) σ Q := by
  intro p l e R s m args below meth c D cA ad Z hC hE H locs cells slots sl hw0 hc hs hX hP hS hl
  subst hp
  subst hj
  exact va_iald hC.1.1 hC.1.2.1 hC.2.2.1 hP q 0 (gv_wget σ hsh) rfl hin hd (h p l e R s m args below meth c D cA ad Z hC hE H locs cells slots sl hw0 hc hs hX hP hS hl)
theorem gv_bald {μ : gM} {k pc pc' : Nat} {w : Bool} {ls : List (Option Value)} {st : List Value} {σ : gS} {Q : gQ → gS → Prop} {q n : Nat} {i : Int32} (j : Nat) (hd : decode μ.cc pc = .ok (.baload, 1)) (hsh : gv_sh[q]? = some (.inl (.byte, n))) (hin : vp_in i n) (hj : i.toNatClampNeg = j) (hp : pc + 1 = pc')
    (h : gv_V μ k w pc' ls (.int (σ.2.1 q j) :: st) σ Q) : gv_V μ k w pc ls (.int i :: .ref q :: st) σ Q := by
  intro p l e R s m args below meth c D cA ad Z hC hE H locs cells slots sl hw0 hc hs hX hP hS hl
  subst hp
  subst hj
  exact va_bald hC.1.1 hC.1.2.1 hC.2.2.1 hP q 1 (gv_wget σ hsh) rfl hin hd (h p l e R s m args below meth c D cA ad Z hC hE H locs cells slots sl hw0 hc hs hX hP hS hl)
theorem gv_zald {μ : gM} {k pc pc' : Nat} {w : Bool} {ls : List (Option Value)} {st : List Value} {σ : gS} {Q : gQ → gS → Prop} {q n : Nat} {i : Int32} (j : Nat) (hd : decode μ.cc pc = .ok (.baload, 1)) (hsh : gv_sh[q]? = some (.inl (.boolean, n))) (hin : vp_in i n) (hj : i.toNatClampNeg = j) (hp : pc + 1 = pc')
    (h : gv_V μ k w pc' ls (.int (σ.2.1 q j) :: st) σ Q) : gv_V μ k w pc ls (.int i :: .ref q :: st) σ Q := by
  intro p l e R s m args below meth c D cA ad Z hC hE H locs cells slots sl hw0 hc hs hX hP hS hl
  subst hp
  subst hj
  exact va_zald hC.1.1 hC.1.2.1 hC.2.2.1 hP q 2 (gv_wget σ hsh) rfl hin hd (h p l e R s m args below meth c D cA ad Z hC hE H locs cells slots sl hw0 hc hs hX hP hS hl)
theorem gv_lald {μ : gM} {k pc pc' : Nat} {w : Bool} {ls : List (Option Value)} {st : List Value} {σ : gS} {Q : gQ → gS → Prop} {q n : Nat} {i : Int32} (j : Nat) (hd : decode μ.cc pc = .ok (.laload, 1)) (hsh : gv_sh[q]? = some (.inl (.long, n))) (hin : vp_in i n) (hj : i.toNatClampNeg = j) (hp : pc + 1 = pc')
    (h : gv_V μ k w pc' ls (.long (σ.2.2.1 q j) :: st) σ Q) : gv_V μ k w pc ls (.int i :: .ref q :: st) σ Q := by
  intro p l e R s m args below meth c D cA ad Z hC hE H locs cells slots sl hw0 hc hs hX hP hS hl
  subst hp
  subst hj
  exact va_lald hC.1.1 hC.1.2.1 hC.2.2.1 hP q 3 (gv_wget σ hsh) rfl hin hd (h p l e R s m args below meth c D cA ad Z hC hE H locs cells slots sl hw0 hc hs hX hP hS hl)
theorem gv_iast {μ : gM} {k pc pc' : Nat} {w : Bool} {ls : List (Option Value)} {st : List Value} {σ : gS} {Q : gQ → gS → Prop} {q n : Nat} {i : Int32} {x : Int32} (j : Nat) (hd : decode μ.cc pc = .ok (.iastore, 1)) (hsh : gv_sh[q]? = some (.inl (.int, n))) (hin : vp_in i n) (hj : i.toNatClampNeg = j) (hp : pc + 1 = pc')
    (h : gv_V μ k false pc' ls st (σ.1, gv_up σ.2.1 q j (x), σ.2.2) Q) : gv_V μ k w pc ls (.int x :: .int i :: .ref q :: st) σ Q := by
  intro p l e R s m args below meth c D cA ad Z hC hE H locs cells slots sl hw0 hc hs hX hP hS hl
  subst hp
  subst hj
  have hD : va_D (gv_A ad s) (gv_w cA ad σ) := gv_Aw hC.2.2.2.1
  exact va_iast hC.1.1 hC.1.2.1 hC.2.2.1 hP hD hS q 0 (gv_wget σ hsh) rfl hin hd (fun H1 locs1 hP1 _ hS1 => by
    rw [gv_wasta (by decide) hsh] at hP1
    exact h p l e R s m args below meth c D cA ad Z hC hE H1 locs1 cells slots sl (fun z => by cases z) hc hs hX hP1 hS1 hl)
theorem gv_bast {μ : gM} {k pc pc' : Nat} {w : Bool} {ls : List (Option Value)} {st : List Value} {σ : gS} {Q : gQ → gS → Prop} {q n : Nat} {i : Int32} {x : Int32} (j : Nat) (hd : decode μ.cc pc = .ok (.bastore, 1)) (hsh : gv_sh[q]? = some (.inl (.byte, n))) (hin : vp_in i n) (hj : i.toNatClampNeg = j) (hp : pc + 1 = pc')
    (h : gv_V μ k false pc' ls st (σ.1, gv_up σ.2.1 q j (vp_nar .byte x), σ.2.2) Q) : gv_V μ k w pc ls (.int x :: .int i :: .ref q :: st) σ Q := by
  intro p l e R s m args below meth c D cA ad Z hC hE H locs cells slots sl hw0 hc hs hX hP hS hl
  subst hp
  subst hj
  have hD : va_D (gv_A ad s) (gv_w cA ad σ) := gv_Aw hC.2.2.2.1
  exact va_bast hC.1.1 hC.1.2.1 hC.2.2.1 hP hD hS q 1 (gv_wget σ hsh) rfl hin hd (fun H1 locs1 hP1 _ hS1 => by
    rw [gv_wasta (by decide) hsh] at hP1
    exact h p l e R s m args below meth c D cA ad Z hC hE H1 locs1 cells slots sl (fun z => by cases z) hc hs hX hP1 hS1 hl)
theorem gv_zast {μ : gM} {k pc pc' : Nat} {w : Bool} {ls : List (Option Value)} {st : List Value} {σ : gS} {Q : gQ → gS → Prop} {q n : Nat} {i : Int32} {x : Int32} (j : Nat) (hd : decode μ.cc pc = .ok (.bastore, 1)) (hsh : gv_sh[q]? = some (.inl (.boolean, n))) (hin : vp_in i n) (hj : i.toNatClampNeg = j) (hp : pc + 1 = pc')
    (h : gv_V μ k false pc' ls st (σ.1, gv_up σ.2.1 q j (vp_nar .boolean x), σ.2.2) Q) : gv_V μ k w pc ls (.int x :: .int i :: .ref q :: st) σ Q := by
  intro p l e R s m args below meth c D cA ad Z hC hE H locs cells slots sl hw0 hc hs hX hP hS hl
  subst hp
  subst hj
  have hD : va_D (gv_A ad s) (gv_w cA ad σ) := gv_Aw hC.2.2.2.1
  exact va_zast hC.1.1 hC.1.2.1 hC.2.2.1 hP hD hS q 2 (gv_wget σ hsh) rfl hin hd (fun H1 locs1 hP1 _ hS1 => by
    rw [gv_wasta (by decide) hsh] at hP1
    exact h p l e R s m args below meth c D cA ad Z hC hE H1 locs1 cells slots sl (fun z => by cases z) hc hs hX hP1 hS1 hl)
theorem gv_last {μ : gM} {k pc pc' : Nat} {w : Bool} {ls : List (Option Value)} {st : List Value} {σ : gS} {Q : gQ → gS → Prop} {q n : Nat} {i : Int32} {x : Int64} (j : Nat) (hd : decode μ.cc pc = .ok (.lastore, 1)) (hsh : gv_sh[q]? = some (.inl (.long, n))) (hin : vp_in i n) (hj : i.toNatClampNeg = j) (hp : pc + 1 = pc')
    (h : gv_V μ k false pc' ls st (σ.1, σ.2.1, gv_up σ.2.2.1 q j (x), σ.2.2.2) Q) : gv_V μ k w pc ls (.long x :: .int i :: .ref q :: st) σ Q := by
  intro p l e R s m args below meth c D cA ad Z hC hE H locs cells slots sl hw0 hc hs hX hP hS hl
  subst hp
  subst hj
  have hD : va_D (gv_A ad s) (gv_w cA ad σ) := gv_Aw hC.2.2.2.1
  exact va_last hC.1.1 hC.1.2.1 hC.2.2.1 hP hD hS q 3 (gv_wget σ hsh) rfl hin hd (fun H1 locs1 hP1 _ hS1 => by
    rw [gv_wastl hsh] at hP1
    exact h p l e R s m args below meth c D cA ad Z hC hE H1 locs1 cells slots sl (fun z => by cases z) hc hs hX hP1 hS1 hl)
theorem gv_sld {μ : gM} {k pc pc' : Nat} {w : Bool} {ls : List (Option Value)} {st : List Value} {σ : gS} {Q : gQ → gS → Prop} {i : Int32} (j : Nat) (hd : decode μ.cc pc = .ok (.iaload, 1)) (hin : vp_in i σ.2.2.2.length) (hj : i.toNatClampNeg = j) (hp : pc + 1 = pc')
    (h : gv_V μ k w pc' ls (.int (σ.2.2.2.getD j 0) :: st) σ Q) : gv_V μ k w pc ls (.int i :: .ref gv_scr :: st) σ Q := by
  intro p l e R s m args below meth c D cA ad Z hC hE H locs cells slots sl hw0 hc hs hX hP hS hl
  subst hp
  subst hj
  exact va_sld hC.1.1 hC.1.2.1 hX hC.2.2.2.2.1.2 (fun z => by
    rcases z with ⟨i, h1, h2⟩ | z
    · exact hC.2.2.2.2.1.1 i h1 h2
    · exact absurd hC.2.2.2.2.1.2 (Nat.not_lt.mpr z)) hS hin hd (h p l e R s m args below meth c D cA ad Z hC hE H locs cells slots sl hw0 hc hs hX hP hS hl)
theorem gv_slen {μ : gM} {k pc pc' : Nat} {w : Bool} {ls : List (Option Value)} {st : List Value} {σ : gS} {Q : gQ → gS → Prop} (hd : decode μ.cc pc = .ok (.arraylength, 1)) (hp : pc + 1 = pc')
    (h : gv_V μ k w pc' ls (.int (Int32.ofNat σ.2.2.2.length) :: st) σ Q) : gv_V μ k w pc ls (.ref gv_scr :: st) σ Q := by
  intro p l e R s m args below meth c D cA ad Z hC hE H locs cells slots sl hw0 hc hs hX hP hS hl
  subst hp
  exact va_slen hC.1.1 hC.1.2.1 hX hC.2.2.2.2.1.2 (fun z => by
    rcases z with ⟨i, h1, h2⟩ | z
    · exact hC.2.2.2.2.1.1 i h1 h2
    · exact absurd hC.2.2.2.2.1.2 (Nat.not_lt.mpr z)) hS hd (h p l e R s m args below meth c D cA ad Z hC hE H locs cells slots sl hw0 hc hs hX hP hS hl)
theorem gv_alen0 {μ : gM} {k pc pc' : Nat} {w : Bool} {ls : List (Option Value)} {st : List Value} {σ : gS} {Q : gQ → gS → Prop} {q n : Nat} (hd : decode μ.cc pc = .ok (.arraylength, 1)) (hsh : gv_sh[q]? = some (.inl (.int, n))) (hp : pc + 1 = pc')
    (h : gv_V μ k w pc' ls (.int (Int32.ofNat n) :: st) σ Q) : gv_V μ k w pc ls (.ref q :: st) σ Q := by
  intro p l e R s m args below meth c D cA ad Z hC hE H locs cells slots sl hw0 hc hs hX hP hS hl
  subst hp
  exact va_alen hC.1.1 hC.1.2.1 hC.2.2.1 hP q 0 (gv_wget σ hsh) (ty := .int) rfl rfl hd (h p l e R s m args below meth c D cA ad Z hC hE H locs cells slots sl hw0 hc hs hX hP hS hl)
theorem gv_alen1 {μ : gM} {k pc pc' : Nat} {w : Bool} {ls : List (Option Value)} {st : List Value} {σ : gS} {Q : gQ → gS → Prop} {q n : Nat} (hd : decode μ.cc pc = .ok (.arraylength, 1)) (hsh : gv_sh[q]? = some (.inl (.byte, n))) (hp : pc + 1 = pc')
    (h : gv_V μ k w pc' ls (.int (Int32.ofNat n) :: st) σ Q) : gv_V μ k w pc ls (.ref q :: st) σ Q := by
  intro p l e R s m args below meth c D cA ad Z hC hE H locs cells slots sl hw0 hc hs hX hP hS hl
  subst hp
  exact va_alen hC.1.1 hC.1.2.1 hC.2.2.1 hP q 1 (gv_wget σ hsh) (ty := .byte) rfl rfl hd (h p l e R s m args below meth c D cA ad Z hC hE H locs cells slots sl hw0 hc hs hX hP hS hl)
theorem gv_alen2 {μ : gM} {k pc pc' : Nat} {w : Bool} {ls : List (Option Value)} {st : List Value} {σ : gS} {Q : gQ → gS → Prop} {q n : Nat} (hd : decode μ.cc pc = .ok (.arraylength, 1)) (hsh : gv_sh[q]? = some (.inl (.boolean, n))) (hp : pc + 1 = pc')
    (h : gv_V μ k w pc' ls (.int (Int32.ofNat n) :: st) σ Q) : gv_V μ k w pc ls (.ref q :: st) σ Q := by
  intro p l e R s m args below meth c D cA ad Z hC hE H locs cells slots sl hw0 hc hs hX hP hS hl
  subst hp
  exact va_alen hC.1.1 hC.1.2.1 hC.2.2.1 hP q 2 (gv_wget σ hsh) (ty := .boolean) rfl rfl hd (h p l e R s m args below meth c D cA ad Z hC hE H locs cells slots sl hw0 hc hs hX hP hS hl)
theorem gv_alen3 {μ : gM} {k pc pc' : Nat} {w : Bool} {ls : List (Option Value)} {st : List Value} {σ : gS} {Q : gQ → gS → Prop} {q n : Nat} (hd : decode μ.cc pc = .ok (.arraylength, 1)) (hsh : gv_sh[q]? = some (.inl (.long, n))) (hp : pc + 1 = pc')
    (h : gv_V μ k w pc' ls (.int (Int32.ofNat n) :: st) σ Q) : gv_V μ k w pc ls (.ref q :: st) σ Q := by
  intro p l e R s m args below meth c D cA ad Z hC hE H locs cells slots sl hw0 hc hs hX hP hS hl
  subst hp
  exact va_alen hC.1.1 hC.1.2.1 hC.2.2.1 hP q 3 (gv_wget σ hsh) (ty := .long) rfl rfl hd (h p l e R s m args below meth c D cA ad Z hC hE H locs cells slots sl hw0 hc hs hX hP hS hl)
end
section
def gv_so (x : Slot) : Option Value := match x with
  | .val v => some v
  | _ => none
def gv_ts (ad : Nat → Nat) (x : Slot) : Slot := match x with
  | .val v => .val (gv_t ad v)
  | x => x
def gv_ent (n : Nat) (As : List Value) : List (Option Value) := (lg_sl As ++ List.replicate (n - (lg_sl As).length) Slot.unset).map gv_so
theorem gv_slm (ad : Nat → Nat) (As : List Value) : lg_sl (As.map (gv_t ad)) = (lg_sl As).map (gv_ts ad) := by
  induction As with
  | nil => rfl
  | cons v t ih =>
    simp only [lg_sl, List.map_cons, List.flatMap_cons, List.map_append] at ih ⊢
    rw [ih, gv_tc]
    congr 1
    split <;> rfl
theorem gv_entl (ad : Nat → Nat) (As : List Value) {n : Nat} (h : (lg_sl As).length ≤ n) :
    lv_has ((lg_sl (As.map (gv_t ad)) ++ List.replicate (n - (lg_sl (As.map (gv_t ad))).length) Slot.unset).toArray) n (gv_l ad (gv_ent n As)) := by
  have hlen : (lg_sl (As.map (gv_t ad))).length = (lg_sl As).length := by rw [gv_slm]; simp
  have h0 := lv_entry (As.map (gv_t ad)) (n := n) (by rw [hlen]; exact h)
  refine ⟨h0.1, h0.2.1, fun q hq => ?_⟩
  obtain ⟨v, h1, h2⟩ := gv_lmem.mp hq
  rw [hlen, gv_slm, h2]
  have e : (lg_sl As).map (gv_ts ad) ++ List.replicate (n - (lg_sl As).length) Slot.unset = (lg_sl As ++ List.replicate (n - (lg_sl As).length) Slot.unset).map (gv_ts ad) := by
    rw [List.map_append, List.map_replicate]; rfl
  rw [e]
  simp only [gv_ent, List.getElem?_map, Option.map_eq_some_iff] at h1
  obtain ⟨x, h3, h4⟩ := h1
  have hx : x = .val v := by cases x <;> simp [gv_so] at h4; rw [h4]
  subst hx
  simp only [List.getElem?_toArray, List.getElem?_map, h3, Option.map_some]
  rfl
theorem gv_mono {p : Program} {l : Launch} {e : Env} {R : Room} {s : State} {m : MethodId} {args : Array Value} {below : List Frame} {meth : Method} {c : Code} {H : Heap} {locs : List Loc} {cells slots : Nat} {Z Z' : State → Prop} {g : JFrame} (hz : ∀ t, Z t → Z' t) (h : W p l e R s m args below meth c H locs cells slots Z g) : W p l e R s m args below meth c H locs cells slots Z' g := by
  intro T hT X
  obtain ⟨t, a, b⟩ := h T hT X
  exact ⟨t, a, hz t b⟩
def gv_cw (μ : gM) : Cond := match μ.hh with
  | [] => .code μ.y μ.cc μ.nL μ.rt
  | hh => .codeWith μ.y μ.cc μ.nL μ.rt hh
theorem gv_cwspec {μ : gM} {args : Array Value} {s : State} {m : MethodId} (hn : s.methodNamed? μ.y = some m) (h : (gv_cw μ).before args s = true) : ∃ (meth : Method) (c : Code), s.vm.method? m = some meth ∧ meth.code = some c ∧ c.code = μ.cc ∧ c.maxLocals = μ.nL ∧ meth.sig.returnType = μ.rt ∧ meth.locks = false ∧ (c.exceptionTable.toList.map fun h => (h.startPc, h.endPc, h.handlerPc, h.catchType)) = μ.hh ∧ parseMethodDescriptor μ.y.desc = some meth.sig := by
  obtain ⟨y, cc, nL, rt, hh, F, c0⟩ := μ
  cases hh with
  | nil =>
    obtain ⟨meth, c, h1, h2, h3, h4, h5, h6, h7, h8⟩ := Cond.code_spec hn h
    refine ⟨meth, c, h1, h2, h3, h4, h5, h6, ?_, h8⟩
    have h0 : c.exceptionTable.size = 0 := by simpa [Array.isEmpty] using h7
    have h1 : c.exceptionTable.toList = [] := List.eq_nil_of_length_eq_zero (by simpa using h0)
    show c.exceptionTable.toList.map _ = []
    rw [h1]; rfl
  | cons a t =>
    obtain ⟨m9, meth, c, hn9, h1, h2, h3, h4, h5, h6, h7, h8⟩ := Cond.codeWith_spec h
    cases hn.symm.trans hn9
    exact ⟨meth, c, h1, h2, h3, h4, h6, h7, h5, h8⟩
def gv_Po (μ : gM) (D : va_G) (cA : FieldType → ClassId) (ad : Nat → Nat) (Q : gQ → gS → Prop) (s : State) (o : Outcome) (t : State) : Prop :=
  (∃ (v : Option Value) (σ : gS) (L : List Loc), o = .returned (v.map (gv_t ad)) ∧ Q (.inl v) σ ∧ gv_X ad σ s ∧ va_P D vwCl (gv_w cA ad σ) t.heap ∧ va_F (gv_A ad s) s t ∧ FrameEnd s o t L μ.c (6 * μ.c) ∧ (∀ q ∈ L, gv_A ad s q.base) ∧ (μ.pu = true → L = [])) ∨
  ∃ (n : Nat) (σ : gS) (L : List Loc) (a : Addr), o = .threw a ∧ Q (.inr n) σ ∧ gv_X ad σ s ∧ va_P D vwCl (gv_w cA ad σ) t.heap ∧ va_F (gv_A ad s) s t ∧ (s.WarmedH t.vm ∧ s.sameButNew ({ t with vm := s.vm } : State) L 1 6) ∧ (∀ q ∈ L, gv_A ad s q.base) ∧ gv_exc n s t.heap a
def gv_K (μ : gM) (As : List Value) (σ : gS) (Q : gQ → gS → Prop) : Prop := gv_V μ 1 true 0 (gv_ent μ.nL As) [] σ Q
theorem gv_met {l : Launch} {μ : gM} {As : List Value} {σ : gS} {Q : gQ → gS → Prop} {D : va_G} {cA : FieldType → ClassId} {ad : Nat → Nat} (hV : gv_K μ As σ Q) (hy : plainName μ.y.cls = true) (hl0 : l.stackTraces = false) (hent : (lg_sl As).length ≤ μ.nL) :
    MetFree l μ.y (headSpec [gv_cw μ] (gv_rm μ)) (fun a U => a = (As.map (gv_t ad)).toArray ∧ gv_G D cA ad U ∧ gv_X ad σ U ∧ va_P D vwCl (gv_w cA ad σ) U.heap) (fun _ _ _ _ _ => True) (fun _ st o t => gv_Po μ D cA ad Q st o t) := by
  refine MetFree.of_bodyS (code := μ.cc) (maxLocals := μ.nL) (ret := μ.rt) hy ?_ ?_
  · intro args s m h hn
    obtain ⟨meth, c, h1, h2, h3, h4, h5, h6, -, -⟩ := gv_cwspec hn (atoms_spec (ws := [gv_cw μ]) h _ List.mem_cons_self)
    exact ⟨meth, c, h1, h2, h3, h4, h5, h6⟩
  · intro p e s m args below meth c s₁ B hml hP _
    obtain ⟨rfl, hG, hX, hPw⟩ := hP
    have hh0 : s₁.heap = s.heap := by rw [B.state]; rfl
    have X := Stand.of_body B
    obtain ⟨meth2, c2, g1, g2, -, -, -, -, g7, -⟩ := gv_cwspec B.named (atoms_spec (ws := [gv_cw μ]) B.pre _ List.mem_cons_self)
    cases g1.symm.trans B.method
    cases g2.symm.trans X.code
    have hC : gv_C μ p l (gv_rm μ) s m meth c D cA ad := ⟨⟨B.exec, B.bytes, hml, findClass_of_methodNamed B.named, B.returns, B.notSynchronized, g7, hl0, Nat.le_refl _, Nat.le_refl _⟩, hG⟩
    have hlocks := B.notSynchronized
    have hE : gv_Ex μ p l e (gv_rm μ) s m (As.map (gv_t ad)).toArray below meth c D cA ad (fun t => ∃ o, t.status = .running ∧ Ended t below o ∧ gv_Po μ D cA ad Q s o t) Q := by
      refine ⟨?_, ?_⟩
      · intro v σ' k H locs cells slots sl pc i hQ hri hk hu hc hs hX' hP' hS' hd
        have h1 : (gv_rm μ).cells = 1 := rfl
        have h6 : (gv_rm μ).slots = 6 := rfl
        refine W.widen (k := μ.c) (n := 6 * μ.c) (by omega) (by omega) ?_
        have hf : ∀ q ∈ locs, μ.pu = false ∧ gv_A ad s q.base := fun q hq => by
          cases hpu : μ.pu with
          | false => exact ⟨rfl, hS'.2.2 q hq⟩
          | true => rw [hu hpu] at hq; cases hq
        have key : ∀ t, MQ below (fun _ _ o t => o = .returned (v.map (gv_t ad)) ∧ t.heap = H) (As.map (gv_t ad)).toArray s μ.c (6 * μ.c) (fun q => μ.pu = false ∧ gv_A ad s q) t → ∃ o, t.status = .running ∧ Ended t below o ∧ gv_Po μ D cA ad Q s o t := by
          intro t ⟨o, a1, a2, ⟨a3, a4⟩, L, a5, a6⟩
          refine ⟨o, a1, a2, Or.inl ⟨v, σ', L, a3, hQ, hX', by rw [a4]; exact hP', hS'.F a4, a5, fun q hq => (a6 q hq).2, fun hpu => ?_⟩⟩
          cases L with
          | nil => rfl
          | cons q L' => exact absurd ((a6 q List.mem_cons_self).1.symm.trans hpu) (by decide)
        rcases hri with ⟨rfl, hr, rfl⟩ | ⟨x, ty, rfl, hr, hn, rfl⟩ | ⟨x, rfl, hr, rfl⟩
        · exact gv_mono key (W.vret (Qc := fun _ _ o t => o = .returned ((none : Option Value).map (gv_t ad)) ∧ t.heap = H) (free := fun q => μ.pu = false ∧ gv_A ad s q) B.exec B.bytes (B.returns.trans hr) (fun t ht _ => ⟨rfl, ht⟩) hf hd)
        · exact gv_mono key (W.zret (Qc := fun _ _ o t => o = .returned ((some (.int x) : Option Value).map (gv_t ad)) ∧ t.heap = H) (free := fun q => μ.pu = false ∧ gv_A ad s q) B.exec B.bytes (B.returns.trans hr) hn (fun t ht _ => ⟨rfl, ht⟩) hf hd)
        · exact gv_mono key (W.lret (Qc := fun _ _ o t => o = .returned ((some (.long x) : Option Value).map (gv_t ad)) ∧ t.heap = H) (free := fun q => μ.pu = false ∧ gv_A ad s q) B.exec B.bytes (B.returns.trans hr) (fun t ht _ => ⟨rfl, ht⟩) hf hd)
      · intro n σ' U a locs cells slots hQ h1 h2 h3 h4 h5 h6 hX' hP' hS' hex
        exact ⟨.threw a, h1, h2, Or.inr ⟨n, σ', locs, a, rfl, hQ, hX', hP', ⟨hS'.1, hS'.2.1⟩, ⟨h3, h4.mono h5 h6⟩, hS'.2.2, hex⟩⟩
    have hWW := hV p l e (gv_rm μ) s m (As.map (gv_t ad)).toArray below meth c D cA ad _ hC hE s.heap [] 0 0 _ (fun _ => ⟨rfl, fun i hi => (hPw i _ (gv_wget σ (List.getElem?_eq_getElem hi))).lt⟩) (Nat.le_refl 1) (Nat.le_refl 6) hX hPw va_S.rf (gv_entl ad As hent)
    have hWW2 := W.eq (lg_entry_eq m (As.map (gv_t ad)) μ.nL) hWW
    obtain ⟨t, a1, o, b1, b2, b3⟩ := hWW2 s₁ hh0 X
    exact ⟨t, o, a1, b1, b2, b3⟩
theorem gv_Gm {D : va_G} {cA : FieldType → ClassId} {ad : Nat → Nat} {s U : State} {locs : List Loc} (hG : gv_G D cA ad s) (hW : s.WarmedH U.vm) (hS : va_S (gv_A ad s) s.heap U.heap locs) : gv_G D cA ad U := by
  obtain ⟨h1, h2, h3, h4, h5, h6⟩ := hG
  have hA : ∀ q, gv_A ad U q → gv_A ad s q := fun q h => by
    rcases h with h | h
    · exact Or.inl h
    · exact Or.inr (Nat.le_trans hS.1 h)
  exact ⟨fun w hw => gv_wm hW hw (h1 w hw), va_K.moved hW.alike h2, h3, ⟨h4.1, Nat.lt_of_lt_of_le h4.2 hS.1⟩, ((h5.moved hW.alike).kept hS.2.1).narrow hA, ((h6.moved hW.alike).kept hS.2.1).narrow hA⟩
theorem gv_nA {D : va_G} {cA : FieldType → ClassId} {ad : Nat → Nat} {s : State} (hG : gv_G D cA ad s) : ¬ gv_A ad s (ad gv_scr) := fun z => by
  rcases z with ⟨i, h1, h2⟩ | z
  · exact hG.2.2.2.1.1 i h1 h2
  · exact absurd hG.2.2.2.1.2 (Nat.not_lt.mpr z)
theorem gv_Xm {D : va_G} {cA : FieldType → ClassId} {ad : Nat → Nat} {s U : State} {locs : List Loc} {σ : gS} (hG : gv_G D cA ad s) (hW : s.WarmedH U.vm) (hS : va_S (gv_A ad s) s.heap U.heap locs) (h : gv_X ad σ s) : gv_X ad σ U :=
  (va_X.moved hW.alike h).kept (hS.2.1 _ hG.2.2.2.1.2 (gv_nA hG))
theorem gv_Xb {D : va_G} {cA : FieldType → ClassId} {ad : Nat → Nat} {s U : State} {locs : List Loc} {σ : gS} (hG : gv_G D cA ad s) (hW : s.WarmedH U.vm) (hS : va_S (gv_A ad s) s.heap U.heap locs) (h : gv_X ad σ U) : gv_X ad σ s :=
  (va_X.moved hW.alike.symm h).kept (hS.2.1 _ hG.2.2.2.1.2 (gv_nA hG)).symm
def gv_ok (μ μ' : gM) : Prop := μ'.F + 1 ≤ μ.F ∧ μ'.nL ≤ 81 ∧ plainName μ'.y.cls = true ∧ gv_cw μ' ∈ gv_ws ∧ Cond.initialized μ'.y.cls ∈ gv_ws
set_option maxHeartbeats 1000000 in
theorem gv_back {μ μ' : gM} {p : Program} {l : Launch} {e : Env} {R : Room} {s : State} {m : MethodId} {args : Array Value} {below : List Frame} {meth : Method} {c : Code} {D : va_G} {cA : FieldType → ClassId} {ad : Nat → Nat} (hC : gv_C μ p l R s m meth c D cA ad) {As : List Value} {σ : gS} {Q' : gQ → gS → Prop} (hV : gv_K μ' As σ Q') (hok : gv_ok μ μ') (hent : (lg_sl As).length ≤ μ'.nL)
    {k : Nat} (hk : 1 ≤ k) {U : State} {locs : List Loc} {cells slots : Nat} (X : Stand p l e R s m args below meth c U locs cells slots) (hc : cells + k ≤ R.cells) (hs : slots + 6 * k ≤ R.slots) (hX : gv_X ad σ s) (hP : va_P D vwCl (gv_w cA ad σ) U.heap) (hS : va_S (gv_A ad s) s.heap U.heap locs)
    {g : JFrame} (hg : g.method = m) (hsize : g.locals.size = c.maxLocals) {ig : Instr} (hdg : decode c.code g.pc = .ok (ig, 3)) (hw : 2 * g.monitorRoom + (g.stack.map fun v => v.category).sum ≤ 8) {mk : MethodId} (hn : U.methodNamed? μ'.y = some mk) :
    (∃ (v : Option Value) (σ' : gS) (B : State) (L : List Loc), Q' (.inl v) σ' ∧ (μ'.pu = true → L = locs) ∧ Stand p l e R s m args below meth c B L (cells + μ'.c) (slots + 6 * μ'.c) ∧ gv_X ad σ' s ∧ va_P D vwCl (gv_w cA ad σ') B.heap ∧ va_S (gv_A ad s) s.heap B.heap L ∧
      Steps p.tables e below (doInvoke e (U.setTop g) [] mk (As.map (gv_t ad)).toArray).1 (B.setTop { g with pc := g.pc + 3, stack := (v.map (gv_t ad)).toList ++ g.stack })) ∨
    ∃ (n : Nat) (σ' : gS) (B : State) (L : List Loc) (a : Addr), Q' (.inr n) σ' ∧ Stand p l e R s m args below meth c B L (cells + 1) (slots + 6) ∧ gv_X ad σ' s ∧ va_P D vwCl (gv_w cA ad σ') B.heap ∧ va_S (gv_A ad s) s.heap B.heap L ∧ gv_exc n s B.heap a ∧
      Steps p.tables e below (doInvoke e (U.setTop g) [] mk (As.map (gv_t ad)).toArray).1 ((B.setTop g).pushFrame (.throwing a)) := by
  have hwU : ∀ w ∈ gv_ws, ∀ a', w.before a' U = true := fun w h a' => gv_wt h rfl (gv_wm X.warmed h (hC.2.1 w h))
  obtain ⟨methY, cY, hmY, hcY, -, hlY, -, -, -, -⟩ := gv_cwspec (args := #[]) hn (hwU _ hok.2.2.2.1 _)
  obtain ⟨kY, hkY, -⟩ := className_of_methodNamed hn
  have hinitY : kY.init = .initialized := Cond.initialized_spec (findClass_of_methodNamed hn) hkY (hwU _ hok.2.2.2.2 #[])
  have h : At U g.method c below := by rw [hg]; exact X.here
  have hr1 : (gv_rm μ').cells = 1 := rfl
  have hr2 : (gv_rm μ').slots = 6 := rfl
  have hr3 : (gv_rm μ').frames = μ'.F := rfl
  have hr4 : (gv_rm μ').locals = 100 * μ'.F := rfl
  have hF := hok.1
  have hN := hok.2.1
  have hF1 := hC.1.2.2.2.2.2.2.2.2.1
  have hF2 := hC.1.2.2.2.2.2.2.2.2.2
  generalize haa : (As.map (gv_t ad)).toArray = aa
  have happ : (headSpec [gv_cw μ'] (gv_rm μ')).appliesLoose μ'.y e.platform (U.calling g mk aa) = true :=
    Spec.appliesLoose_calling (g := g) h hdg hn hkY hinitY
      (X.room_calling (g := g) (R' := gv_rm μ') hsize hmY hcY (by omega) (by rw [hlY]; omega) (by omega) (by omega)) (atoms_intro fun w hw' => by
        rcases List.mem_cons.mp hw' with rfl | hw'
        · exact hwU _ hok.2.2.2.1 _
        · cases hw')
  obtain ⟨mid, hmid⟩ := h.above
  have hfr : (U.setTop g).frames = (.java g :: mid) ++ below := by rw [State.frames_setTop' g h.top, hmid]; rfl
  have hW1 : s.WarmedH (U.calling g mk aa).vm := X.warmed
  have hS1 : va_S (gv_A ad s) s.heap (U.calling g mk aa).heap locs := hS
  have hG1 : gv_G D cA ad (U.calling g mk aa) := gv_Gm hC.2 hW1 hS1
  obtain ⟨o, s₂, hsteps, -, hend, hq⟩ := Steps.callFree (gv_met (D := D) (cA := cA) (ad := ad) hV hok.2.2.1 hC.1.2.2.2.2.2.2.2.1 hent) p X.admits X.cas X.clock (acts := []) hfr happ ⟨haa.symm, hG1, gv_Xm hC.2 hW1 hS1 hX, hP⟩ trivial
  have hq : gv_Po μ' D cA ad Q' (U.calling g mk aa) o s₂ := hq
  rw [State.frames_setTop' g h.top] at hend
  have hAA : ∀ q, gv_A ad (U.calling g mk aa) q → gv_A ad s q := fun q h => by
    rcases h with h | h
    · exact Or.inl h
    · exact Or.inr (Nat.le_trans hS1.1 h)
  obtain ⟨g₀, hg0⟩ := Option.isSome_iff_exists.mp h.top
  obtain ⟨r, hr⟩ := State.topJava?_eq_some.mp hg0
  have fin : ∀ {L : List Loc} {kc ns : Nat}, (U.calling g mk aa).WarmedH s₂.vm → (U.calling g mk aa).sameButNew ({ s₂ with vm := (U.calling g mk aa).vm } : State) L kc ns → va_F (gv_A ad (U.calling g mk aa)) (U.calling g mk aa) s₂ → (∀ q ∈ L, gv_A ad (U.calling g mk aa) q.base) →
      Stand p l e R s m args below meth c (({ U with heap := s₂.heap, slotsUsed := s₂.slotsUsed } : State).setVm s₂.vm) (locs ++ L) (cells + kc) (slots + ns) ∧ va_S (gv_A ad s) s.heap s₂.heap (locs ++ L) := by
    intro L kc ns hW₂ hsm hF9 hL
    obtain ⟨e2, q2, q3, q4, q5, q6⟩ := hsm
    have hW' : U.WarmedH s₂.vm := hW₂
    have hsame : U.sameButNew ({ U with heap := s₂.heap, slotsUsed := s₂.slotsUsed } : State) L kc ns := by
      refine ⟨?_, q2, q3, q4, q5, q6⟩
      obtain ⟨t, ht, -⟩ := State.frames_cons hr
      show ({ U with heap := s₂.heap, slotsUsed := s₂.slotsUsed } : State) = { U.setFrames U.frames with heap := s₂.heap, slotsUsed := s₂.slotsUsed }
      rw [State.setFrames_self ht]
    subst hg
    refine ⟨⟨X.admits, X.cas, X.clock, X.frames, X.room, X.hears, X.method, X.code, (X.here.setHeapUsed s₂.heap s₂.slotsUsed).setVm hW'.alike, X.tail, State.WarmedH.trans X.warmed hW', X.limits, X.bytes, X.same.trans (hsame.setVm s.vm)⟩, ?_⟩
    refine ⟨Nat.le_trans hS1.1 hF9.1, fun q h1 h2 => ?_, fun q hq => ?_⟩
    · rw [hF9.2 q (Nat.lt_of_lt_of_le h1 hS1.1) (fun z => h2 (hAA q z))]
      exact hS1.2.1 q h1 h2
    · rcases List.mem_append.mp hq with h | h
      · exact hS.2.2 q h
      · exact hAA _ (hL q h)
  have e3 : ∀ {L : List Loc} {kc ns : Nat}, (U.calling g mk aa).sameButNew ({ s₂ with vm := (U.calling g mk aa).vm } : State) L kc ns → s₂ = ({ (U.calling g mk aa).setFrames s₂.frames with heap := s₂.heap, slotsUsed := s₂.slotsUsed } : State).setVm s₂.vm := by
    intro L kc ns hsm
    have e2 := hsm.1
    have : s₂ = ({ s₂ with vm := (U.calling g mk aa).vm } : State).setVm s₂.vm := rfl
    rw [e2] at this
    exact this
  have hr' : (({ U with heap := s₂.heap, slotsUsed := s₂.slotsUsed } : State).setVm s₂.vm).frames = .java g₀ :: r := hr
  rcases hq with ⟨v, σ', L, rfl, hQ, hX', hP', hF9, ⟨-, hW₂, hsm⟩, hL, hpu⟩ | ⟨n, σ', L, a, rfl, hQ, hX', hP', hF9, ⟨hW₂, hsm⟩, hL, hex⟩
  · obtain ⟨hSt, hS2⟩ := fin hW₂ hsm hF9 hL
    refine Or.inl ⟨v, σ', _, _, hQ, fun z => by rw [hpu z, List.append_nil], hSt, gv_Xb hC.2 hW1 hS1 hX', hP', hS2, ?_⟩
    obtain ⟨c₂, i₂, len₂, hc₂, hd₂, hf₂⟩ := hend
    have hW' : U.WarmedH s₂.vm := hW₂
    have hcc : c₂ = c := by
      have h1 : s₂.code? g.method = U.code? g.method := by
        rw [State.code?_eq, State.code?_eq, hW'.alike.method?]
      exact Option.some.inj (hc₂.symm.trans (h1.trans h.code))
    subst hcc
    have hlen : len₂ = 3 := by rw [hdg] at hd₂; cases hd₂; rfl
    subst hlen
    have hs₂ : s₂ = (({ U with heap := s₂.heap, slotsUsed := s₂.slotsUsed } : State).setVm s₂.vm).setTop { g with pc := g.pc + 3, stack := (v.map (gv_t ad)).toList ++ g.stack } := by
      refine (e3 hsm).trans ?_
      rw [hf₂, State.calling_eq h.top, State.setFrames_setFrames, State.setTop_of_frames _ hr', hr]
      rfl
    rw [← hs₂]
    exact hsteps
  · obtain ⟨hSt, hS2⟩ := fin hW₂ hsm hF9 hL
    refine Or.inr ⟨n, σ', _, _, a, hQ, hSt, gv_Xb hC.2 hW1 hS1 hX', hP', hS2, ?_, ?_⟩
    · obtain ⟨ce, z1, z2, z3⟩ := hex
      exact ⟨ce, z1, z2, by rw [← X.warmed.alike.findClass]; exact z3⟩
    · have hf₂ : s₂.frames = .throwing a :: .java g :: U.frames.tail := hend
      have hs₂ : s₂ = ((({ U with heap := s₂.heap, slotsUsed := s₂.slotsUsed } : State).setVm s₂.vm).setTop g).pushFrame (.throwing a) := by
        refine (e3 hsm).trans ?_
        rw [hf₂, State.calling_eq h.top, State.setFrames_setFrames, State.pushFrame, State.frames_setTop _ hr', State.setTop_of_frames _ hr', State.setFrames_setFrames, hr]
        rfl
      rw [← hs₂]
      exact hsteps
end
section
theorem gv_cwn {μ : gM} {args : Array Value} {s : State} (h : (gv_cw μ).before args s = true) : ∃ m, s.methodNamed? μ.y = some m := by
  obtain ⟨y, cc, nL, rt, hh, F, c0⟩ := μ
  cases hh with
  | nil => exact Cond.code_named h
  | cons a t =>
    obtain ⟨m9, meth, c, hn9, -⟩ := Cond.codeWith_spec h
    exact ⟨m9, hn9⟩
theorem gv_out {μ : gM} {p : Program} {l : Launch} {R : Room} {s : State} {m : MethodId} {meth : Method} {c : Code} {D : va_G} {cA : FieldType → ClassId} {ad : Nat → Nat} (hC : gv_C μ p l R s m meth c D cA ad) {pc : Nat} (hno : μ.hh.all (fun h => !(decide (h.1 ≤ pc) && decide (pc < h.2.1))) = true) : ∀ x ∈ c.exceptionTable.toList, covers x pc = false := by
  intro x hx
  have h1 : (x.startPc, x.endPc, x.handlerPc, x.catchType) ∈ μ.hh := by
    rw [← hC.1.2.2.2.2.2.2.1]
    exact List.mem_map.mpr ⟨x, hx, rfl⟩
  have h2 := List.all_eq_true.mp hno _ h1
  simp at h2
  simp [covers]
  omega
def gv_lkm (μ μ' : gM) (idx : Nat) : Prop := Cond.methodLink μ.y.cls idx μ'.y ∈ gv_ws ∨ ∃ host, Cond.methodLinkNest μ.y.cls idx μ'.y host ∈ gv_ws
def gv_csS (μ μ' : gM) (idx n : Nat) : Prop := gv_ok μ μ' ∧ gv_lkm μ μ' idx ∧ Cond.static μ'.y ∈ gv_ws ∧ (μ'.y.cls ≠ "java/lang/invoke/MethodHandle" ∧ μ'.y.cls ≠ "java/lang/invoke/VarHandle") ∧ (parseMethodDescriptor μ'.y.desc).map (fun d => d.parameters.length) = some n
def gv_csV (μ μ' : gM) (idx n : Nat) : Prop := gv_ok μ μ' ∧ gv_lkm μ μ' idx ∧ (Cond.instanceMethod μ'.y ∈ gv_ws ∧ Cond.selects μ'.y.cls μ'.y μ'.y ∈ gv_ws) ∧ (μ'.y.cls ≠ "java/lang/invoke/MethodHandle" ∧ μ'.y.cls ≠ "java/lang/invoke/VarHandle") ∧ (parseMethodDescriptor μ'.y.desc).map (fun d => d.parameters.length) = some n
theorem gv_cat (ad : Nat → Nat) (st : List Value) : ((st.map (gv_t ad)).map fun v => v.category).sum = (st.map fun v => v.category).sum := by
  rw [List.map_map]
  congr 1
  exact List.map_congr_left fun v _ => gv_tc ad v
set_option maxHeartbeats 1000000 in
theorem gv_goS {μ μ' : gM} {p : Program} {l : Launch} {e : Env} {R : Room} {s : State} {m : MethodId} {args : Array Value} {below : List Frame} {meth : Method} {c : Code} {D : va_G} {cA : FieldType → ClassId} {ad : Nat → Nat} (hC : gv_C μ p l R s m meth c D cA ad) {idx n : Nat} (cs : gv_csS μ μ' idx n) {As st : List Value} (hn : As.length = n) {T : State} {locs : List Loc} {cells slots pc : Nat} {sl : Array Slot} (X : Stand p l e R s m args below meth c T locs cells slots) (hd : decode μ.cc pc = .ok (.invokestatic idx, 3)) :
    ∃ (vm₁ : Vm) (mk : MethodId), Stand p l e R s m args below meth c (T.setVm vm₁) locs cells slots ∧ (T.setVm vm₁).methodNamed? μ'.y = some mk ∧ ∀ target, Steps p.tables e below (doInvoke e ((T.setVm vm₁).setTop (F0 m pc sl (st.map (gv_t ad)))) [] mk (As.map (gv_t ad)).toArray).1 target → Steps p.tables e below (T.setTop (F0 m pc sl ((As.reverse ++ st).map (gv_t ad)))) target := by
  obtain ⟨hok, hlk, hst, hy, hpar⟩ := cs
  have hts := gv_hts hC args
  obtain ⟨mk, hnamed⟩ := gv_cwn (hts _ hok.2.2.2.1)
  obtain ⟨methM, cM, hmethM, -, -, -, -, -, -, hsigM⟩ := gv_cwspec hnamed (hts _ hok.2.2.2.1)
  have hstatic : methM.isStatic = true := Cond.static_spec hnamed hmethM (hts _ hst)
  obtain ⟨kP, hkP, -⟩ := className_of_methodNamed hnamed
  have hinitP : kP.init = .initialized := Cond.initialized_spec (findClass_of_methodNamed hnamed) hkP (hts _ hok.2.2.2.2)
  have hlen : (As.map (gv_t ad)).length = methM.sig.parameters.length := by
    rw [hsigM] at hpar
    rw [List.length_map, hn]
    exact (Option.some.inj hpar).symm
  have hstk : (F0 m pc sl ((As.reverse ++ st).map (gv_t ad))).stack = (As.map (gv_t ad)).reverse ++ st.map (gv_t ad) := by simp
  have hdg : decode c.code (F0 m pc sl ((As.reverse ++ st).map (gv_t ad))).pc = .ok (.invokestatic idx, 3) := by rw [hC.1.2.1]; exact hd
  rcases hlk with hlink | ⟨host, hlink⟩
  · obtain ⟨vm₁, X₁, hstep⟩ := X.invokestatic hC.1.1 hC.1.2.2.2.1 (hts _ hlink) hnamed hmethM hstatic hkP hinitP hy (g := F0 m pc sl ((As.reverse ++ st).map (gv_t ad))) rfl hlen hstk hdg
    exact ⟨vm₁, mk, X₁, X₁.named hnamed, fun target h => hstep target fun acts => by rw [doInvoke_state]; exact h⟩
  · obtain ⟨vm₁, X₁, hstep⟩ := X.invokestaticNest hC.1.1 hC.1.2.2.2.1 (hts _ hlink) hnamed hmethM hstatic hkP hinitP hy (g := F0 m pc sl ((As.reverse ++ st).map (gv_t ad))) rfl hlen hstk hdg
    exact ⟨vm₁, mk, X₁, X₁.named hnamed, fun target h => hstep target fun acts => by rw [doInvoke_state]; exact h⟩
set_option maxHeartbeats 1000000 in
theorem gv_goV {μ μ' : gM} {p : Program} {l : Launch} {e : Env} {R : Room} {s : State} {m : MethodId} {args : Array Value} {below : List Frame} {meth : Method} {c : Code} {D : va_G} {cA : FieldType → ClassId} {ad : Nat → Nat} (hC : gv_C μ p l R s m meth c D cA ad) {idx n : Nat} (cs : gv_csV μ μ' idx n) {As st : List Value} (hn : As.length = n) {σ : gS} {q ci N : Nat} {fs : List (Option Nat)} {T0 : u_T} (hsh : gv_sh[q]? = some (.inr (ci, fs))) (hcl : vwCl[ci]? = some (μ'.y.cls, T0, N))
    {T : State} {locs : List Loc} {cells slots pc : Nat} {sl : Array Slot} (X : Stand p l e R s m args below meth c T locs cells slots) (hP : va_P D vwCl (gv_w cA ad σ) T.heap) (hd : decode μ.cc pc = .ok (.invokevirtual idx, 3)) :
    ∃ (vm₁ : Vm) (mk : MethodId), Stand p l e R s m args below meth c (T.setVm vm₁) locs cells slots ∧ (T.setVm vm₁).methodNamed? μ'.y = some mk ∧ ∀ target, Steps p.tables e below (doInvoke e ((T.setVm vm₁).setTop (F0 m pc sl (st.map (gv_t ad)))) [] mk ((Value.ref q :: As).map (gv_t ad)).toArray).1 target → Steps p.tables e below (T.setTop (F0 m pc sl ((As.reverse ++ .ref q :: st).map (gv_t ad)))) target := by
  obtain ⟨hok, hlk, ⟨hinst, hsel⟩, hy, hpar⟩ := cs
  have hts := gv_hts hC args
  obtain ⟨mk, methM, hnamed, hmethM, hstM, habM⟩ := Cond.instanceMethod_spec (hts _ hinst)
  obtain ⟨methM', cM, hmethM', -, -, -, -, -, -, hsigM⟩ := gv_cwspec hnamed (hts _ hok.2.2.2.1)
  cases hmethM.symm.trans hmethM'
  obtain ⟨cellB, hcell, hobj, hcls⟩ := va_recv (q0 := q) hC.2.2.1 hP hcl (gv_wget σ hsh)
  obtain ⟨c2, r2, m2, q1, q2, q3, q4, kP, hkP, hkPi⟩ := Cond.selects_spec (hts _ hsel)
  cases hcls.symm.trans q1
  cases (State.methodFound?_of_named hnamed hy).symm.trans q2
  cases hnamed.symm.trans q3
  have hselP : selectMethod e.platform s.vm cellB.cls mk = .method mk := by rw [Launch.admits_selectMethod X.admits]; exact q4
  have hlen : (As.map (gv_t ad)).length = methM.sig.parameters.length := by
    rw [hsigM] at hpar
    rw [List.length_map, hn]
    exact (Option.some.inj hpar).symm
  have hstk : (F0 m pc sl ((As.reverse ++ .ref q :: st).map (gv_t ad))).stack = (As.map (gv_t ad)).reverse ++ .ref (ad q) :: st.map (gv_t ad) := by simp [gv_t]
  have hdg : decode c.code (F0 m pc sl ((As.reverse ++ .ref q :: st).map (gv_t ad))).pc = .ok (.invokevirtual idx, 3) := by rw [hC.1.2.1]; exact hd
  rcases hlk with hlink | ⟨host, hlink⟩
  · obtain ⟨vm₁, X₁, hstep⟩ := X.invokevirtual hC.1.1 hC.1.2.2.2.1 (hts _ hlink) hnamed hmethM hstM hkP hkPi hy (a := ad q) (cell := cellB) hcell (fun z h => by rw [h] at hobj; cases hobj) hselP hmethM habM hkP hkPi (g := F0 m pc sl ((As.reverse ++ .ref q :: st).map (gv_t ad))) rfl hlen hstk hdg
    exact ⟨vm₁, mk, X₁, X₁.named hnamed, fun target h => hstep target fun acts => by rw [doInvoke_state]; exact h⟩
  · obtain ⟨vm₁, X₁, hstep⟩ := X.invokevirtualNest hC.1.1 hC.1.2.2.2.1 (hts _ hlink) hnamed hmethM hstM hkP hkPi hy (a := ad q) (cell := cellB) hcell (fun z h => by rw [h] at hobj; cases hobj) hselP hmethM habM hkP hkPi (g := F0 m pc sl ((As.reverse ++ .ref q :: st).map (gv_t ad))) rfl hlen hstk hdg
    exact ⟨vm₁, mk, X₁, X₁.named hnamed, fun target h => hstep target fun acts => by rw [doInvoke_state]; exact h⟩
set_option maxHeartbeats 1000000 in
theorem gv_callS {μ μ' : gM} {k k' pc pc' idx n : Nat} {w w' : Bool} {ls : List (Option Value)} {As st : List Value} {σ : gS} {Q Q' : gQ → gS → Prop} (cs : gv_csS μ μ' idx n) (hV : gv_K μ' As σ Q') (hd : decode μ.cc pc = .ok (.invokestatic idx, 3)) (hn : As.length = n) (hent : (lg_sl As).length ≤ μ'.nL) (hw8 : (st.map fun v => v.category).sum ≤ 8) (hk : 1 ≤ k) (hkk : k' + μ'.c = k) (hw' : w' = true → μ'.pu = true ∧ w = true) (hno : μ.hh.all (fun h => !(decide (h.1 ≤ pc) && decide (pc < h.2.1))) = true) (hp : pc + 3 = pc')
    (ht : ∀ n σ', Q' (.inr n) σ' → Q (.inr n) σ') (h : ∀ v σ', Q' (.inl v) σ' → gv_V μ k' w' pc' ls (v.toList ++ st) σ' Q) : gv_V μ k w pc ls (As.reverse ++ st) σ Q := by
  intro p l e R s m args below meth c D cA ad Z hC hE H locs cells slots sl hw0 hc hs hX hP hS hl T hT X
  subst hp
  subst hT
  obtain ⟨vm₁, mk, X₁, hnm, hstep⟩ := gv_goS hC cs hn (st := st) (sl := sl) X hd
  have hlocks := hC.1.2.2.2.2.2.1
  have hwt : 2 * (F0 m pc sl (st.map (gv_t ad))).monitorRoom + ((F0 m pc sl (st.map (gv_t ad))).stack.map fun v => v.category).sum ≤ 8 := by
    show 2 * 0 + ((st.map (gv_t ad)).map fun v => v.category).sum ≤ 8
    rw [gv_cat]; omega
  rcases gv_back hC hV cs.1 hent hk X₁ hc hs hX hP hS (g := F0 m pc sl (st.map (gv_t ad))) rfl (hl.1.trans hC.1.2.2.1.symm) (by rw [hC.1.2.1]; exact hd) hwt hnm with ⟨v, σ', B, L, hQ, hpu, hSt, hX', hP', hS', hst⟩ | ⟨n9, σ', B, L, a, hQ, hSt, hX', hP', hS', hex, hst⟩
  · obtain ⟨t, a1, b1⟩ := h v σ' hQ p l e R s m args below meth c D cA ad Z hC hE B.heap L (cells + μ'.c) (slots + 6 * μ'.c) sl (fun z => ⟨(hpu (hw' z).1).trans (hw0 (hw' z).2).1, (hw0 (hw' z).2).2⟩) (by omega) (by omega) hX' hP' hS' hl B rfl hSt
    refine ⟨t, hstep _ (hst.trans ?_), b1⟩
    have e9 : (v.toList ++ st).map (gv_t ad) = (v.map (gv_t ad)).toList ++ st.map (gv_t ad) := by cases v <;> rfl
    rw [e9] at a1
    exact a1
  · obtain ⟨w1, w2, w3, w4, w5⟩ := hSt.leaveThrown a (g := F0 m pc sl (st.map (gv_t ad))) rfl rfl rfl (gv_out hC hno)
    exact ⟨_, hstep _ (hst.trans w1), hE.2 n9 σ' _ a L (cells + 1) (slots + 6) (ht n9 σ' hQ) w2 w3 w4 w5 (by omega) (by omega) hX' hP' hS' hex⟩
set_option maxHeartbeats 1000000 in
theorem gv_callV {μ μ' : gM} {k k' pc pc' idx n : Nat} {w w' : Bool} {ls : List (Option Value)} {As st : List Value} {σ : gS} {Q Q' : gQ → gS → Prop} {q ci N : Nat} {fs : List (Option Nat)} {T0 : u_T} (cs : gv_csV μ μ' idx n) (hV : gv_K μ' (.ref q :: As) σ Q') (hd : decode μ.cc pc = .ok (.invokevirtual idx, 3)) (hsh : gv_sh[q]? = some (.inr (ci, fs))) (hcl : vwCl[ci]? = some (μ'.y.cls, T0, N)) (hn : As.length = n) (hent : (lg_sl (.ref q :: As)).length ≤ μ'.nL) (hw8 : (st.map fun v => v.category).sum ≤ 8) (hk : 1 ≤ k) (hkk : k' + μ'.c = k) (hw' : w' = true → μ'.pu = true ∧ w = true) (hno : μ.hh.all (fun h => !(decide (h.1 ≤ pc) && decide (pc < h.2.1))) = true) (hp : pc + 3 = pc')
    (ht : ∀ n σ', Q' (.inr n) σ' → Q (.inr n) σ') (h : ∀ v σ', Q' (.inl v) σ' → gv_V μ k' w' pc' ls (v.toList ++ st) σ' Q) : gv_V μ k w pc ls (As.reverse ++ .ref q :: st) σ Q := by
  intro p l e R s m args below meth c D cA ad Z hC hE H locs cells slots sl hw0 hc hs hX hP hS hl T hT X
  subst hp
  subst hT
  obtain ⟨vm₁, mk, X₁, hnm, hstep⟩ := gv_goV hC cs hn hsh hcl (st := st) (sl := sl) X hP hd
  have hlocks := hC.1.2.2.2.2.2.1
  have hwt : 2 * (F0 m pc sl (st.map (gv_t ad))).monitorRoom + ((F0 m pc sl (st.map (gv_t ad))).stack.map fun v => v.category).sum ≤ 8 := by
    show 2 * 0 + ((st.map (gv_t ad)).map fun v => v.category).sum ≤ 8
    rw [gv_cat]; omega
  rcases gv_back hC hV cs.1 hent hk X₁ hc hs hX hP hS (g := F0 m pc sl (st.map (gv_t ad))) rfl (hl.1.trans hC.1.2.2.1.symm) (by rw [hC.1.2.1]; exact hd) hwt hnm with ⟨v, σ', B, L, hQ, hpu, hSt, hX', hP', hS', hst⟩ | ⟨n9, σ', B, L, a, hQ, hSt, hX', hP', hS', hex, hst⟩
  · obtain ⟨t, a1, b1⟩ := h v σ' hQ p l e R s m args below meth c D cA ad Z hC hE B.heap L (cells + μ'.c) (slots + 6 * μ'.c) sl (fun z => ⟨(hpu (hw' z).1).trans (hw0 (hw' z).2).1, (hw0 (hw' z).2).2⟩) (by omega) (by omega) hX' hP' hS' hl B rfl hSt
    refine ⟨t, hstep _ (hst.trans ?_), b1⟩
    have e9 : (v.toList ++ st).map (gv_t ad) = (v.map (gv_t ad)).toList ++ st.map (gv_t ad) := by cases v <;> rfl
    rw [e9] at a1
    exact a1
  · obtain ⟨w1, w2, w3, w4, w5⟩ := hSt.leaveThrown a (g := F0 m pc sl (st.map (gv_t ad))) rfl rfl rfl (gv_out hC hno)
    exact ⟨_, hstep _ (hst.trans w1), hE.2 n9 σ' _ a L (cells + 1) (slots + 6) (ht n9 σ' hQ) w2 w3 w4 w5 (by omega) (by omega) hX' hP' hS' hex⟩
end
section
theorem gv_same0 {s s' : State} {c n : Nat} (h : s.sameButNew s' [] c n) : ∀ q, q < s.heap.size → s'.heap[q]? = s.heap[q]? := by
  intro q hq
  obtain ⟨c', h1, h2, h3, h4⟩ := h.2.2.2.2.2 q s.heap[q] (Array.getElem?_eq_getElem hq)
  rw [h1, Array.getElem?_eq_getElem hq]
  have h5 : c'.slots = (s.heap[q]).slots := by
    refine Array.ext h3 fun i hi1 hi2 => ?_
    have := h4 i (by simp)
    rw [Array.getElem?_eq_getElem hi1, Array.getElem?_eq_getElem hi2] at this
    exact Option.some.inj this
  rw [h2, h5]
def gv_nm : List String := ["java/lang/RuntimeException", "java/lang/Exception"]
def gv_th (own : String) (idx ic n : Nat) : Prop := Cond.classLink own idx (gv_en n) ∈ gv_ws ∧ Cond.instantiable (gv_en n) 6 ∈ gv_ws ∧ Cond.initialized (gv_en n) ∈ gv_ws ∧ Jvm.Bundle.fit (gv_en n) = true ∧
  ∀ a ∈ Jvm.Bundle.ownAtoms0 own ic (gv_en n) gv_nm, a ∈ gv_ws ∨ (a = .isRef (.static "java/lang/Throwable" "UNASSIGNED_STACK" "[Ljava/lang/StackTraceElement;") ∨ a = .laysStatic "java/lang/Throwable" "UNASSIGNED_STACK" "[Ljava/lang/StackTraceElement;") ∨ (a = .isRef (.static "java/lang/Throwable" "SUPPRESSED_SENTINEL" "Ljava/util/List;") ∨ a = .laysStatic "java/lang/Throwable" "SUPPRESSED_SENTINEL" "Ljava/util/List;")
set_option maxHeartbeats 1000000 in
theorem gv_throw {μ : gM} {k pc idx ic n : Nat} {ls : List (Option Value)} {st : List Value} {σ : gS} {Q : gQ → gS → Prop} (th : gv_th μ.y.cls idx ic n) (hd0 : decode μ.cc pc = .ok (.new idx, 3)) (hd3 : decode μ.cc (pc + 3) = .ok (.dup, 1)) (hd4 : decode μ.cc (pc + 3 + 1) = .ok (.invokespecial ic, 3)) (hd7 : decode μ.cc (pc + 3 + 1 + 3) = .ok (.athrow, 1))
    (hk : 1 ≤ k) (hF : 6 ≤ μ.F) (hw8 : (st.map fun v => v.category).sum ≤ 8) (hno : μ.hh.all (fun h => !(decide (h.1 ≤ pc + 3 + 1 + 3) && decide (pc + 3 + 1 + 3 < h.2.1))) = true) (h : Q (.inr n) σ) : gv_V μ k true pc ls st σ Q := by
  intro p l e R s m args below meth c D cA ad Z hC hE H locs cells slots sl hw0 hc hs hX hP hS hl T hT X
  subst hT
  obtain ⟨rfl, hold⟩ := hw0 rfl
  obtain ⟨t1, t2, t3, t4, t5⟩ := th
  have hts := gv_hts hC args
  have hlocks := hC.1.2.2.2.2.2.1
  have hF1 := hC.1.2.2.2.2.2.2.2.2.1
  have hF2 := hC.1.2.2.2.2.2.2.2.2.2
  have htr : e.platform.stackTraces = false := by rw [X.admits.platform]; exact hC.1.2.2.2.2.2.2.2.1
  obtain ⟨vm₁, cX, kX, hfX, hkX, -, -, X₁, st1⟩ := X.newCold hC.1.1 (own := μ.y.cls) (C := gv_en n) (index := idx) (n := 6) hC.1.2.2.2.1 (hts _ t1) (hts _ t2) (hts _ t3)
    (g := F0 m pc sl (st.map (gv_t ad))) rfl (by rw [hC.1.2.1]; exact hd0) (by omega) (by omega)
  generalize hT : (T.setVm vm₁).pushCell { cls := cX, slots := kX.instanceTypes.map defaultValue, vm := .none } = T1 at X₁ st1
  have hcellA : T1.heap[T.heap.size]? = some (freshCell cX kX) := by rw [← hT]; exact State.heap_pushCell_size _ _
  have hat : ∀ a ∈ Jvm.Bundle.ownAtoms0 μ.y.cls ic (gv_en n) gv_nm, a.before args s = true := by
    intro a ha
    rcases t5 a ha with h1 | (rfl | rfl) | (rfl | rfl)
    · exact hts _ h1
    · exact hC.2.2.2.2.2.1.isref args
    · exact hC.2.2.2.2.2.1.lays args
    · exact hC.2.2.2.2.2.2.isref args
    · exact hC.2.2.2.2.2.2.lays args
  obtain ⟨U, hsteps, hrun, hend, hW, hsame, ce, hce, K⟩ := X₁.ctorThrow0 hC.1.1 htr (own := μ.y.cls) (cls := gv_en n) (names := gv_nm) (ic := ic) hC.1.2.2.2.1 t4 (by decide +kernel) hat (fun y hy => by cases hy) hfX hkX hcellA hS.1
    (g := F0 m (pc + 3 + 1) sl (.ref T.heap.size :: .ref T.heap.size :: st.map (gv_t ad))) rfl (hl.1.trans hC.1.2.2.1.symm) rfl rfl (rest := st.map (gv_t ad)) rfl (by rw [hC.1.2.1]; exact hd4) (by rw [hC.1.2.1]; exact hd7) (gv_out hC hno)
    (by simp only [gv_nm, List.length_cons, List.length_nil]; omega) (by
      show 2 * 0 + ((Value.ref T.heap.size :: st.map (gv_t ad)).map fun v => v.category).sum + (13 * (gv_nm.length + 1) + 41) ≤ R.locals
      rw [List.map_cons, List.sum_cons, gv_cat]
      show 2 * 0 + (1 + (st.map fun v => v.category).sum) + (13 * (2 + 1) + 41) ≤ R.locals
      omega)
  have hu : ∀ q, q < s.heap.size → U.heap[q]? = s.heap[q]? := by
    have h9 := gv_same0 hsame
    exact h9
  have hu0 : ∀ q, q < s.heap.size → T.heap[q]? = s.heap[q]? := by
    have h9 := gv_same0 X.same
    exact h9
  refine ⟨U, st1 _ ?_, hE.2 n σ U T.heap.size [] (cells + 1) (slots + 6) h hrun hend hW hsame (by omega) (by omega) hX ?_ ?_ ⟨ce, hce, by rw [K.vm]; rfl, K.cls⟩⟩
  · have hx := hC.1.1
    have hb := hC.1.2.1
    show Steps p.tables e below (T1.setTop (F0 m (pc + 3) sl (.ref T.heap.size :: st.map (gv_t ad)))) _
    jvm_step X₁.here [X₁.here.top, hx, hb, hd3, Value.category]
    exact hsteps
  · intro j q hq
    have hj : j < gv_sh.length := by rw [← gv_wlen cA ad σ]; exact (List.getElem?_eq_some_iff.mp hq).1
    have hqa : q.1 = ad j := by
      rw [gv_wget σ (List.getElem?_eq_getElem hj)] at hq
      cases hq; rfl
    refine (hP j q hq).kept ?_
    rw [hqa, hu _ (hold j hj), hu0 _ (hold j hj)]
  · exact ⟨hsame.2.1, fun q h1 _ => hu q h1, fun q hq => by cases hq⟩
end
section
theorem gv_seek1 {e : Env} {S : State} {f : JFrame} {a : Addr} {cell : Cell} {y : ExceptionTableEntry} {t : List ExceptionTableEntry} {c : ClassId} {b : Bool} {Q : Handler → Pre} {E : CtlPost} {d : Bool} {acts : List Action} (hx : covers y f.pc = true) (h0 : y.catchType ≠ 0)
    (hl : S.vm.ClassLinks e.platform f.method.cls y.catchType c) (hcell : S.heap[a]? = some cell) (hobj : ∀ k, cell.vm ≠ .statics k) (hk : ∃ k, S.vm.classes[cell.cls]? = some k) (hc : ∃ k, S.vm.classes[c]? = some k) (hb : S.vm.assignable cell.cls c = b) :
    wp (findHandler.go f a (y :: t)) Q E e d acts S ↔ if b = true then Q (.found y.handlerPc) d acts (S.setVm (S.vm.noted f.method.cls y.catchType (.cls c))) else wp (findHandler.go f a t) Q E e d acts (S.setVm (S.vm.noted f.method.cls y.catchType (.cls c))) := by
  simp only [covers] at hx
  obtain ⟨ha, ht⟩ := (resolveClass_links e.toSetting hl).op (op := VmOp.resolveClass f.method.cls y.catchType) rfl
  have hal : S.vm.Alike (S.vm.noted f.method.cls y.catchType (.cls c)) := (Vm.Alike.refl S.vm).noted _ _ _
  obtain ⟨k1, hk1⟩ := hk
  obtain ⟨k2, hk2⟩ := hc
  obtain ⟨k1', hk1', -⟩ := hal.2.2 _ _ hk1
  obtain ⟨k2', hk2', -⟩ := hal.2.2 _ _ hk2
  have hb' : (S.vm.noted f.method.cls y.catchType (.cls c)).assignable cell.cls c = b := by rw [hal.assignable]; exact hb
  cases b <;> simp [findHandler.go, hx, h0, ha, ht, hcell, hobj, hk1', hk2', hb', VmOp.dirties, VmOp.acts]
theorem gv_seek {e : Env} {s0 : State} {f : JFrame} {a : Addr} {cell : Cell} (hobj : ∀ k, cell.vm ≠ .statics k) (hk0 : ∃ k, s0.vm.classes[cell.cls]? = some k) (x : ExceptionTableEntry) (post : List ExceptionTableEntry) (hx : covers x f.pc = true) (hx0 : x.catchType ≠ 0) {c : ClassId}
    (hl : s0.vm.ClassLinks e.platform f.method.cls x.catchType c) (hfit : s0.vm.assignable cell.cls c = true) :
    ∀ (pre : List ExceptionTableEntry) (S : State), s0.WarmedH S.vm → S.heap[a]? = some cell → (∀ y ∈ pre, covers y f.pc = true ∧ y.catchType ≠ 0 ∧ ∃ c, s0.vm.ClassLinks e.platform f.method.cls y.catchType c ∧ s0.vm.assignable cell.cls c = false) →
      ∃ vm', s0.WarmedH vm' ∧ ∀ (Q : Handler → Pre) (E : CtlPost) (d : Bool) (acts : List Action), wp (findHandler.go f a (pre ++ x :: post)) Q E e d acts S ↔ Q (.found x.handlerPc) d acts (S.setVm vm') := by
  obtain ⟨k0, hk0⟩ := hk0
  intro pre
  induction pre with
  | nil =>
    intro S hW hcell _
    obtain ⟨k0', hk0', -⟩ := hW.alike.2.2 _ _ hk0
    obtain ⟨dk, _, _, kt, hd, _, _, _, _, hkt, _, hopen⟩ := hl.here
    obtain ⟨kt', hkt', -⟩ := hW.alike.2.2 _ _ hkt
    refine ⟨_, hW.noted hd hopen (State.rightAt_cls hl), fun Q E d acts => ?_⟩
    rw [List.nil_append, gv_seek1 (b := true) hx hx0 (hW.classLinks hl) hcell hobj ⟨k0', hk0'⟩ ⟨kt', hkt'⟩ (by rw [hW.alike.assignable]; exact hfit), if_pos rfl]
  | cons y ys ih =>
    intro S hW hcell hpass
    obtain ⟨k0', hk0', -⟩ := hW.alike.2.2 _ _ hk0
    obtain ⟨hy, hy0, c', hl', hno⟩ := hpass y List.mem_cons_self
    obtain ⟨dk, _, _, kt, hd, _, _, _, _, hkt, _, hopen⟩ := hl'.here
    obtain ⟨kt', hkt', -⟩ := hW.alike.2.2 _ _ hkt
    obtain ⟨vm', hW', hq⟩ := ih (S.setVm (S.vm.noted f.method.cls y.catchType (.cls c'))) (hW.noted hd hopen (State.rightAt_cls hl')) hcell (fun z hz => hpass z (List.mem_cons_of_mem _ hz))
    refine ⟨vm', hW', fun Q E d acts => ?_⟩
    rw [List.cons_append, gv_seek1 (b := false) hy hy0 (hW.classLinks hl') hcell hobj ⟨k0', hk0'⟩ ⟨kt', hkt'⟩ (by rw [hW.alike.assignable]; exact hno), if_neg (by decide)]
    exact hq Q E d acts
theorem gv_lands {tb : Tables} {e : Env} {s target : State} {g : JFrame} {c : Code} {below : List Frame} {a : Addr} (h : At s g.method c below) {pc : Nat} {vm' : Vm}
    (hf : ∀ (Q : Handler → Pre) (E : CtlPost) (d : Bool) (acts : List Action), wp (findHandler g a) Q E e d acts ((s.setTop g).pushFrame (.throwing a)) ↔ Q (.found pc) d acts (((s.setTop g).pushFrame (.throwing a)).setVm vm'))
    (hrest : Steps tb e below ((s.setVm vm').setTop { g with pc := pc, stack := [.ref a] }) target) : Steps tb e below ((s.setTop g).pushFrame (.throwing a)) target := by
  obtain ⟨hgo, hw⟩ := h.throwing a
  refine Steps.head hgo hw ?_
  obtain ⟨g₀, hg⟩ := Option.isSome_iff_exists.mp h.top
  obtain ⟨r, hr⟩ := State.topJava?_eq_some.mp hg
  have key : (stepThrowing e ((s.setTop g).pushFrame (.throwing a)) a (.java g :: s.frames.tail)).Is ((((s.setTop g).pushFrame (.throwing a)).setVm vm').setFrames (.java { g with pc := pc, stack := [.ref a] } :: s.frames.tail)) [] := by
    simp only [stepThrowing, searchFrame, vmDo]
    generalize hz : Sem.go _ e false [] ((s.setTop g).pushFrame (.throwing a)) = res
    obtain ⟨as, rfl, ha⟩ := Sem.eq_ok_of hz (a := Handler.found pc) (s' := ((s.setTop g).pushFrame (.throwing a)).setVm vm') (acts' := []) (by simp [hf _ _ _ _])
    exact ⟨rfl, ha⟩
  rw [stepThread_throwing (frames_entered h.top _), key.1]
  have hr' : (s.setVm vm').frames = .java g₀ :: r := hr
  rw [State.setTop_of_frames _ hr'] at hrest
  rw [hr, List.tail_cons, State.pushFrame, State.setTop_of_frames _ hr]
  have e1 : ∀ (u : State) (f1 f2 : List Frame), ((u.setFrames f1).setVm vm').setFrames f2 = (u.setVm vm').setFrames f2 := fun u f1 f2 => by
    show ((u.setVm vm').setFrames f1).setFrames f2 = _
    rw [State.setFrames_setFrames]
  rw [e1, e1]
  exact hrest
def gv_ct (μ : gM) (pc n hpc : Nat) (v : Int32) : Prop := ∃ (pre : List (Nat × Nat × Nat × Nat)) (a b ct : Nat) (post : List (Nat × Nat × Nat × Nat)), μ.hh = pre ++ (a, b, hpc, ct) :: post ∧
  (∀ y ∈ pre, (y.1 ≤ pc ∧ pc < y.2.1) ∧ y.2.2.2 ≠ 0 ∧ ∃ nm, Cond.classLink μ.y.cls y.2.2.2 nm ∈ gv_ws ∧ Cond.not (.castable (gv_en n) nm) ∈ gv_ws) ∧ (a ≤ pc ∧ pc < b) ∧ ct ≠ 0 ∧ (∃ nm, Cond.classLink μ.y.cls ct nm ∈ gv_ws ∧ Cond.castable (gv_en n) nm ∈ gv_ws) ∧
  ∃ (j : Nat) (len : Nat) (z : Int), j < μ.nL ∧ ((∃ f : Fin 4, (f : Nat) = j ∧ len = 1 ∧ decode μ.cc hpc = .ok (.astore_n f, 1)) ∨ (len = 2 ∧ decode μ.cc hpc = .ok (.astore j, 2))) ∧ decode μ.cc (hpc + len) = .ok (.iconst z, 1) ∧ Int32.ofInt z = v ∧ decode μ.cc (hpc + len + 1) = .ok (.ireturn, 1)
set_option maxHeartbeats 2000000 in
theorem gv_callC {μ μ' : gM} {k k' pc pc' idx n : Nat} {w w' : Bool} {ls : List (Option Value)} {As st : List Value} {σ : gS} {Q Q' : gQ → gS → Prop} {q ci N : Nat} {fs : List (Option Nat)} {T0 : u_T} (cs : gv_csV μ μ' idx n) (hV : gv_K μ' (.ref q :: As) σ Q') (hd : decode μ.cc pc = .ok (.invokevirtual idx, 3)) (hsh : gv_sh[q]? = some (.inr (ci, fs))) (hcl : vwCl[ci]? = some (μ'.y.cls, T0, N)) (hn : As.length = n) (hent : (lg_sl (.ref q :: As)).length ≤ μ'.nL) (hw8 : (st.map fun v => v.category).sum ≤ 8) (hk : 1 ≤ k) (hkk : k' + μ'.c = k) (hw' : w' = true → μ'.pu = true ∧ w = true) (hrt : μ.rt = some .int) (hu : μ.pu = false) (hkc : 1 ≤ k - 1 + μ.c) (hp : pc + 3 = pc')
    (ht : ∀ n σ', Q' (.inr n) σ' → ∃ hpc v, gv_ct μ pc n hpc v ∧ Q (.inl (some (.int v))) σ') (h : ∀ v σ', Q' (.inl v) σ' → gv_V μ k' w' pc' ls (v.toList ++ st) σ' Q) : gv_V μ k w pc ls (As.reverse ++ .ref q :: st) σ Q := by
  intro p l e R s m args below meth c D cA ad Z hC hE H locs cells slots sl hw0 hc hs hX hP hS hl T hT X
  subst hp
  subst hT
  obtain ⟨vm₁, mk, X₁, hnm, hstep⟩ := gv_goV hC cs hn hsh hcl (st := st) (sl := sl) X hP hd
  have hlocks := hC.1.2.2.2.2.2.1
  have hts := gv_hts hC args
  have hwt : 2 * (F0 m pc sl (st.map (gv_t ad))).monitorRoom + ((F0 m pc sl (st.map (gv_t ad))).stack.map fun v => v.category).sum ≤ 8 := by
    show 2 * 0 + ((st.map (gv_t ad)).map fun v => v.category).sum ≤ 8
    rw [gv_cat]; omega
  rcases gv_back hC hV cs.1 hent hk X₁ hc hs hX hP hS (g := F0 m pc sl (st.map (gv_t ad))) rfl (hl.1.trans hC.1.2.2.1.symm) (by rw [hC.1.2.1]; exact hd) hwt hnm with ⟨v, σ', B, L, hQ, hpu, hSt, hX', hP', hS', hst⟩ | ⟨n9, σ', B, L, a, hQ, hSt, hX', hP', hS', hex, hst⟩
  · obtain ⟨t, a1, b1⟩ := h v σ' hQ p l e R s m args below meth c D cA ad Z hC hE B.heap L (cells + μ'.c) (slots + 6 * μ'.c) sl (fun z => ⟨(hpu (hw' z).1).trans (hw0 (hw' z).2).1, (hw0 (hw' z).2).2⟩) (by omega) (by omega) hX' hP' hS' hl B rfl hSt
    refine ⟨t, hstep _ (hst.trans ?_), b1⟩
    have e9 : (v.toList ++ st).map (gv_t ad) = (v.map (gv_t ad)).toList ++ st.map (gv_t ad) := by cases v <;> rfl
    rw [e9] at a1
    exact a1
  · obtain ⟨hpc, v, ⟨pre, ra, rb, ct, post, hhh, hpass, hcov, hct0, ⟨nm, hlk, hcast⟩, j, len, z, hj, hast, hdi, hvz, hdr⟩, hQv⟩ := ht n9 σ' hQ
    obtain ⟨ce, hce, hces, hcec⟩ := hex
    have hpl : e.platform.magicAccessors = ({} : Platform).magicAccessors := by rw [X.admits.platform]
    have htab : c.exceptionTable.toList = tableOf pre ++ (⟨ra, rb, hpc, ct⟩ : ExceptionTableEntry) :: tableOf post := by
      have h1 := table_eq c.exceptionTable.toList
      rw [hC.1.2.2.2.2.2.2.1, hhh] at h1
      rw [← h1]; simp [tableOf]
    obtain ⟨cT, hcT, hclk⟩ := Cond.classLink_spec hC.1.2.2.2.1 (hts _ hlk) e.platform hpl
    obtain ⟨c3, t3, w1, w2, w3⟩ := Cond.castable_spec (hts _ hcast)
    cases hcec.symm.trans w1
    cases hcT.symm.trans w2
    have hk0 : ∃ k, s.vm.classes[ce.cls]? = some k := Vm.classAt_of_findClass hcec
    obtain ⟨vm', hW', hseek⟩ := gv_seek (e := e) (s0 := s) (f := F0 m pc sl (st.map (gv_t ad))) (a := a) (cell := ce) (VmData.ne_statics_of hces) hk0 (⟨ra, rb, hpc, ct⟩ : ExceptionTableEntry) (tableOf post) (by simp [covers, hcov]) hct0 hclk w3 (tableOf pre) ((B.setTop (F0 m pc sl (st.map (gv_t ad)))).pushFrame (.throwing a)) hSt.warmed hce (by
      intro y hy
      obtain ⟨q, hq, rfl⟩ := List.mem_map.mp hy
      obtain ⟨g1, g2, nm', g3, g4⟩ := hpass q hq
      obtain ⟨c', hc', hcl'⟩ := Cond.classLink_spec hC.1.2.2.2.1 (hts _ g3) e.platform hpl
      refine ⟨by simp [covers, g1], g2, c', hcl', ?_⟩
      have hv := Cond.holds_not_iff.mp (hts _ g4)
      simp only [Cond.value, hcec, hc'] at hv
      exact Option.some.inj hv)
    have hWh : W p l e R s m args below meth c B.heap L (cells + 1) (slots + 6) Z (F0 m hpc sl [.ref a]) := by
      rcases hast with ⟨f, hf, rfl, hda⟩ | ⟨rfl, hda⟩
      · exact lv_astore_n hC.1.1 hC.1.2.1 hda hf hl hj rfl (fun sl' _ => lv_iconst hC.1.1 hC.1.2.1 hdi hvz (hE.1 (some (.int v)) σ' (k - 1) B.heap L (cells + 1) (slots + 6) sl' _ .ireturn hQv (Or.inr (Or.inl ⟨v, .int, rfl, hrt, rfl, rfl⟩)) hkc (fun z => by rw [hu] at z; cases z) (by omega) (by omega) hX' hP' hS' hdr))
      · exact lv_astore hC.1.1 hC.1.2.1 hda hl hj rfl (fun sl' _ => lv_iconst hC.1.1 hC.1.2.1 hdi hvz (hE.1 (some (.int v)) σ' (k - 1) B.heap L (cells + 1) (slots + 6) sl' _ .ireturn hQv (Or.inr (Or.inl ⟨v, .int, rfl, hrt, rfl, rfl⟩)) hkc (fun z => by rw [hu] at z; cases z) (by omega) (by omega) hX' hP' hS' hdr))
    obtain ⟨t, a1, b1⟩ := hWh (B.setVm vm') rfl (hSt.noted hW')
    refine ⟨t, hstep _ (hst.trans (gv_lands (g := F0 m pc sl (st.map (gv_t ad))) hSt.here ?_ a1)), b1⟩
    intro Q9 E9 d9 acts9
    rw [Jvm.W.findHandler_eq (meth := meth) (code := c) hSt.method' hSt.code, htab]
    exact hseek Q9 E9 d9 acts9
def gv_is (o : gQ) (σ : gS) : gQ → gS → Prop := fun o' σ' => o' = o ∧ σ' = σ
end
section
def gv_md (μ : gM) : Prop := μ.nL ≤ 81 ∧ plainName μ.y.cls = true ∧ gv_cw μ ∈ gv_ws ∧ Cond.initialized μ.y.cls ∈ gv_ws
def gv_sd (μ : gM) (n : Nat) : Prop := Cond.static μ.y ∈ gv_ws ∧ (μ.y.cls ≠ "java/lang/invoke/MethodHandle" ∧ μ.y.cls ≠ "java/lang/invoke/VarHandle") ∧ (parseMethodDescriptor μ.y.desc).map (fun d => d.parameters.length) = some n
def gv_vd (μ : gM) (n : Nat) : Prop := (Cond.instanceMethod μ.y ∈ gv_ws ∧ Cond.selects μ.y.cls μ.y μ.y ∈ gv_ws) ∧ (μ.y.cls ≠ "java/lang/invoke/MethodHandle" ∧ μ.y.cls ≠ "java/lang/invoke/VarHandle") ∧ (parseMethodDescriptor μ.y.desc).map (fun d => d.parameters.length) = some n
theorem gv_mkS {μ μ' : gM} {idx n : Nat} (hF : μ'.F + 1 ≤ μ.F) (h1 : gv_md μ') (hl : gv_lkm μ μ' idx) (h2 : gv_sd μ' n) : gv_csS μ μ' idx n := ⟨⟨hF, h1⟩, hl, h2⟩
theorem gv_mkV {μ μ' : gM} {idx n : Nat} (hF : μ'.F + 1 ≤ μ.F) (h1 : gv_md μ') (hl : gv_lkm μ μ' idx) (h2 : gv_vd μ' n) : gv_csV μ μ' idx n := ⟨⟨hF, h1⟩, hl, h2⟩
def m_G_word : gM := (⟨"GuessFences", "word", "(I)I"⟩, prog_1_method_2_code, 2, (Option.some Jvm.ClassFile.FieldType.int), [], 9, 0, false)
theorem md_G_word : gv_md m_G_word := ⟨by decide, by decide, gv_i2 101 rfl rfl, gv_i1 1 rfl rfl⟩
theorem vd_G_word : gv_vd m_G_word 1 := ⟨⟨gv_i2 99 rfl rfl, gv_i2 100 rfl rfl⟩, ⟨by decide, by decide⟩, by decide +kernel⟩
def m_G_noteNewWords : gM := (⟨"GuessFences", "noteNewWords", "()V"⟩, prog_1_method_29_code, 1, (Option.none : Option Jvm.ClassFile.FieldType), [], 8, 0, false)
theorem md_G_noteNewWords : gv_md m_G_noteNewWords := ⟨by decide, by decide, gv_i2 105 rfl rfl, gv_i1 1 rfl rfl⟩
theorem vd_G_noteNewWords : gv_vd m_G_noteNewWords 0 := ⟨⟨gv_i2 104 rfl rfl, gv_inp 0 (by decide +kernel) rfl⟩, ⟨by decide, by decide⟩, by decide +kernel⟩
def m_G_clear : gM := (⟨"GuessFences", "clear", "()I"⟩, prog_1_method_4_code, 2, (Option.some Jvm.ClassFile.FieldType.int), [], 9, 0, false)
theorem md_G_clear : gv_md m_G_clear := ⟨by decide, by decide, gv_i2 109 rfl rfl, gv_i1 1 rfl rfl⟩
theorem vd_G_clear : gv_vd m_G_clear 0 := ⟨⟨gv_i2 107 rfl rfl, gv_i2 108 rfl rfl⟩, ⟨by decide, by decide⟩, by decide +kernel⟩
def m_G_wordAt : gM := (⟨"GuessFences", "wordAt", "(I)J"⟩, prog_1_method_5_code, 2, (Option.some Jvm.ClassFile.FieldType.long), [], 9, 0, true)
theorem md_G_wordAt : gv_md m_G_wordAt := ⟨by decide, by decide, gv_i2 113 rfl rfl, gv_i1 1 rfl rfl⟩
theorem vd_G_wordAt : gv_vd m_G_wordAt 1 := ⟨⟨gv_i2 111 rfl rfl, gv_i2 112 rfl rfl⟩, ⟨by decide, by decide⟩, by decide +kernel⟩
def m_G_hasWord : gM := (⟨"GuessFences", "hasWord", "(I)Z"⟩, prog_1_method_25_code, 2, (Option.some Jvm.ClassFile.FieldType.boolean), [], 8, 0, true)
theorem md_G_hasWord : gv_md m_G_hasWord := ⟨by decide, by decide, gv_i2 117 rfl rfl, gv_i1 1 rfl rfl⟩
theorem vd_G_hasWord : gv_vd m_G_hasWord 1 := ⟨⟨gv_i2 116 rfl rfl, gv_inp 1 (by decide +kernel) rfl⟩, ⟨by decide, by decide⟩, by decide +kernel⟩
def m_G_load : gM := (⟨"GuessFences", "load", "()I"⟩, prog_1_method_6_code, 1, (Option.some Jvm.ClassFile.FieldType.int), [], 13, 0, false)
theorem md_G_load : gv_md m_G_load := ⟨by decide, by decide, gv_i2 123 rfl rfl, gv_i1 1 rfl rfl⟩
theorem vd_G_load : gv_vd m_G_load 0 := ⟨⟨gv_i2 121 rfl rfl, gv_i2 122 rfl rfl⟩, ⟨by decide, by decide⟩, by decide +kernel⟩
def m_G_takeUp : gM := (⟨"GuessFences", "takeUp", "()I"⟩, prog_1_method_30_code, 3, (Option.some Jvm.ClassFile.FieldType.int), [], 12, 0, false)
theorem md_G_takeUp : gv_md m_G_takeUp := ⟨by decide, by decide, gv_i2 127 rfl rfl, gv_i1 1 rfl rfl⟩
theorem vd_G_takeUp : gv_vd m_G_takeUp 0 := ⟨⟨gv_i2 126 rfl rfl, gv_inp 2 (by decide +kernel) rfl⟩, ⟨by decide, by decide⟩, by decide +kernel⟩
def m_G_faultAt : gM := (⟨"GuessFences", "faultAt", "()I"⟩, prog_1_method_7_code, 1, (Option.some Jvm.ClassFile.FieldType.int), [], 8, 0, true)
theorem md_G_faultAt : gv_md m_G_faultAt := ⟨by decide, by decide, gv_i2 218 rfl rfl, gv_i1 1 rfl rfl⟩
theorem vd_G_faultAt : gv_vd m_G_faultAt 0 := ⟨⟨gv_i2 216 rfl rfl, gv_i2 217 rfl rfl⟩, ⟨by decide, by decide⟩, by decide +kernel⟩
def m_G_leak : gM := (⟨"GuessFences", "leak", "(I)J"⟩, prog_1_method_17_code, 2, (Option.some Jvm.ClassFile.FieldType.long), [], 9, 0, true)
theorem md_G_leak : gv_md m_G_leak := ⟨by decide, by decide, gv_i2 222 rfl rfl, gv_i1 1 rfl rfl⟩
theorem vd_G_leak : gv_vd m_G_leak 1 := ⟨⟨gv_i2 220 rfl rfl, gv_i2 221 rfl rfl⟩, ⟨by decide, by decide⟩, by decide +kernel⟩
def m_G_again : gM := (⟨"GuessFences", "again", "(II)I"⟩, prog_1_method_3_code, 6, (Option.some Jvm.ClassFile.FieldType.int), [], 9, 0, false)
theorem md_G_again : gv_md m_G_again := ⟨by decide, by decide, gv_i2 235 rfl rfl, gv_i1 1 rfl rfl⟩
theorem vd_G_again : gv_vd m_G_again 2 := ⟨⟨gv_i2 233 rfl rfl, gv_i2 234 rfl rfl⟩, ⟨by decide, by decide⟩, by decide +kernel⟩
def m_G_decoded : gM := (⟨"GuessFences", "decoded", "(II)I"⟩, prog_1_method_8_code, 3, (Option.some Jvm.ClassFile.FieldType.int), [], 10, 0, true)
theorem md_G_decoded : gv_md m_G_decoded := ⟨by decide, by decide, gv_i3 70 rfl rfl, gv_i1 1 rfl rfl⟩
theorem vd_G_decoded : gv_vd m_G_decoded 2 := ⟨⟨gv_i3 68 rfl rfl, gv_i3 69 rfl rfl⟩, ⟨by decide, by decide⟩, by decide +kernel⟩
def m_G_needLoaded : gM := (⟨"GuessFences", "needLoaded", "()V"⟩, prog_1_method_27_code, 1, (Option.none : Option Jvm.ClassFile.FieldType), [], 8, 0, true)
theorem md_G_needLoaded : gv_md m_G_needLoaded := ⟨by decide, by decide, gv_i3 74 rfl rfl, gv_i1 1 rfl rfl⟩
theorem vd_G_needLoaded : gv_vd m_G_needLoaded 0 := ⟨⟨gv_i3 73 rfl rfl, gv_inp 4 (by decide +kernel) rfl⟩, ⟨by decide, by decide⟩, by decide +kernel⟩
def m_G_needWord : gM := (⟨"GuessFences", "needWord", "(I)V"⟩, prog_1_method_26_code, 2, (Option.none : Option Jvm.ClassFile.FieldType), [], 9, 0, true)
theorem md_G_needWord : gv_md m_G_needWord := ⟨by decide, by decide, gv_i3 93 rfl rfl, gv_i1 1 rfl rfl⟩
theorem vd_G_needWord : gv_vd m_G_needWord 1 := ⟨⟨gv_i3 92 rfl rfl, gv_inp 5 (by decide +kernel) rfl⟩, ⟨by decide, by decide⟩, by decide +kernel⟩
def m_G_set : gM := (⟨"GuessFences", "set", "(II)V"⟩, prog_1_method_9_code, 3, (Option.none : Option Jvm.ClassFile.FieldType), [], 9, 0, false)
theorem md_G_set : gv_md m_G_set := ⟨by decide, by decide, gv_i3 119 rfl rfl, gv_i1 1 rfl rfl⟩
theorem vd_G_set : gv_vd m_G_set 2 := ⟨⟨gv_i3 117 rfl rfl, gv_i3 118 rfl rfl⟩, ⟨by decide, by decide⟩, by decide +kernel⟩
def m_G_needAllResolved : gM := (⟨"GuessFences", "needAllResolved", "()V"⟩, prog_1_method_28_code, 1, (Option.none : Option Jvm.ClassFile.FieldType), [], 8, 0, true)
theorem md_G_needAllResolved : gv_md m_G_needAllResolved := ⟨by decide, by decide, gv_i3 123 rfl rfl, gv_i1 1 rfl rfl⟩
theorem vd_G_needAllResolved : gv_vd m_G_needAllResolved 0 := ⟨⟨gv_i3 122 rfl rfl, gv_inp 6 (by decide +kernel) rfl⟩, ⟨by decide, by decide⟩, by decide +kernel⟩
def m_G_register : gM := (⟨"GuessFences", "register", "(I)I"⟩, prog_1_method_10_code, 2, (Option.some Jvm.ClassFile.FieldType.int), [], 9, 0, true)
theorem md_G_register : gv_md m_G_register := ⟨by decide, by decide, gv_i3 134 rfl rfl, gv_i1 1 rfl rfl⟩
theorem vd_G_register : gv_vd m_G_register 1 := ⟨⟨gv_i3 132 rfl rfl, gv_i3 133 rfl rfl⟩, ⟨by decide, by decide⟩, by decide +kernel⟩
def m_G_poke : gM := (⟨"GuessFences", "poke", "(II)V"⟩, prog_1_method_11_code, 3, (Option.none : Option Jvm.ClassFile.FieldType), [], 9, 0, false)
theorem md_G_poke : gv_md m_G_poke := ⟨by decide, by decide, gv_i3 145 rfl rfl, gv_i1 1 rfl rfl⟩
theorem vd_G_poke : gv_vd m_G_poke 2 := ⟨⟨gv_i3 143 rfl rfl, gv_i3 144 rfl rfl⟩, ⟨by decide, by decide⟩, by decide +kernel⟩
def m_G_peek : gM := (⟨"GuessFences", "peek", "(I)I"⟩, prog_1_method_12_code, 2, (Option.some Jvm.ClassFile.FieldType.int), [], 9, 0, true)
theorem md_G_peek : gv_md m_G_peek := ⟨by decide, by decide, gv_i3 156 rfl rfl, gv_i1 1 rfl rfl⟩
theorem vd_G_peek : gv_vd m_G_peek 1 := ⟨⟨gv_i3 154 rfl rfl, gv_i3 155 rfl rfl⟩, ⟨by decide, by decide⟩, by decide +kernel⟩
def m_G_run : gM := (⟨"GuessFences", "run", "(I)I"⟩, prog_1_method_13_code, 2, (Option.some Jvm.ClassFile.FieldType.int), [], 13, 0, false)
theorem md_G_run : gv_md m_G_run := ⟨by decide, by decide, gv_i3 167 rfl rfl, gv_i1 1 rfl rfl⟩
theorem vd_G_run : gv_vd m_G_run 1 := ⟨⟨gv_i3 165 rfl rfl, gv_i3 166 rfl rfl⟩, ⟨by decide, by decide⟩, by decide +kernel⟩
def m_G_order : gM := (⟨"GuessFences", "order", "(I)I"⟩, prog_1_method_14_code, 2, (Option.some Jvm.ClassFile.FieldType.int), [], 14, 0, false)
theorem md_G_order : gv_md m_G_order := ⟨by decide, by decide, gv_i4 7 rfl rfl, gv_i1 1 rfl rfl⟩
theorem vd_G_order : gv_vd m_G_order 1 := ⟨⟨gv_i4 5 rfl rfl, gv_i4 6 rfl rfl⟩, ⟨by decide, by decide⟩, by decide +kernel⟩
def m_G_window : gM := (⟨"GuessFences", "window", "(I)I"⟩, prog_1_method_15_code, 3, (Option.some Jvm.ClassFile.FieldType.int), [], 8, 0, false)
theorem md_G_window : gv_md m_G_window := ⟨by decide, by decide, gv_i4 74 rfl rfl, gv_i1 1 rfl rfl⟩
theorem vd_G_window : gv_vd m_G_window 1 := ⟨⟨gv_i4 72 rfl rfl, gv_i4 73 rfl rfl⟩, ⟨by decide, by decide⟩, by decide +kernel⟩
def m_G_state : gM := (⟨"GuessFences", "state", "(I)I"⟩, prog_1_method_16_code, 2, (Option.some Jvm.ClassFile.FieldType.int), [], 10, 0, true)
theorem md_G_state : gv_md m_G_state := ⟨by decide, by decide, gv_i4 81 rfl rfl, gv_i1 1 rfl rfl⟩
theorem vd_G_state : gv_vd m_G_state 1 := ⟨⟨gv_i4 79 rfl rfl, gv_i4 80 rfl rfl⟩, ⟨by decide, by decide⟩, by decide +kernel⟩
def m_G_forget : gM := (⟨"GuessFences", "forget", "()I"⟩, prog_1_method_18_code, 1, (Option.some Jvm.ClassFile.FieldType.int), [], 9, 0, false)
theorem md_G_forget : gv_md m_G_forget := ⟨by decide, by decide, gv_i4 92 rfl rfl, gv_i1 1 rfl rfl⟩
theorem vd_G_forget : gv_vd m_G_forget 0 := ⟨⟨gv_i4 90 rfl rfl, gv_i4 91 rfl rfl⟩, ⟨by decide, by decide⟩, by decide +kernel⟩
def m_G_check : gM := (⟨"GuessFences", "check", "()I"⟩, prog_1_method_19_code, 1, (Option.some Jvm.ClassFile.FieldType.int), [], 15, 0, false)
theorem md_G_check : gv_md m_G_check := ⟨by decide, by decide, gv_i4 100 rfl rfl, gv_i1 1 rfl rfl⟩
theorem vd_G_check : gv_vd m_G_check 0 := ⟨⟨gv_i4 98 rfl rfl, gv_i4 99 rfl rfl⟩, ⟨by decide, by decide⟩, by decide +kernel⟩
def m_G_study : gM := (⟨"GuessFences", "study", "()V"⟩, prog_1_method_31_code, 1, (Option.none : Option Jvm.ClassFile.FieldType), [], 14, 0, false)
theorem md_G_study : gv_md m_G_study := ⟨by decide, by decide, gv_i4 104 rfl rfl, gv_i1 1 rfl rfl⟩
theorem vd_G_study : gv_vd m_G_study 0 := ⟨⟨gv_i4 103 rfl rfl, gv_inp 19 (by decide +kernel) rfl⟩, ⟨by decide, by decide⟩, by decide +kernel⟩
def m_G_reaches : gM := (⟨"GuessFences", "reaches", "(II)Z"⟩, prog_1_method_20_code, 3, (Option.some Jvm.ClassFile.FieldType.boolean), [], 12, 0, false)
theorem md_G_reaches : gv_md m_G_reaches := ⟨by decide, by decide, gv_i6 50 rfl rfl, gv_i1 1 rfl rfl⟩
theorem vd_G_reaches : gv_vd m_G_reaches 2 := ⟨⟨gv_i6 48 rfl rfl, gv_i6 49 rfl rfl⟩, ⟨by decide, by decide⟩, by decide +kernel⟩
def m_G_mark : gM := (⟨"GuessFences", "mark", "(I)I"⟩, prog_1_method_21_code, 2, (Option.some Jvm.ClassFile.FieldType.int), [], 15, 0, false)
theorem md_G_mark : gv_md m_G_mark := ⟨by decide, by decide, gv_i6 62 rfl rfl, gv_i1 1 rfl rfl⟩
theorem vd_G_mark : gv_vd m_G_mark 1 := ⟨⟨gv_i6 60 rfl rfl, gv_i6 61 rfl rfl⟩, ⟨by decide, by decide⟩, by decide +kernel⟩
def m_G_cut : gM := (⟨"GuessFences", "cut", "()I"⟩, prog_1_method_22_code, 1, (Option.some Jvm.ClassFile.FieldType.int), [], 15, 0, false)
theorem md_G_cut : gv_md m_G_cut := ⟨by decide, by decide, gv_i6 69 rfl rfl, gv_i1 1 rfl rfl⟩
theorem vd_G_cut : gv_vd m_G_cut 0 := ⟨⟨gv_i6 67 rfl rfl, gv_i6 68 rfl rfl⟩, ⟨by decide, by decide⟩, by decide +kernel⟩
def m_G_rewrite : gM := (⟨"GuessFences", "rewrite", "()I"⟩, prog_1_method_23_code, 1, (Option.some Jvm.ClassFile.FieldType.int), [], 15, 0, false)
theorem md_G_rewrite : gv_md m_G_rewrite := ⟨by decide, by decide, gv_i6 76 rfl rfl, gv_i1 1 rfl rfl⟩
theorem vd_G_rewrite : gv_vd m_G_rewrite 0 := ⟨⟨gv_i6 74 rfl rfl, gv_i6 75 rfl rfl⟩, ⟨by decide, by decide⟩, by decide +kernel⟩
def m_G_home : gM := (⟨"GuessFences", "home", "(I)I"⟩, prog_1_method_24_code, 2, (Option.some Jvm.ClassFile.FieldType.int), [], 10, 0, true)
theorem md_G_home : gv_md m_G_home := ⟨by decide, by decide, gv_i6 114 rfl rfl, gv_i1 1 rfl rfl⟩
theorem vd_G_home : gv_vd m_G_home 1 := ⟨⟨gv_i6 112 rfl rfl, gv_i6 113 rfl rfl⟩, ⟨by decide, by decide⟩, by decide +kernel⟩
def m_Listing_put : gM := (⟨"GuessFences$Listing", "put", "(II)V"⟩, prog_6_method_2_code, 7, (Option.none : Option Jvm.ClassFile.FieldType), [], 11, 0, false)
theorem md_Listing_put : gv_md m_Listing_put := ⟨by decide, by decide, gv_i2 168 rfl rfl, gv_i1 2 rfl rfl⟩
theorem vd_Listing_put : gv_vd m_Listing_put 2 := ⟨⟨gv_i2 166 rfl rfl, gv_i2 167 rfl rfl⟩, ⟨by decide, by decide⟩, by decide +kernel⟩
def m_Listing_operationOf : gM := (⟨"GuessFences$Listing", "operationOf", "(II)I"⟩, prog_6_method_3_code, 5, (Option.some Jvm.ClassFile.FieldType.int), [], 9, 0, true)
theorem md_Listing_operationOf : gv_md m_Listing_operationOf := ⟨by decide, by decide, gv_i2 172 rfl rfl, gv_i1 2 rfl rfl⟩
theorem sd_Listing_operationOf : gv_sd m_Listing_operationOf 2 := ⟨gv_i2 171 rfl rfl, ⟨by decide, by decide⟩, by decide +kernel⟩
def m_Listing_numberOf : gM := (⟨"GuessFences$Listing", "numberOf", "(II)I"⟩, prog_6_method_4_code, 2, (Option.some Jvm.ClassFile.FieldType.int), [], 10, 0, true)
theorem md_Listing_numberOf : gv_md m_Listing_numberOf := ⟨by decide, by decide, gv_i2 184 rfl rfl, gv_i1 2 rfl rfl⟩
theorem sd_Listing_numberOf : gv_sd m_Listing_numberOf 2 := ⟨gv_i2 183 rfl rfl, ⟨by decide, by decide⟩, by decide +kernel⟩
def m_Listing_part : gM := (⟨"GuessFences$Listing", "part", "(II)I"⟩, prog_6_method_5_code, 3, (Option.some Jvm.ClassFile.FieldType.int), [], 8, 0, true)
theorem md_Listing_part : gv_md m_Listing_part := ⟨by decide, by decide, gv_i3 112 rfl rfl, gv_i1 2 rfl rfl⟩
theorem vd_Listing_part : gv_vd m_Listing_part 2 := ⟨⟨gv_i3 110 rfl rfl, gv_i3 111 rfl rfl⟩, ⟨by decide, by decide⟩, by decide +kernel⟩
def m_Listing_isDivision : gM := (⟨"GuessFences$Listing", "isDivision", "(I)Z"⟩, prog_6_method_7_code, 2, (Option.some Jvm.ClassFile.FieldType.boolean), [], 9, 0, true)
theorem md_Listing_isDivision : gv_md m_Listing_isDivision := ⟨by decide, by decide, gv_i3 192 rfl rfl, gv_i1 2 rfl rfl⟩
theorem vd_Listing_isDivision : gv_vd m_Listing_isDivision 1 := ⟨⟨gv_i3 190 rfl rfl, gv_i3 191 rfl rfl⟩, ⟨by decide, by decide⟩, by decide +kernel⟩
def m_Listing_isAt : gM := (⟨"GuessFences$Listing", "isAt", "(II)Z"⟩, prog_6_method_6_code, 3, (Option.some Jvm.ClassFile.FieldType.boolean), [], 8, 0, true)
theorem md_Listing_isAt : gv_md m_Listing_isAt := ⟨by decide, by decide, gv_i4 19 rfl rfl, gv_i1 2 rfl rfl⟩
theorem vd_Listing_isAt : gv_vd m_Listing_isAt 2 := ⟨⟨gv_i4 17 rfl rfl, gv_i4 18 rfl rfl⟩, ⟨by decide, by decide⟩, by decide +kernel⟩
def m_Listing_handsOn : gM := (⟨"GuessFences$Listing", "handsOn", "(I)Z"⟩, prog_6_method_10_code, 2, (Option.some Jvm.ClassFile.FieldType.boolean), [], 8, 0, true)
theorem md_Listing_handsOn : gv_md m_Listing_handsOn := ⟨by decide, by decide, gv_i4 121 rfl rfl, gv_i1 2 rfl rfl⟩
theorem vd_Listing_handsOn : gv_vd m_Listing_handsOn 1 := ⟨⟨gv_i4 119 rfl rfl, gv_i4 120 rfl rfl⟩, ⟨by decide, by decide⟩, by decide +kernel⟩
def m_Listing_nextBehind : gM := (⟨"GuessFences$Listing", "nextBehind", "(I)I"⟩, prog_6_method_11_code, 3, (Option.some Jvm.ClassFile.FieldType.int), [], 8, 0, true)
theorem md_Listing_nextBehind : gv_md m_Listing_nextBehind := ⟨by decide, by decide, gv_i4 133 rfl rfl, gv_i1 2 rfl rfl⟩
theorem vd_Listing_nextBehind : gv_vd m_Listing_nextBehind 1 := ⟨⟨gv_i4 131 rfl rfl, gv_i4 132 rfl rfl⟩, ⟨by decide, by decide⟩, by decide +kernel⟩
def m_Listing_nextAside : gM := (⟨"GuessFences$Listing", "nextAside", "(I)I"⟩, prog_6_method_12_code, 2, (Option.some Jvm.ClassFile.FieldType.int), [], 8, 0, true)
theorem md_Listing_nextAside : gv_md m_Listing_nextAside := ⟨by decide, by decide, gv_i4 141 rfl rfl, gv_i1 2 rfl rfl⟩
theorem vd_Listing_nextAside : gv_vd m_Listing_nextAside 1 := ⟨⟨gv_i4 139 rfl rfl, gv_i4 140 rfl rfl⟩, ⟨by decide, by decide⟩, by decide +kernel⟩
def m_Listing_uses : gM := (⟨"GuessFences$Listing", "uses", "(II)Z"⟩, prog_6_method_8_code, 3, (Option.some Jvm.ClassFile.FieldType.boolean), [], 8, 0, true)
theorem md_Listing_uses : gv_md m_Listing_uses := ⟨by decide, by decide, gv_i5 210 rfl rfl, gv_i1 2 rfl rfl⟩
theorem vd_Listing_uses : gv_vd m_Listing_uses 2 := ⟨⟨gv_i5 208 rfl rfl, gv_i5 209 rfl rfl⟩, ⟨by decide, by decide⟩, by decide +kernel⟩
def m_Listing_betrays : gM := (⟨"GuessFences$Listing", "betrays", "(II)Z"⟩, prog_6_method_9_code, 3, (Option.some Jvm.ClassFile.FieldType.boolean), [], 10, 0, true)
theorem md_Listing_betrays : gv_md m_Listing_betrays := ⟨by decide, by decide, gv_i5 229 rfl rfl, gv_i1 2 rfl rfl⟩
theorem vd_Listing_betrays : gv_vd m_Listing_betrays 2 := ⟨⟨gv_i5 227 rfl rfl, gv_i5 228 rfl rfl⟩, ⟨by decide, by decide⟩, by decide +kernel⟩
def m_Machine_begin : gM := (⟨"GuessFences$Machine", "begin", "()V"⟩, prog_7_method_2_code, 1, (Option.none : Option Jvm.ClassFile.FieldType), [], 9, 0, false)
theorem md_Machine_begin : gv_md m_Machine_begin := ⟨by decide, by decide, gv_i2 195 rfl rfl, gv_i1 3 rfl rfl⟩
theorem vd_Machine_begin : gv_vd m_Machine_begin 0 := ⟨⟨gv_i2 193 rfl rfl, gv_i2 194 rfl rfl⟩, ⟨by decide, by decide⟩, by decide +kernel⟩
def m_Machine_put : gM := (⟨"GuessFences$Machine", "put", "(II)V"⟩, prog_7_method_5_code, 3, (Option.none : Option Jvm.ClassFile.FieldType), [], 8, 0, false)
theorem md_Machine_put : gv_md m_Machine_put := ⟨by decide, by decide, gv_i3 127 rfl rfl, gv_i1 3 rfl rfl⟩
theorem vd_Machine_put : gv_vd m_Machine_put 2 := ⟨⟨gv_i3 125 rfl rfl, gv_i3 126 rfl rfl⟩, ⟨by decide, by decide⟩, by decide +kernel⟩
def m_Machine_value : gM := (⟨"GuessFences$Machine", "value", "(I)I"⟩, prog_7_method_4_code, 2, (Option.some Jvm.ClassFile.FieldType.int), [], 8, 0, true)
theorem md_Machine_value : gv_md m_Machine_value := ⟨by decide, by decide, gv_i3 138 rfl rfl, gv_i1 3 rfl rfl⟩
theorem vd_Machine_value : gv_vd m_Machine_value 1 := ⟨⟨gv_i3 136 rfl rfl, gv_i3 137 rfl rfl⟩, ⟨by decide, by decide⟩, by decide +kernel⟩
def m_Machine_write : gM := (⟨"GuessFences$Machine", "write", "(III)V"⟩, prog_7_method_7_code, 6, (Option.none : Option Jvm.ClassFile.FieldType), [], 8, 0, false)
theorem md_Machine_write : gv_md m_Machine_write := ⟨by decide, by decide, gv_i3 149 rfl rfl, gv_i1 3 rfl rfl⟩
theorem vd_Machine_write : gv_vd m_Machine_write 3 := ⟨⟨gv_i3 147 rfl rfl, gv_i3 148 rfl rfl⟩, ⟨by decide, by decide⟩, by decide +kernel⟩
def m_Machine_read : gM := (⟨"GuessFences$Machine", "read", "(II)I"⟩, prog_7_method_6_code, 6, (Option.some Jvm.ClassFile.FieldType.int), [], 8, 0, true)
theorem md_Machine_read : gv_md m_Machine_read := ⟨by decide, by decide, gv_i3 160 rfl rfl, gv_i1 3 rfl rfl⟩
theorem vd_Machine_read : gv_vd m_Machine_read 2 := ⟨⟨gv_i3 158 rfl rfl, gv_i3 159 rfl rfl⟩, ⟨by decide, by decide⟩, by decide +kernel⟩
def m_Machine_runInOrder : gM := (⟨"GuessFences$Machine", "runInOrder", "(I)I"⟩, prog_7_method_8_code, 3, (Option.some Jvm.ClassFile.FieldType.int), [], 12, 0, false)
theorem md_Machine_runInOrder : gv_md m_Machine_runInOrder := ⟨by decide, by decide, gv_i3 171 rfl rfl, gv_i1 3 rfl rfl⟩
theorem vd_Machine_runInOrder : gv_vd m_Machine_runInOrder 1 := ⟨⟨gv_i3 169 rfl rfl, gv_i3 170 rfl rfl⟩, ⟨by decide, by decide⟩, by decide +kernel⟩
def m_Machine_canRun : gM := (⟨"GuessFences$Machine", "canRun", "()Z"⟩, prog_7_method_10_code, 1, (Option.some Jvm.ClassFile.FieldType.boolean), [], 9, 0, true)
theorem md_Machine_canRun : gv_md m_Machine_canRun := ⟨by decide, by decide, gv_i3 175 rfl rfl, gv_i1 3 rfl rfl⟩
theorem vd_Machine_canRun : gv_vd m_Machine_canRun 0 := ⟨⟨gv_i3 174 rfl rfl, gv_inp 7 (by decide +kernel) rfl⟩, ⟨by decide, by decide⟩, by decide +kernel⟩
def m_Machine_step : gM := (⟨"GuessFences$Machine", "step", "()V"⟩, prog_7_method_15_code, 2, (Option.none : Option Jvm.ClassFile.FieldType), [], 11, 0, false)
theorem md_Machine_step : gv_md m_Machine_step := ⟨by decide, by decide, gv_i3 183 rfl rfl, gv_i1 3 rfl rfl⟩
theorem vd_Machine_step : gv_vd m_Machine_step 0 := ⟨⟨gv_i3 182 rfl rfl, gv_inp 8 (by decide +kernel) rfl⟩, ⟨by decide, by decide⟩, by decide +kernel⟩
def m_Machine_compute : gM := (⟨"GuessFences$Machine", "compute", "(I)V"⟩, prog_7_method_16_code, 4, (Option.none : Option Jvm.ClassFile.FieldType), [], 10, 0, false)
theorem md_Machine_compute : gv_md m_Machine_compute := ⟨by decide, by decide, gv_i3 187 rfl rfl, gv_i1 3 rfl rfl⟩
theorem vd_Machine_compute : gv_vd m_Machine_compute 1 := ⟨⟨gv_i3 186 rfl rfl, gv_inp 9 (by decide +kernel) rfl⟩, ⟨by decide, by decide⟩, by decide +kernel⟩
def m_Machine_fetch : gM := (⟨"GuessFences$Machine", "fetch", "(I)V"⟩, prog_7_method_18_code, 7, (Option.none : Option Jvm.ClassFile.FieldType), [], 10, 0, false)
theorem md_Machine_fetch : gv_md m_Machine_fetch := ⟨by decide, by decide, gv_i3 219 rfl rfl, gv_i1 3 rfl rfl⟩
theorem vd_Machine_fetch : gv_vd m_Machine_fetch 1 := ⟨⟨gv_i3 218 rfl rfl, gv_inp 10 (by decide +kernel) rfl⟩, ⟨by decide, by decide⟩, by decide +kernel⟩
def m_Machine_addressOf : gM := (⟨"GuessFences$Machine", "addressOf", "(I)I"⟩, prog_7_method_17_code, 2, (Option.some Jvm.ClassFile.FieldType.int), [], 9, 0, true)
theorem md_Machine_addressOf : gv_md m_Machine_addressOf := ⟨by decide, by decide, gv_i3 223 rfl rfl, gv_i1 3 rfl rfl⟩
theorem vd_Machine_addressOf : gv_vd m_Machine_addressOf 1 := ⟨⟨gv_i3 222 rfl rfl, gv_inp 11 (by decide +kernel) rfl⟩, ⟨by decide, by decide⟩, by decide +kernel⟩
def m_Machine_keep : gM := (⟨"GuessFences$Machine", "keep", "(I)V"⟩, prog_7_method_19_code, 3, (Option.none : Option Jvm.ClassFile.FieldType), [], 10, 0, false)
theorem md_Machine_keep : gv_md m_Machine_keep := ⟨by decide, by decide, gv_i3 228 rfl rfl, gv_i1 3 rfl rfl⟩
theorem vd_Machine_keep : gv_vd m_Machine_keep 1 := ⟨⟨gv_i3 227 rfl rfl, gv_inp 12 (by decide +kernel) rfl⟩, ⟨by decide, by decide⟩, by decide +kernel⟩
def m_Machine_branchDestination : gM := (⟨"GuessFences$Machine", "branchDestination", "(I)I"⟩, prog_7_method_20_code, 4, (Option.some Jvm.ClassFile.FieldType.int), [], 10, 0, true)
theorem md_Machine_branchDestination : gv_md m_Machine_branchDestination := ⟨by decide, by decide, gv_i3 233 rfl rfl, gv_i1 3 rfl rfl⟩
theorem vd_Machine_branchDestination : gv_vd m_Machine_branchDestination 1 := ⟨⟨gv_i3 232 rfl rfl, gv_inp 13 (by decide +kernel) rfl⟩, ⟨by decide, by decide⟩, by decide +kernel⟩
def m_Machine_goTo : gM := (⟨"GuessFences$Machine", "goTo", "(I)V"⟩, prog_7_method_21_code, 2, (Option.none : Option Jvm.ClassFile.FieldType), [], 9, 0, false)
theorem md_Machine_goTo : gv_md m_Machine_goTo := ⟨by decide, by decide, gv_i4 0 rfl rfl, gv_i1 3 rfl rfl⟩
theorem vd_Machine_goTo : gv_vd m_Machine_goTo 1 := ⟨⟨gv_i3 239 rfl rfl, gv_inp 14 (by decide +kernel) rfl⟩, ⟨by decide, by decide⟩, by decide +kernel⟩
def m_Machine_obey : gM := (⟨"GuessFences$Machine", "obey", "(I)I"⟩, prog_7_method_9_code, 2, (Option.some Jvm.ClassFile.FieldType.int), [], 13, 0, false)
theorem md_Machine_obey : gv_md m_Machine_obey := ⟨by decide, by decide, gv_i4 11 rfl rfl, gv_i1 3 rfl rfl⟩
theorem vd_Machine_obey : gv_vd m_Machine_obey 1 := ⟨⟨gv_i4 9 rfl rfl, gv_i4 10 rfl rfl⟩, ⟨by decide, by decide⟩, by decide +kernel⟩
def m_Machine_runAhead : gM := (⟨"GuessFences$Machine", "runAhead", "()I"⟩, prog_7_method_12_code, 2, (Option.some Jvm.ClassFile.FieldType.int), [], 12, 0, false)
theorem md_Machine_runAhead : gv_md m_Machine_runAhead := ⟨by decide, by decide, gv_i4 15 rfl rfl, gv_i1 3 rfl rfl⟩
theorem vd_Machine_runAhead : gv_vd m_Machine_runAhead 0 := ⟨⟨gv_i4 14 rfl rfl, gv_inp 15 (by decide +kernel) rfl⟩, ⟨by decide, by decide⟩, by decide +kernel⟩
def m_Machine_windowIsFull : gM := (⟨"GuessFences$Machine", "windowIsFull", "()Z"⟩, prog_7_method_11_code, 1, (Option.some Jvm.ClassFile.FieldType.boolean), [], 9, 0, true)
theorem md_Machine_windowIsFull : gv_md m_Machine_windowIsFull := ⟨by decide, by decide, gv_i4 23 rfl rfl, gv_i1 3 rfl rfl⟩
theorem vd_Machine_windowIsFull : gv_vd m_Machine_windowIsFull 0 := ⟨⟨gv_i4 22 rfl rfl, gv_inp 16 (by decide +kernel) rfl⟩, ⟨by decide, by decide⟩, by decide +kernel⟩
def m_Machine_guess : gM := (⟨"GuessFences$Machine", "guess", "(Z)I"⟩, prog_7_method_13_code, 3, (Option.some Jvm.ClassFile.FieldType.int), [], 11, 0, false)
theorem md_Machine_guess : gv_md m_Machine_guess := ⟨by decide, by decide, gv_i4 35 rfl rfl, gv_i1 3 rfl rfl⟩
theorem vd_Machine_guess : gv_vd m_Machine_guess 1 := ⟨⟨gv_i4 34 rfl rfl, gv_inp 17 (by decide +kernel) rfl⟩, ⟨by decide, by decide⟩, by decide +kernel⟩
def m_Machine_resolve : gM := (⟨"GuessFences$Machine", "resolve", "()I"⟩, prog_7_method_14_code, 1, (Option.some Jvm.ClassFile.FieldType.int), [], 10, 0, false)
theorem md_Machine_resolve : gv_md m_Machine_resolve := ⟨by decide, by decide, gv_i4 50 rfl rfl, gv_i1 3 rfl rfl⟩
theorem vd_Machine_resolve : gv_vd m_Machine_resolve 0 := ⟨⟨gv_i4 49 rfl rfl, gv_inp 18 (by decide +kernel) rfl⟩, ⟨by decide, by decide⟩, by decide +kernel⟩
def m_Machine_figure : gM := (⟨"GuessFences$Machine", "figure", "(I)I"⟩, prog_7_method_3_code, 2, (Option.some Jvm.ClassFile.FieldType.int), [], 9, 0, true)
theorem md_Machine_figure : gv_md m_Machine_figure := ⟨by decide, by decide, gv_i4 85 rfl rfl, gv_i1 3 rfl rfl⟩
theorem vd_Machine_figure : gv_vd m_Machine_figure 1 := ⟨⟨gv_i4 83 rfl rfl, gv_i4 84 rfl rfl⟩, ⟨by decide, by decide⟩, by decide +kernel⟩
def m_Leaks_drop : gM := (⟨"GuessFences$Leaks", "drop", "()I"⟩, prog_5_method_5_code, 2, (Option.some Jvm.ClassFile.FieldType.int), [], 8, 0, false)
theorem md_Leaks_drop : gv_md m_Leaks_drop := ⟨by decide, by decide, gv_i2 205 rfl rfl, gv_i1 4 rfl rfl⟩
theorem vd_Leaks_drop : gv_vd m_Leaks_drop 0 := ⟨⟨gv_i2 203 rfl rfl, gv_i2 204 rfl rfl⟩, ⟨by decide, by decide⟩, by decide +kernel⟩
def m_Leaks_pair : gM := (⟨"GuessFences$Leaks", "pair", "(I)J"⟩, prog_5_method_4_code, 2, (Option.some Jvm.ClassFile.FieldType.long), [], 8, 0, true)
theorem md_Leaks_pair : gv_md m_Leaks_pair := ⟨by decide, by decide, gv_i2 226 rfl rfl, gv_i1 4 rfl rfl⟩
theorem vd_Leaks_pair : gv_vd m_Leaks_pair 1 := ⟨⟨gv_i2 224 rfl rfl, gv_i2 225 rfl rfl⟩, ⟨by decide, by decide⟩, by decide +kernel⟩
def m_Leaks_hasRoom : gM := (⟨"GuessFences$Leaks", "hasRoom", "()Z"⟩, prog_5_method_2_code, 1, (Option.some Jvm.ClassFile.FieldType.boolean), [], 8, 0, true)
theorem md_Leaks_hasRoom : gv_md m_Leaks_hasRoom := ⟨by decide, by decide, gv_i3 179 rfl rfl, gv_i1 4 rfl rfl⟩
theorem vd_Leaks_hasRoom : gv_vd m_Leaks_hasRoom 0 := ⟨⟨gv_i3 177 rfl rfl, gv_i3 178 rfl rfl⟩, ⟨by decide, by decide⟩, by decide +kernel⟩
def m_Leaks_add : gM := (⟨"GuessFences$Leaks", "add", "(II)V"⟩, prog_5_method_3_code, 3, (Option.none : Option Jvm.ClassFile.FieldType), [], 8, 0, false)
theorem md_Leaks_add : gv_md m_Leaks_add := ⟨by decide, by decide, gv_i3 199 rfl rfl, gv_i1 4 rfl rfl⟩
theorem vd_Leaks_add : gv_vd m_Leaks_add 2 := ⟨⟨gv_i3 197 rfl rfl, gv_i3 198 rfl rfl⟩, ⟨by decide, by decide⟩, by decide +kernel⟩
def m_Guesses_drop : gM := (⟨"GuessFences$Guesses", "drop", "()V"⟩, prog_4_method_2_code, 1, (Option.none : Option Jvm.ClassFile.FieldType), [], 8, 0, false)
theorem md_Guesses_drop : gv_md m_Guesses_drop := ⟨by decide, by decide, gv_i2 209 rfl rfl, gv_i1 5 rfl rfl⟩
theorem vd_Guesses_drop : gv_vd m_Guesses_drop 0 := ⟨⟨gv_i2 207 rfl rfl, gv_i2 208 rfl rfl⟩, ⟨by decide, by decide⟩, by decide +kernel⟩
def m_Guesses_distance : gM := (⟨"GuessFences$Guesses", "distance", "()I"⟩, prog_4_method_3_code, 1, (Option.some Jvm.ClassFile.FieldType.int), [], 8, 0, true)
theorem md_Guesses_distance : gv_md m_Guesses_distance := ⟨by decide, by decide, gv_i4 27 rfl rfl, gv_i1 5 rfl rfl⟩
theorem vd_Guesses_distance : gv_vd m_Guesses_distance 0 := ⟨⟨gv_i4 25 rfl rfl, gv_i4 26 rfl rfl⟩, ⟨by decide, by decide⟩, by decide +kernel⟩
def m_Guesses_countStep : gM := (⟨"GuessFences$Guesses", "countStep", "()V"⟩, prog_4_method_4_code, 1, (Option.none : Option Jvm.ClassFile.FieldType), [], 8, 0, false)
theorem md_Guesses_countStep : gv_md m_Guesses_countStep := ⟨by decide, by decide, gv_i4 31 rfl rfl, gv_i1 5 rfl rfl⟩
theorem vd_Guesses_countStep : gv_vd m_Guesses_countStep 0 := ⟨⟨gv_i4 29 rfl rfl, gv_i4 30 rfl rfl⟩, ⟨by decide, by decide⟩, by decide +kernel⟩
def m_Guesses_isFull : gM := (⟨"GuessFences$Guesses", "isFull", "()Z"⟩, prog_4_method_5_code, 1, (Option.some Jvm.ClassFile.FieldType.boolean), [], 8, 0, true)
theorem md_Guesses_isFull : gv_md m_Guesses_isFull := ⟨by decide, by decide, gv_i4 39 rfl rfl, gv_i1 5 rfl rfl⟩
theorem vd_Guesses_isFull : gv_vd m_Guesses_isFull 0 := ⟨⟨gv_i4 37 rfl rfl, gv_i4 38 rfl rfl⟩, ⟨by decide, by decide⟩, by decide +kernel⟩
def m_Guesses_add : gM := (⟨"GuessFences$Guesses", "add", "(II[I[B)V"⟩, prog_4_method_6_code, 6, (Option.none : Option Jvm.ClassFile.FieldType), [], 8, 0, false)
theorem md_Guesses_add : gv_md m_Guesses_add := ⟨by decide, by decide, gv_i4 43 rfl rfl, gv_i1 5 rfl rfl⟩
theorem vd_Guesses_add : gv_vd m_Guesses_add 4 := ⟨⟨gv_i4 41 rfl rfl, gv_i4 42 rfl rfl⟩, ⟨by decide, by decide⟩, by decide +kernel⟩
def m_Guesses_oldestOught : gM := (⟨"GuessFences$Guesses", "oldestOught", "()I"⟩, prog_4_method_8_code, 1, (Option.some Jvm.ClassFile.FieldType.int), [], 8, 0, true)
theorem md_Guesses_oldestOught : gv_md m_Guesses_oldestOught := ⟨by decide, by decide, gv_i4 54 rfl rfl, gv_i1 5 rfl rfl⟩
theorem vd_Guesses_oldestOught : gv_vd m_Guesses_oldestOught 0 := ⟨⟨gv_i4 52 rfl rfl, gv_i4 53 rfl rfl⟩, ⟨by decide, by decide⟩, by decide +kernel⟩
def m_Guesses_oldestIsRight : gM := (⟨"GuessFences$Guesses", "oldestIsRight", "()Z"⟩, prog_4_method_7_code, 1, (Option.some Jvm.ClassFile.FieldType.boolean), [], 8, 0, true)
theorem md_Guesses_oldestIsRight : gv_md m_Guesses_oldestIsRight := ⟨by decide, by decide, gv_i4 58 rfl rfl, gv_i1 5 rfl rfl⟩
theorem vd_Guesses_oldestIsRight : gv_vd m_Guesses_oldestIsRight 0 := ⟨⟨gv_i4 56 rfl rfl, gv_i4 57 rfl rfl⟩, ⟨by decide, by decide⟩, by decide +kernel⟩
def m_Guesses_closeOldest : gM := (⟨"GuessFences$Guesses", "closeOldest", "()V"⟩, prog_4_method_9_code, 1, (Option.none : Option Jvm.ClassFile.FieldType), [], 8, 0, false)
theorem md_Guesses_closeOldest : gv_md m_Guesses_closeOldest := ⟨by decide, by decide, gv_i4 62 rfl rfl, gv_i1 5 rfl rfl⟩
theorem vd_Guesses_closeOldest : gv_vd m_Guesses_closeOldest 0 := ⟨⟨gv_i4 60 rfl rfl, gv_i4 61 rfl rfl⟩, ⟨by decide, by decide⟩, by decide +kernel⟩
def m_Guesses_rollBack : gM := (⟨"GuessFences$Guesses", "rollBack", "([I[B)V"⟩, prog_4_method_10_code, 3, (Option.none : Option Jvm.ClassFile.FieldType), [], 9, 0, false)
theorem md_Guesses_rollBack : gv_md m_Guesses_rollBack := ⟨by decide, by decide, gv_i4 66 rfl rfl, gv_i1 5 rfl rfl⟩
theorem vd_Guesses_rollBack : gv_vd m_Guesses_rollBack 2 := ⟨⟨gv_i4 64 rfl rfl, gv_i4 65 rfl rfl⟩, ⟨by decide, by decide⟩, by decide +kernel⟩
def m_Reach_dropRows : gM := (⟨"GuessFences$Reach", "dropRows", "()V"⟩, prog_8_method_2_code, 1, (Option.none : Option Jvm.ClassFile.FieldType), [], 9, 0, false)
theorem md_Reach_dropRows : gv_md m_Reach_dropRows := ⟨by decide, by decide, gv_i2 213 rfl rfl, gv_i1 6 rfl rfl⟩
theorem vd_Reach_dropRows : gv_vd m_Reach_dropRows 0 := ⟨⟨gv_i2 211 rfl rfl, gv_i2 212 rfl rfl⟩, ⟨by decide, by decide⟩, by decide +kernel⟩
def m_Reach_trace : gM := (⟨"GuessFences$Reach", "trace", "(I)V"⟩, prog_8_method_4_code, 2, (Option.none : Option Jvm.ClassFile.FieldType), [], 11, 0, false)
theorem md_Reach_trace : gv_md m_Reach_trace := ⟨by decide, by decide, gv_i4 153 rfl rfl, gv_i1 6 rfl rfl⟩
theorem vd_Reach_trace : gv_vd m_Reach_trace 1 := ⟨⟨gv_i4 151 rfl rfl, gv_i4 152 rfl rfl⟩, ⟨by decide, by decide⟩, by decide +kernel⟩
def m_Reach_follow : gM := (⟨"GuessFences$Reach", "follow", "(II)V"⟩, prog_8_method_5_code, 5, (Option.none : Option Jvm.ClassFile.FieldType), [], 10, 0, false)
theorem md_Reach_follow : gv_md m_Reach_follow := ⟨by decide, by decide, gv_i5 196 rfl rfl, gv_i1 6 rfl rfl⟩
theorem vd_Reach_follow : gv_vd m_Reach_follow 2 := ⟨⟨gv_i5 195 rfl rfl, gv_inp 26 (by decide +kernel) rfl⟩, ⟨by decide, by decide⟩, by decide +kernel⟩
def m_Reach_addNexts : gM := (⟨"GuessFences$Reach", "addNexts", "(II)V"⟩, prog_8_method_6_code, 3, (Option.none : Option Jvm.ClassFile.FieldType), [], 9, 0, false)
theorem md_Reach_addNexts : gv_md m_Reach_addNexts := ⟨by decide, by decide, gv_i5 200 rfl rfl, gv_i1 6 rfl rfl⟩
theorem vd_Reach_addNexts : gv_vd m_Reach_addNexts 2 := ⟨⟨gv_i5 199 rfl rfl, gv_inp 27 (by decide +kernel) rfl⟩, ⟨by decide, by decide⟩, by decide +kernel⟩
def m_Reach_addOnce : gM := (⟨"GuessFences$Reach", "addOnce", "(II)V"⟩, prog_8_method_7_code, 3, (Option.none : Option Jvm.ClassFile.FieldType), [], 8, 0, false)
theorem md_Reach_addOnce : gv_md m_Reach_addOnce := ⟨by decide, by decide, gv_i5 205 rfl rfl, gv_i1 6 rfl rfl⟩
theorem vd_Reach_addOnce : gv_vd m_Reach_addOnce 2 := ⟨⟨gv_i5 204 rfl rfl, gv_inp 28 (by decide +kernel) rfl⟩, ⟨by decide, by decide⟩, by decide +kernel⟩
def m_Reach_nextAmong : gM := (⟨"GuessFences$Reach", "nextAmong", "([JII)I"⟩, prog_8_method_8_code, 8, (Option.some Jvm.ClassFile.FieldType.int), [], 9, 0, true)
theorem md_Reach_nextAmong : gv_md m_Reach_nextAmong := ⟨by decide, by decide, gv_i5 214 rfl rfl, gv_i1 6 rfl rfl⟩
theorem vd_Reach_nextAmong : gv_vd m_Reach_nextAmong 3 := ⟨⟨gv_i5 212 rfl rfl, gv_i5 213 rfl rfl⟩, ⟨by decide, by decide⟩, by decide +kernel⟩
def m_Reach_has : gM := (⟨"GuessFences$Reach", "has", "(II)Z"⟩, prog_8_method_3_code, 3, (Option.some Jvm.ClassFile.FieldType.boolean), [], 8, 0, true)
theorem md_Reach_has : gv_md m_Reach_has := ⟨by decide, by decide, gv_i6 55 rfl rfl, gv_i1 6 rfl rfl⟩
theorem vd_Reach_has : gv_vd m_Reach_has 2 := ⟨⟨gv_i6 53 rfl rfl, gv_i6 54 rfl rfl⟩, ⟨by decide, by decide⟩, by decide +kernel⟩
def m_Taint_spread : gM := (⟨"GuessFences$Taint", "spread", "()V"⟩, prog_10_method_2_code, 3, (Option.none : Option Jvm.ClassFile.FieldType), [], 13, 0, false)
theorem md_Taint_spread : gv_md m_Taint_spread := ⟨by decide, by decide, gv_i4 108 rfl rfl, gv_i1 7 rfl rfl⟩
theorem vd_Taint_spread : gv_vd m_Taint_spread 0 := ⟨⟨gv_i4 106 rfl rfl, gv_i4 107 rfl rfl⟩, ⟨by decide, by decide⟩, by decide +kernel⟩
def m_Taint_prepare : gM := (⟨"GuessFences$Taint", "prepare", "()V"⟩, prog_10_method_3_code, 6, (Option.none : Option Jvm.ClassFile.FieldType), [], 10, 0, false)
theorem md_Taint_prepare : gv_md m_Taint_prepare := ⟨by decide, by decide, gv_i4 112 rfl rfl, gv_i1 7 rfl rfl⟩
theorem vd_Taint_prepare : gv_vd m_Taint_prepare 0 := ⟨⟨gv_i4 111 rfl rfl, gv_inp 20 (by decide +kernel) rfl⟩, ⟨by decide, by decide⟩, by decide +kernel⟩
def m_Taint_markGuessed : gM := (⟨"GuessFences$Taint", "markGuessed", "()V"⟩, prog_10_method_4_code, 2, (Option.none : Option Jvm.ClassFile.FieldType), [], 10, 0, false)
theorem md_Taint_markGuessed : gv_md m_Taint_markGuessed := ⟨by decide, by decide, gv_i4 125 rfl rfl, gv_i1 7 rfl rfl⟩
theorem vd_Taint_markGuessed : gv_vd m_Taint_markGuessed 0 := ⟨⟨gv_i4 124 rfl rfl, gv_inp 21 (by decide +kernel) rfl⟩, ⟨by decide, by decide⟩, by decide +kernel⟩
def m_Taint_addGuessedNexts : gM := (⟨"GuessFences$Taint", "addGuessedNexts", "(I)V"⟩, prog_10_method_5_code, 2, (Option.none : Option Jvm.ClassFile.FieldType), [], 9, 0, false)
theorem md_Taint_addGuessedNexts : gv_md m_Taint_addGuessedNexts := ⟨by decide, by decide, gv_i4 129 rfl rfl, gv_i1 7 rfl rfl⟩
theorem vd_Taint_addGuessedNexts : gv_vd m_Taint_addGuessedNexts 1 := ⟨⟨gv_i4 128 rfl rfl, gv_inp 22 (by decide +kernel) rfl⟩, ⟨by decide, by decide⟩, by decide +kernel⟩
def m_Taint_addGuessed : gM := (⟨"GuessFences$Taint", "addGuessed", "(I)V"⟩, prog_10_method_6_code, 2, (Option.none : Option Jvm.ClassFile.FieldType), [], 8, 0, false)
theorem md_Taint_addGuessed : gv_md m_Taint_addGuessed := ⟨by decide, by decide, gv_i4 137 rfl rfl, gv_i1 7 rfl rfl⟩
theorem vd_Taint_addGuessed : gv_vd m_Taint_addGuessed 1 := ⟨⟨gv_i4 136 rfl rfl, gv_inp 23 (by decide +kernel) rfl⟩, ⟨by decide, by decide⟩, by decide +kernel⟩
def m_Taint_addResult : gM := (⟨"GuessFences$Taint", "addResult", "(I)V"⟩, prog_10_method_7_code, 2, (Option.none : Option Jvm.ClassFile.FieldType), [], 8, 0, false)
theorem md_Taint_addResult : gv_md m_Taint_addResult := ⟨by decide, by decide, gv_i4 145 rfl rfl, gv_i1 7 rfl rfl⟩
theorem vd_Taint_addResult : gv_vd m_Taint_addResult 1 := ⟨⟨gv_i4 144 rfl rfl, gv_inp 24 (by decide +kernel) rfl⟩, ⟨by decide, by decide⟩, by decide +kernel⟩
def m_Taint_passOn : gM := (⟨"GuessFences$Taint", "passOn", "(I)V"⟩, prog_10_method_8_code, 3, (Option.none : Option Jvm.ClassFile.FieldType), [], 12, 0, false)
theorem md_Taint_passOn : gv_md m_Taint_passOn := ⟨by decide, by decide, gv_i4 149 rfl rfl, gv_i1 7 rfl rfl⟩
theorem vd_Taint_passOn : gv_vd m_Taint_passOn 1 := ⟨⟨gv_i4 148 rfl rfl, gv_inp 25 (by decide +kernel) rfl⟩, ⟨by decide, by decide⟩, by decide +kernel⟩
def m_Taint_expose : gM := (⟨"GuessFences$Taint", "expose", "(I)V"⟩, prog_10_method_9_code, 3, (Option.none : Option Jvm.ClassFile.FieldType), [], 11, 0, false)
theorem md_Taint_expose : gv_md m_Taint_expose := ⟨by decide, by decide, gv_i5 225 rfl rfl, gv_i1 7 rfl rfl⟩
theorem vd_Taint_expose : gv_vd m_Taint_expose 1 := ⟨⟨gv_i5 224 rfl rfl, gv_inp 29 (by decide +kernel) rfl⟩, ⟨by decide, by decide⟩, by decide +kernel⟩
def m_Taint_addExposed : gM := (⟨"GuessFences$Taint", "addExposed", "(I)V"⟩, prog_10_method_10_code, 2, (Option.none : Option Jvm.ClassFile.FieldType), [], 8, 0, false)
theorem md_Taint_addExposed : gv_md m_Taint_addExposed := ⟨by decide, by decide, gv_i5 235 rfl rfl, gv_i1 7 rfl rfl⟩
theorem vd_Taint_addExposed : gv_vd m_Taint_addExposed 1 := ⟨⟨gv_i5 234 rfl rfl, gv_inp 30 (by decide +kernel) rfl⟩, ⟨by decide, by decide⟩, by decide +kernel⟩
def m_Cut_find : gM := (⟨"GuessFences$Cut", "find", "()V"⟩, prog_3_method_2_code, 3, (Option.none : Option Jvm.ClassFile.FieldType), [], 13, 0, false)
theorem md_Cut_find : gv_md m_Cut_find := ⟨by decide, by decide, gv_i5 239 rfl rfl, gv_i1 8 rfl rfl⟩
theorem vd_Cut_find : gv_vd m_Cut_find 0 := ⟨⟨gv_i5 237 rfl rfl, gv_i5 238 rfl rfl⟩, ⟨by decide, by decide⟩, by decide +kernel⟩
def m_Cut_prepare : gM := (⟨"GuessFences$Cut", "prepare", "()V"⟩, prog_3_method_3_code, 2, (Option.none : Option Jvm.ClassFile.FieldType), [], 9, 0, false)
theorem md_Cut_prepare : gv_md m_Cut_prepare := ⟨by decide, by decide, gv_i6 3 rfl rfl, gv_i1 8 rfl rfl⟩
theorem vd_Cut_prepare : gv_vd m_Cut_prepare 0 := ⟨⟨gv_i6 2 rfl rfl, gv_inp 31 (by decide +kernel) rfl⟩, ⟨by decide, by decide⟩, by decide +kernel⟩
def m_Cut_openEntrance : gM := (⟨"GuessFences$Cut", "openEntrance", "(I)V"⟩, prog_3_method_4_code, 2, (Option.none : Option Jvm.ClassFile.FieldType), [], 8, 0, false)
theorem md_Cut_openEntrance : gv_md m_Cut_openEntrance := ⟨by decide, by decide, gv_i6 9 rfl rfl, gv_i1 8 rfl rfl⟩
theorem vd_Cut_openEntrance : gv_vd m_Cut_openEntrance 1 := ⟨⟨gv_i6 8 rfl rfl, gv_inp 32 (by decide +kernel) rfl⟩, ⟨by decide, by decide⟩, by decide +kernel⟩
def m_Cut_addPathFrom : gM := (⟨"GuessFences$Cut", "addPathFrom", "(I)V"⟩, prog_3_method_5_code, 3, (Option.none : Option Jvm.ClassFile.FieldType), [], 12, 0, false)
theorem md_Cut_addPathFrom : gv_md m_Cut_addPathFrom := ⟨by decide, by decide, gv_i6 13 rfl rfl, gv_i1 8 rfl rfl⟩
theorem vd_Cut_addPathFrom : gv_vd m_Cut_addPathFrom 1 := ⟨⟨gv_i6 12 rfl rfl, gv_inp 33 (by decide +kernel) rfl⟩, ⟨by decide, by decide⟩, by decide +kernel⟩
def m_Cut_search : gM := (⟨"GuessFences$Cut", "search", "(I)I"⟩, prog_3_method_6_code, 5, (Option.some Jvm.ClassFile.FieldType.int), [], 11, 0, false)
theorem md_Cut_search : gv_md m_Cut_search := ⟨by decide, by decide, gv_i6 17 rfl rfl, gv_i1 8 rfl rfl⟩
theorem vd_Cut_search : gv_vd m_Cut_search 1 := ⟨⟨gv_i6 16 rfl rfl, gv_inp 34 (by decide +kernel) rfl⟩, ⟨by decide, by decide⟩, by decide +kernel⟩
def m_Cut_see : gM := (⟨"GuessFences$Cut", "see", "(II)V"⟩, prog_3_method_9_code, 3, (Option.none : Option Jvm.ClassFile.FieldType), [], 8, 0, false)
theorem md_Cut_see : gv_md m_Cut_see := ⟨by decide, by decide, gv_i6 21 rfl rfl, gv_i1 8 rfl rfl⟩
theorem vd_Cut_see : gv_vd m_Cut_see 2 := ⟨⟨gv_i6 20 rfl rfl, gv_inp 35 (by decide +kernel) rfl⟩, ⟨by decide, by decide⟩, by decide +kernel⟩
def m_Cut_leaveExit : gM := (⟨"GuessFences$Cut", "leaveExit", "(I)V"⟩, prog_3_method_8_code, 3, (Option.none : Option Jvm.ClassFile.FieldType), [], 10, 0, false)
theorem md_Cut_leaveExit : gv_md m_Cut_leaveExit := ⟨by decide, by decide, gv_i6 26 rfl rfl, gv_i1 8 rfl rfl⟩
theorem vd_Cut_leaveExit : gv_vd m_Cut_leaveExit 1 := ⟨⟨gv_i6 25 rfl rfl, gv_inp 36 (by decide +kernel) rfl⟩, ⟨by decide, by decide⟩, by decide +kernel⟩
def m_Cut_leaveEntrance : gM := (⟨"GuessFences$Cut", "leaveEntrance", "(I)V"⟩, prog_3_method_7_code, 3, (Option.none : Option Jvm.ClassFile.FieldType), [], 9, 0, false)
theorem md_Cut_leaveEntrance : gv_md m_Cut_leaveEntrance := ⟨by decide, by decide, gv_i6 31 rfl rfl, gv_i1 8 rfl rfl⟩
theorem vd_Cut_leaveEntrance : gv_vd m_Cut_leaveEntrance 1 := ⟨⟨gv_i6 30 rfl rfl, gv_inp 37 (by decide +kernel) rfl⟩, ⟨by decide, by decide⟩, by decide +kernel⟩
def m_Cut_layPath : gM := (⟨"GuessFences$Cut", "layPath", "(II)V"⟩, prog_3_method_10_code, 6, (Option.none : Option Jvm.ClassFile.FieldType), [], 8, 0, false)
theorem md_Cut_layPath : gv_md m_Cut_layPath := ⟨by decide, by decide, gv_i6 35 rfl rfl, gv_i1 8 rfl rfl⟩
theorem vd_Cut_layPath : gv_vd m_Cut_layPath 2 := ⟨⟨gv_i6 34 rfl rfl, gv_inp 38 (by decide +kernel) rfl⟩, ⟨by decide, by decide⟩, by decide +kernel⟩
def m_Cut_forgetSearch : gM := (⟨"GuessFences$Cut", "forgetSearch", "()V"⟩, prog_3_method_11_code, 3, (Option.none : Option Jvm.ClassFile.FieldType), [], 9, 0, false)
theorem md_Cut_forgetSearch : gv_md m_Cut_forgetSearch := ⟨by decide, by decide, gv_i6 39 rfl rfl, gv_i1 8 rfl rfl⟩
theorem vd_Cut_forgetSearch : gv_vd m_Cut_forgetSearch 0 := ⟨⟨gv_i6 38 rfl rfl, gv_inp 39 (by decide +kernel) rfl⟩, ⟨by decide, by decide⟩, by decide +kernel⟩
def m_Cut_markIfCut : gM := (⟨"GuessFences$Cut", "markIfCut", "(I)V"⟩, prog_3_method_12_code, 4, (Option.none : Option Jvm.ClassFile.FieldType), [], 8, 0, false)
theorem md_Cut_markIfCut : gv_md m_Cut_markIfCut := ⟨by decide, by decide, gv_i6 43 rfl rfl, gv_i1 8 rfl rfl⟩
theorem vd_Cut_markIfCut : gv_vd m_Cut_markIfCut 1 := ⟨⟨gv_i6 42 rfl rfl, gv_inp 40 (by decide +kernel) rfl⟩, ⟨by decide, by decide⟩, by decide +kernel⟩
def m_Rewriter_plan : gM := (⟨"GuessFences$Rewriter", "plan", "(I)Z"⟩, prog_9_method_2_code, 4, (Option.some Jvm.ClassFile.FieldType.boolean), [], 9, 0, false)
theorem md_Rewriter_plan : gv_md m_Rewriter_plan := ⟨by decide, by decide, gv_i6 80 rfl rfl, gv_i1 9 rfl rfl⟩
theorem vd_Rewriter_plan : gv_vd m_Rewriter_plan 1 := ⟨⟨gv_i6 78 rfl rfl, gv_i6 79 rfl rfl⟩, ⟨by decide, by decide⟩, by decide +kernel⟩
def m_Rewriter_isCut : gM := (⟨"GuessFences$Rewriter", "isCut", "(I)Z"⟩, prog_9_method_4_code, 2, (Option.some Jvm.ClassFile.FieldType.boolean), [], 8, 0, true)
theorem md_Rewriter_isCut : gv_md m_Rewriter_isCut := ⟨by decide, by decide, gv_i6 84 rfl rfl, gv_i1 9 rfl rfl⟩
theorem vd_Rewriter_isCut : gv_vd m_Rewriter_isCut 1 := ⟨⟨gv_i6 83 rfl rfl, gv_inp 41 (by decide +kernel) rfl⟩, ⟨by decide, by decide⟩, by decide +kernel⟩
def m_Rewriter_newOffset : gM := (⟨"GuessFences$Rewriter", "newOffset", "(I)I"⟩, prog_9_method_5_code, 2, (Option.some Jvm.ClassFile.FieldType.int), [], 8, 0, true)
theorem md_Rewriter_newOffset : gv_md m_Rewriter_newOffset := ⟨by decide, by decide, gv_i6 88 rfl rfl, gv_i1 9 rfl rfl⟩
theorem vd_Rewriter_newOffset : gv_vd m_Rewriter_newOffset 1 := ⟨⟨gv_i6 87 rfl rfl, gv_inp 42 (by decide +kernel) rfl⟩, ⟨by decide, by decide⟩, by decide +kernel⟩
def m_Rewriter_writeOver : gM := (⟨"GuessFences$Rewriter", "writeOver", "([I)I"⟩, prog_9_method_3_code, 4, (Option.some Jvm.ClassFile.FieldType.int), [], 10, 0, false)
theorem md_Rewriter_writeOver : gv_md m_Rewriter_writeOver := ⟨by decide, by decide, gv_i6 95 rfl rfl, gv_i1 9 rfl rfl⟩
theorem vd_Rewriter_writeOver : gv_vd m_Rewriter_writeOver 1 := ⟨⟨gv_i6 93 rfl rfl, gv_i6 94 rfl rfl⟩, ⟨by decide, by decide⟩, by decide +kernel⟩
def m_Rewriter_newWord : gM := (⟨"GuessFences$Rewriter", "newWord", "(II)I"⟩, prog_9_method_6_code, 3, (Option.some Jvm.ClassFile.FieldType.int), [], 9, 0, true)
theorem md_Rewriter_newWord : gv_md m_Rewriter_newWord := ⟨by decide, by decide, gv_i6 99 rfl rfl, gv_i1 9 rfl rfl⟩
theorem vd_Rewriter_newWord : gv_vd m_Rewriter_newWord 2 := ⟨⟨gv_i6 98 rfl rfl, gv_inp 43 (by decide +kernel) rfl⟩, ⟨by decide, by decide⟩, by decide +kernel⟩
def m_M_thrown : gM := (⟨"GuessFencesModel", "thrown", "()I"⟩, prog_13_method_2_code, 1, (Option.some Jvm.ClassFile.FieldType.int), [], 8, 0, true)
theorem md_M_thrown : gv_md m_M_thrown := ⟨by decide, by decide, gv_i7 0 rfl rfl, gv_i1 10 rfl rfl⟩
theorem vd_M_thrown : gv_vd m_M_thrown 0 := ⟨⟨gv_i6 238 rfl rfl, gv_i6 239 rfl rfl⟩, ⟨by decide, by decide⟩, by decide +kernel⟩
def m_M_word : gM := (⟨"GuessFencesModel", "word", "(I)I"⟩, prog_13_method_4_code, 2, (Option.some Jvm.ClassFile.FieldType.int), [], 9, 0, false)
theorem md_M_word : gv_md m_M_word := ⟨by decide, by decide, gv_i7 4 rfl rfl, gv_i1 10 rfl rfl⟩
theorem vd_M_word : gv_vd m_M_word 1 := ⟨⟨gv_i7 2 rfl rfl, gv_i7 3 rfl rfl⟩, ⟨by decide, by decide⟩, by decide +kernel⟩
def m_M_changed : gM := (⟨"GuessFencesModel", "changed", "()V"⟩, prog_13_method_3_code, 1, (Option.none : Option Jvm.ClassFile.FieldType), [], 8, 0, false)
theorem md_M_changed : gv_md m_M_changed := ⟨by decide, by decide, gv_i7 8 rfl rfl, gv_i1 10 rfl rfl⟩
theorem vd_M_changed : gv_vd m_M_changed 0 := ⟨⟨gv_i7 7 rfl rfl, gv_inp 44 (by decide +kernel) rfl⟩, ⟨by decide, by decide⟩, by decide +kernel⟩
def m_M_again : gM := (⟨"GuessFencesModel", "again", "(II)I"⟩, prog_13_method_5_code, 4, (Option.some Jvm.ClassFile.FieldType.int), [], 9, 0, false)
theorem md_M_again : gv_md m_M_again := ⟨by decide, by decide, gv_i7 12 rfl rfl, gv_i1 10 rfl rfl⟩
theorem vd_M_again : gv_vd m_M_again 2 := ⟨⟨gv_i7 10 rfl rfl, gv_i7 11 rfl rfl⟩, ⟨by decide, by decide⟩, by decide +kernel⟩
def m_M_clear : gM := (⟨"GuessFencesModel", "clear", "()I"⟩, prog_13_method_6_code, 2, (Option.some Jvm.ClassFile.FieldType.int), [], 9, 0, false)
theorem md_M_clear : gv_md m_M_clear := ⟨by decide, by decide, gv_i7 17 rfl rfl, gv_i1 10 rfl rfl⟩
theorem vd_M_clear : gv_vd m_M_clear 0 := ⟨⟨gv_i7 15 rfl rfl, gv_i7 16 rfl rfl⟩, ⟨by decide, by decide⟩, by decide +kernel⟩
def m_M_wordAt : gM := (⟨"GuessFencesModel", "wordAt", "(I)J"⟩, prog_13_method_7_code, 2, (Option.some Jvm.ClassFile.FieldType.long), [], 8, 0, false)
theorem md_M_wordAt : gv_md m_M_wordAt := ⟨by decide, by decide, gv_i7 21 rfl rfl, gv_i1 10 rfl rfl⟩
theorem vd_M_wordAt : gv_vd m_M_wordAt 1 := ⟨⟨gv_i7 19 rfl rfl, gv_i7 20 rfl rfl⟩, ⟨by decide, by decide⟩, by decide +kernel⟩
def m_M_load : gM := (⟨"GuessFencesModel", "load", "()I"⟩, prog_13_method_24_code, 3, (Option.some Jvm.ClassFile.FieldType.int), [], 12, 0, false)
theorem md_M_load : gv_md m_M_load := ⟨by decide, by decide, gv_i7 27 rfl rfl, gv_i1 10 rfl rfl⟩
theorem vd_M_load : gv_vd m_M_load 0 := ⟨⟨gv_i7 25 rfl rfl, gv_i7 26 rfl rfl⟩, ⟨by decide, by decide⟩, by decide +kernel⟩
def m_M_faultOf : gM := (⟨"GuessFencesModel", "faultOf", "(I)I"⟩, prog_13_method_17_code, 4, (Option.some Jvm.ClassFile.FieldType.int), [], 11, 0, true)
theorem md_M_faultOf : gv_md m_M_faultOf := ⟨by decide, by decide, gv_i7 31 rfl rfl, gv_i1 10 rfl rfl⟩
theorem vd_M_faultOf : gv_vd m_M_faultOf 1 := ⟨⟨gv_i7 30 rfl rfl, gv_inp 45 (by decide +kernel) rfl⟩, ⟨by decide, by decide⟩, by decide +kernel⟩
def m_M_d : gM := (⟨"GuessFencesModel", "d", "(I)I"⟩, prog_13_method_8_code, 1, (Option.some Jvm.ClassFile.FieldType.int), [], 8, 0, true)
theorem md_M_d : gv_md m_M_d := ⟨by decide, by decide, gv_i7 34 rfl rfl, gv_i1 10 rfl rfl⟩
theorem sd_M_d : gv_sd m_M_d 1 := ⟨gv_i7 33 rfl rfl, ⟨by decide, by decide⟩, by decide +kernel⟩
def m_M_kind : gM := (⟨"GuessFencesModel", "kind", "(I)I"⟩, prog_13_method_15_code, 2, (Option.some Jvm.ClassFile.FieldType.int), [], 10, 0, true)
theorem md_M_kind : gv_md m_M_kind := ⟨by decide, by decide, gv_i7 38 rfl rfl, gv_i1 10 rfl rfl⟩
theorem vd_M_kind : gv_vd m_M_kind 1 := ⟨⟨gv_i7 37 rfl rfl, gv_inp 46 (by decide +kernel) rfl⟩, ⟨by decide, by decide⟩, by decide +kernel⟩
def m_M_kindOf : gM := (⟨"GuessFencesModel", "kindOf", "(I)I"⟩, prog_13_method_13_code, 3, (Option.some Jvm.ClassFile.FieldType.int), [], 9, 0, true)
theorem md_M_kindOf : gv_md m_M_kindOf := ⟨by decide, by decide, gv_i7 41 rfl rfl, gv_i1 10 rfl rfl⟩
theorem sd_M_kindOf : gv_sd m_M_kindOf 1 := ⟨gv_i7 40 rfl rfl, ⟨by decide, by decide⟩, by decide +kernel⟩
def m_M_f : gM := (⟨"GuessFencesModel", "f", "(I)I"⟩, prog_13_method_9_code, 1, (Option.some Jvm.ClassFile.FieldType.int), [], 8, 0, true)
theorem md_M_f : gv_md m_M_f := ⟨by decide, by decide, gv_i7 44 rfl rfl, gv_i1 10 rfl rfl⟩
theorem sd_M_f : gv_sd m_M_f 1 := ⟨gv_i7 43 rfl rfl, ⟨by decide, by decide⟩, by decide +kernel⟩
def m_M_g : gM := (⟨"GuessFencesModel", "g", "(I)I"⟩, prog_13_method_12_code, 1, (Option.some Jvm.ClassFile.FieldType.int), [], 8, 0, true)
theorem md_M_g : gv_md m_M_g := ⟨by decide, by decide, gv_i7 47 rfl rfl, gv_i1 10 rfl rfl⟩
theorem sd_M_g : gv_sd m_M_g 1 := ⟨gv_i7 46 rfl rfl, ⟨by decide, by decide⟩, by decide +kernel⟩
def m_M_offset : gM := (⟨"GuessFencesModel", "offset", "(I)I"⟩, prog_13_method_14_code, 1, (Option.some Jvm.ClassFile.FieldType.int), [], 8, 0, true)
theorem md_M_offset : gv_md m_M_offset := ⟨by decide, by decide, gv_i7 50 rfl rfl, gv_i1 10 rfl rfl⟩
theorem sd_M_offset : gv_sd m_M_offset 1 := ⟨gv_i7 49 rfl rfl, ⟨by decide, by decide⟩, by decide +kernel⟩
def m_M_target : gM := (⟨"GuessFencesModel", "target", "(I)I"⟩, prog_13_method_16_code, 2, (Option.some Jvm.ClassFile.FieldType.int), [], 9, 0, true)
theorem md_M_target : gv_md m_M_target := ⟨by decide, by decide, gv_i7 54 rfl rfl, gv_i1 10 rfl rfl⟩
theorem vd_M_target : gv_vd m_M_target 1 := ⟨⟨gv_i7 53 rfl rfl, gv_inp 47 (by decide +kernel) rfl⟩, ⟨by decide, by decide⟩, by decide +kernel⟩
def m_M_begin : gM := (⟨"GuessFencesModel", "begin", "()V"⟩, prog_13_method_23_code, 2, (Option.none : Option Jvm.ClassFile.FieldType), [], 8, 0, false)
theorem md_M_begin : gv_md m_M_begin := ⟨by decide, by decide, gv_i7 58 rfl rfl, gv_i1 10 rfl rfl⟩
theorem vd_M_begin : gv_vd m_M_begin 0 := ⟨⟨gv_i7 57 rfl rfl, gv_inp 48 (by decide +kernel) rfl⟩, ⟨by decide, by decide⟩, by decide +kernel⟩
def m_M_faultAt : gM := (⟨"GuessFencesModel", "faultAt", "()I"⟩, prog_13_method_25_code, 1, (Option.some Jvm.ClassFile.FieldType.int), [], 8, 0, false)
theorem md_M_faultAt : gv_md m_M_faultAt := ⟨by decide, by decide, gv_i7 62 rfl rfl, gv_i1 10 rfl rfl⟩
theorem vd_M_faultAt : gv_vd m_M_faultAt 0 := ⟨⟨gv_i7 60 rfl rfl, gv_i7 61 rfl rfl⟩, ⟨by decide, by decide⟩, by decide +kernel⟩
def m_M_decoded : gM := (⟨"GuessFencesModel", "decoded", "(II)I"⟩, prog_13_method_27_code, 3, (Option.some Jvm.ClassFile.FieldType.int), [], 12, 0, false)
theorem md_M_decoded : gv_md m_M_decoded := ⟨by decide, by decide, gv_i7 66 rfl rfl, gv_i1 10 rfl rfl⟩
theorem vd_M_decoded : gv_vd m_M_decoded 2 := ⟨⟨gv_i7 64 rfl rfl, gv_i7 65 rfl rfl⟩, ⟨by decide, by decide⟩, by decide +kernel⟩
def m_M_isAt : gM := (⟨"GuessFencesModel", "isAt", "(I)Z"⟩, prog_13_method_26_code, 2, (Option.some Jvm.ClassFile.FieldType.boolean), [], 8, 0, true)
theorem md_M_isAt : gv_md m_M_isAt := ⟨by decide, by decide, gv_i7 70 rfl rfl, gv_i1 10 rfl rfl⟩
theorem vd_M_isAt : gv_vd m_M_isAt 1 := ⟨⟨gv_i7 69 rfl rfl, gv_inp 49 (by decide +kernel) rfl⟩, ⟨by decide, by decide⟩, by decide +kernel⟩
def m_M_result : gM := (⟨"GuessFencesModel", "result", "(I)I"⟩, prog_13_method_19_code, 3, (Option.some Jvm.ClassFile.FieldType.int), [], 11, 0, true)
theorem md_M_result : gv_md m_M_result := ⟨by decide, by decide, gv_i7 74 rfl rfl, gv_i1 10 rfl rfl⟩
theorem vd_M_result : gv_vd m_M_result 1 := ⟨⟨gv_i7 73 rfl rfl, gv_inp 50 (by decide +kernel) rfl⟩, ⟨by decide, by decide⟩, by decide +kernel⟩
def m_M_first : gM := (⟨"GuessFencesModel", "first", "(I)I"⟩, prog_13_method_20_code, 3, (Option.some Jvm.ClassFile.FieldType.int), [], 11, 0, true)
theorem md_M_first : gv_md m_M_first := ⟨by decide, by decide, gv_i7 78 rfl rfl, gv_i1 10 rfl rfl⟩
theorem vd_M_first : gv_vd m_M_first 1 := ⟨⟨gv_i7 77 rfl rfl, gv_inp 51 (by decide +kernel) rfl⟩, ⟨by decide, by decide⟩, by decide +kernel⟩
def m_M_a : gM := (⟨"GuessFencesModel", "a", "(I)I"⟩, prog_13_method_10_code, 1, (Option.some Jvm.ClassFile.FieldType.int), [], 8, 0, true)
theorem md_M_a : gv_md m_M_a := ⟨by decide, by decide, gv_i7 81 rfl rfl, gv_i1 10 rfl rfl⟩
theorem sd_M_a : gv_sd m_M_a 1 := ⟨gv_i7 80 rfl rfl, ⟨by decide, by decide⟩, by decide +kernel⟩
def m_M_second : gM := (⟨"GuessFencesModel", "second", "(I)I"⟩, prog_13_method_21_code, 3, (Option.some Jvm.ClassFile.FieldType.int), [], 11, 0, true)
theorem md_M_second : gv_md m_M_second := ⟨by decide, by decide, gv_i7 85 rfl rfl, gv_i1 10 rfl rfl⟩
theorem vd_M_second : gv_vd m_M_second 1 := ⟨⟨gv_i7 84 rfl rfl, gv_inp 52 (by decide +kernel) rfl⟩, ⟨by decide, by decide⟩, by decide +kernel⟩
def m_M_b : gM := (⟨"GuessFencesModel", "b", "(I)I"⟩, prog_13_method_11_code, 1, (Option.some Jvm.ClassFile.FieldType.int), [], 8, 0, true)
theorem md_M_b : gv_md m_M_b := ⟨by decide, by decide, gv_i7 88 rfl rfl, gv_i1 10 rfl rfl⟩
theorem sd_M_b : gv_sd m_M_b 1 := ⟨gv_i7 87 rfl rfl, ⟨by decide, by decide⟩, by decide +kernel⟩
def m_M_number : gM := (⟨"GuessFencesModel", "number", "(I)I"⟩, prog_13_method_22_code, 3, (Option.some Jvm.ClassFile.FieldType.int), [], 11, 0, true)
theorem md_M_number : gv_md m_M_number := ⟨by decide, by decide, gv_i7 92 rfl rfl, gv_i1 10 rfl rfl⟩
theorem vd_M_number : gv_vd m_M_number 1 := ⟨⟨gv_i7 91 rfl rfl, gv_inp 53 (by decide +kernel) rfl⟩, ⟨by decide, by decide⟩, by decide +kernel⟩
def m_M_set : gM := (⟨"GuessFencesModel", "set", "(II)V"⟩, prog_13_method_28_code, 3, (Option.none : Option Jvm.ClassFile.FieldType), [], 8, 0, false)
theorem md_M_set : gv_md m_M_set := ⟨by decide, by decide, gv_i7 96 rfl rfl, gv_i1 10 rfl rfl⟩
theorem vd_M_set : gv_vd m_M_set 2 := ⟨⟨gv_i7 94 rfl rfl, gv_i7 95 rfl rfl⟩, ⟨by decide, by decide⟩, by decide +kernel⟩
def m_M_register : gM := (⟨"GuessFencesModel", "register", "(I)I"⟩, prog_13_method_29_code, 2, (Option.some Jvm.ClassFile.FieldType.int), [], 8, 0, false)
theorem md_M_register : gv_md m_M_register := ⟨by decide, by decide, gv_i7 100 rfl rfl, gv_i1 10 rfl rfl⟩
theorem vd_M_register : gv_vd m_M_register 1 := ⟨⟨gv_i7 98 rfl rfl, gv_i7 99 rfl rfl⟩, ⟨by decide, by decide⟩, by decide +kernel⟩
def m_M_poke : gM := (⟨"GuessFencesModel", "poke", "(II)V"⟩, prog_13_method_32_code, 3, (Option.none : Option Jvm.ClassFile.FieldType), [], 9, 0, false)
theorem md_M_poke : gv_md m_M_poke := ⟨by decide, by decide, gv_i7 104 rfl rfl, gv_i1 10 rfl rfl⟩
theorem vd_M_poke : gv_vd m_M_poke 2 := ⟨⟨gv_i7 102 rfl rfl, gv_i7 103 rfl rfl⟩, ⟨by decide, by decide⟩, by decide +kernel⟩
def m_M_write : gM := (⟨"GuessFencesModel", "write", "(III)V"⟩, prog_13_method_31_code, 6, (Option.none : Option Jvm.ClassFile.FieldType), [], 8, 0, false)
theorem md_M_write : gv_md m_M_write := ⟨by decide, by decide, gv_i7 108 rfl rfl, gv_i1 10 rfl rfl⟩
theorem vd_M_write : gv_vd m_M_write 3 := ⟨⟨gv_i7 107 rfl rfl, gv_inp 54 (by decide +kernel) rfl⟩, ⟨by decide, by decide⟩, by decide +kernel⟩
def m_M_peek : gM := (⟨"GuessFencesModel", "peek", "(I)I"⟩, prog_13_method_33_code, 2, (Option.some Jvm.ClassFile.FieldType.int), [], 9, 0, false)
theorem md_M_peek : gv_md m_M_peek := ⟨by decide, by decide, gv_i7 112 rfl rfl, gv_i1 10 rfl rfl⟩
theorem vd_M_peek : gv_vd m_M_peek 1 := ⟨⟨gv_i7 110 rfl rfl, gv_i7 111 rfl rfl⟩, ⟨by decide, by decide⟩, by decide +kernel⟩
def m_M_read : gM := (⟨"GuessFencesModel", "read", "(II)I"⟩, prog_13_method_30_code, 6, (Option.some Jvm.ClassFile.FieldType.int), [], 8, 0, true)
theorem md_M_read : gv_md m_M_read := ⟨by decide, by decide, gv_i7 116 rfl rfl, gv_i1 10 rfl rfl⟩
theorem vd_M_read : gv_vd m_M_read 2 := ⟨⟨gv_i7 115 rfl rfl, gv_inp 55 (by decide +kernel) rfl⟩, ⟨by decide, by decide⟩, by decide +kernel⟩
def m_M_run : gM := (⟨"GuessFencesModel", "run", "(I)I"⟩, prog_13_method_43_code, 3, (Option.some Jvm.ClassFile.FieldType.int), [], 13, 0, false)
theorem md_M_run : gv_md m_M_run := ⟨by decide, by decide, gv_i7 120 rfl rfl, gv_i1 10 rfl rfl⟩
theorem vd_M_run : gv_vd m_M_run 1 := ⟨⟨gv_i7 118 rfl rfl, gv_i7 119 rfl rfl⟩, ⟨by decide, by decide⟩, by decide +kernel⟩
def m_M_runOne : gM := (⟨"GuessFencesModel", "runOne", "()V"⟩, prog_13_method_42_code, 6, (Option.none : Option Jvm.ClassFile.FieldType), [], 12, 0, false)
theorem md_M_runOne : gv_md m_M_runOne := ⟨by decide, by decide, gv_i7 124 rfl rfl, gv_i1 10 rfl rfl⟩
theorem vd_M_runOne : gv_vd m_M_runOne 0 := ⟨⟨gv_i7 123 rfl rfl, gv_inp 56 (by decide +kernel) rfl⟩, ⟨by decide, by decide⟩, by decide +kernel⟩
def m_M_reg : gM := (⟨"GuessFencesModel", "reg", "(I)I"⟩, prog_13_method_39_code, 4, (Option.some Jvm.ClassFile.FieldType.int), [], 10, 0, false)
theorem md_M_reg : gv_md m_M_reg := ⟨by decide, by decide, gv_i7 128 rfl rfl, gv_i1 10 rfl rfl⟩
theorem vd_M_reg : gv_vd m_M_reg 1 := ⟨⟨gv_i7 127 rfl rfl, gv_inp 57 (by decide +kernel) rfl⟩, ⟨by decide, by decide⟩, by decide +kernel⟩
def m_M_made : gM := (⟨"GuessFencesModel", "made", "(IIIZ)I"⟩, prog_13_method_36_code, 4, (Option.some Jvm.ClassFile.FieldType.int), [], 9, 0, true)
theorem md_M_made : gv_md m_M_made := ⟨by decide, by decide, gv_i7 131 rfl rfl, gv_i1 10 rfl rfl⟩
theorem sd_M_made : gv_sd m_M_made 4 := ⟨gv_i7 130 rfl rfl, ⟨by decide, by decide⟩, by decide +kernel⟩
def m_M_less : gM := (⟨"GuessFencesModel", "less", "(IIZ)Z"⟩, prog_13_method_35_code, 3, (Option.some Jvm.ClassFile.FieldType.boolean), [], 8, 0, true)
theorem md_M_less : gv_md m_M_less := ⟨by decide, by decide, gv_i7 134 rfl rfl, gv_i1 10 rfl rfl⟩
theorem sd_M_less : gv_sd m_M_less 3 := ⟨gv_i7 133 rfl rfl, ⟨by decide, by decide⟩, by decide +kernel⟩
def m_M_multiplied : gM := (⟨"GuessFencesModel", "multiplied", "(III)I"⟩, prog_13_method_37_code, 11, (Option.some Jvm.ClassFile.FieldType.int), [], 8, 0, true)
theorem md_M_multiplied : gv_md m_M_multiplied := ⟨by decide, by decide, gv_i7 137 rfl rfl, gv_i1 10 rfl rfl⟩
theorem sd_M_multiplied : gv_sd m_M_multiplied 3 := ⟨gv_i7 136 rfl rfl, ⟨by decide, by decide⟩, by decide +kernel⟩
def m_M_tell : gM := (⟨"GuessFencesModel", "tell", "(II)V"⟩, prog_13_method_34_code, 3, (Option.none : Option Jvm.ClassFile.FieldType), [], 8, 0, false)
theorem md_M_tell : gv_md m_M_tell := ⟨by decide, by decide, gv_i7 142 rfl rfl, gv_i1 10 rfl rfl⟩
theorem vd_M_tell : gv_vd m_M_tell 2 := ⟨⟨gv_i7 141 rfl rfl, gv_inp 58 (by decide +kernel) rfl⟩, ⟨by decide, by decide⟩, by decide +kernel⟩
def m_M_divided : gM := (⟨"GuessFencesModel", "divided", "(III)I"⟩, prog_13_method_38_code, 9, (Option.some Jvm.ClassFile.FieldType.int), [], 8, 0, true)
theorem md_M_divided : gv_md m_M_divided := ⟨by decide, by decide, gv_i7 145 rfl rfl, gv_i1 10 rfl rfl⟩
theorem sd_M_divided : gv_sd m_M_divided 3 := ⟨gv_i7 144 rfl rfl, ⟨by decide, by decide⟩, by decide +kernel⟩
def m_M_loadedValue : gM := (⟨"GuessFencesModel", "loadedValue", "(II)I"⟩, prog_13_method_40_code, 3, (Option.some Jvm.ClassFile.FieldType.int), [], 9, 0, false)
theorem md_M_loadedValue : gv_md m_M_loadedValue := ⟨by decide, by decide, gv_i7 149 rfl rfl, gv_i1 10 rfl rfl⟩
theorem vd_M_loadedValue : gv_vd m_M_loadedValue 2 := ⟨⟨gv_i7 148 rfl rfl, gv_inp 59 (by decide +kernel) rfl⟩, ⟨by decide, by decide⟩, by decide +kernel⟩
def m_M_goal : gM := (⟨"GuessFencesModel", "goal", "(III)I"⟩, prog_13_method_41_code, 6, (Option.some Jvm.ClassFile.FieldType.int), [], 10, 0, true)
theorem md_M_goal : gv_md m_M_goal := ⟨by decide, by decide, gv_i7 153 rfl rfl, gv_i1 10 rfl rfl⟩
theorem vd_M_goal : gv_vd m_M_goal 3 := ⟨⟨gv_i7 152 rfl rfl, gv_inp 60 (by decide +kernel) rfl⟩, ⟨by decide, by decide⟩, by decide +kernel⟩
def m_M_order : gM := (⟨"GuessFencesModel", "order", "(I)I"⟩, prog_13_method_48_code, 3, (Option.some Jvm.ClassFile.FieldType.int), [], 13, 0, false)
theorem md_M_order : gv_md m_M_order := ⟨by decide, by decide, gv_i7 157 rfl rfl, gv_i1 10 rfl rfl⟩
theorem vd_M_order : gv_vd m_M_order 1 := ⟨⟨gv_i7 155 rfl rfl, gv_i7 156 rfl rfl⟩, ⟨by decide, by decide⟩, by decide +kernel⟩
def m_M_resolve : gM := (⟨"GuessFencesModel", "resolve", "()I"⟩, prog_13_method_47_code, 4, (Option.some Jvm.ClassFile.FieldType.int), [], 11, 0, false)
theorem md_M_resolve : gv_md m_M_resolve := ⟨by decide, by decide, gv_i7 161 rfl rfl, gv_i1 10 rfl rfl⟩
theorem vd_M_resolve : gv_vd m_M_resolve 0 := ⟨⟨gv_i7 160 rfl rfl, gv_inp 61 (by decide +kernel) rfl⟩, ⟨by decide, by decide⟩, by decide +kernel⟩
def m_M_guess : gM := (⟨"GuessFencesModel", "guess", "(Z)I"⟩, prog_13_method_46_code, 3, (Option.some Jvm.ClassFile.FieldType.int), [], 11, 0, false)
theorem md_M_guess : gv_md m_M_guess := ⟨by decide, by decide, gv_i7 165 rfl rfl, gv_i1 10 rfl rfl⟩
theorem vd_M_guess : gv_vd m_M_guess 1 := ⟨⟨gv_i7 164 rfl rfl, gv_inp 62 (by decide +kernel) rfl⟩, ⟨by decide, by decide⟩, by decide +kernel⟩
def m_M_goesTooFar : gM := (⟨"GuessFencesModel", "goesTooFar", "()Z"⟩, prog_13_method_45_code, 1, (Option.some Jvm.ClassFile.FieldType.boolean), [], 9, 0, true)
theorem md_M_goesTooFar : gv_md m_M_goesTooFar := ⟨by decide, by decide, gv_i7 169 rfl rfl, gv_i1 10 rfl rfl⟩
theorem vd_M_goesTooFar : gv_vd m_M_goesTooFar 0 := ⟨⟨gv_i7 168 rfl rfl, gv_inp 63 (by decide +kernel) rfl⟩, ⟨by decide, by decide⟩, by decide +kernel⟩
def m_M_distance : gM := (⟨"GuessFencesModel", "distance", "()I"⟩, prog_13_method_44_code, 1, (Option.some Jvm.ClassFile.FieldType.int), [], 8, 0, true)
theorem md_M_distance : gv_md m_M_distance := ⟨by decide, by decide, gv_i7 173 rfl rfl, gv_i1 10 rfl rfl⟩
theorem vd_M_distance : gv_vd m_M_distance 0 := ⟨⟨gv_i7 172 rfl rfl, gv_inp 64 (by decide +kernel) rfl⟩, ⟨by decide, by decide⟩, by decide +kernel⟩
def m_M_window : gM := (⟨"GuessFencesModel", "window", "(I)I"⟩, prog_13_method_49_code, 3, (Option.some Jvm.ClassFile.FieldType.int), [], 8, 0, false)
theorem md_M_window : gv_md m_M_window := ⟨by decide, by decide, gv_i7 177 rfl rfl, gv_i1 10 rfl rfl⟩
theorem vd_M_window : gv_vd m_M_window 1 := ⟨⟨gv_i7 175 rfl rfl, gv_i7 176 rfl rfl⟩, ⟨by decide, by decide⟩, by decide +kernel⟩
def m_M_state : gM := (⟨"GuessFencesModel", "state", "(I)I"⟩, prog_13_method_50_code, 2, (Option.some Jvm.ClassFile.FieldType.int), [], 9, 0, false)
theorem md_M_state : gv_md m_M_state := ⟨by decide, by decide, gv_i7 181 rfl rfl, gv_i1 10 rfl rfl⟩
theorem vd_M_state : gv_vd m_M_state 1 := ⟨⟨gv_i7 179 rfl rfl, gv_i7 180 rfl rfl⟩, ⟨by decide, by decide⟩, by decide +kernel⟩
def m_M_leak : gM := (⟨"GuessFencesModel", "leak", "(I)J"⟩, prog_13_method_51_code, 2, (Option.some Jvm.ClassFile.FieldType.long), [], 8, 0, false)
theorem md_M_leak : gv_md m_M_leak := ⟨by decide, by decide, gv_i7 185 rfl rfl, gv_i1 10 rfl rfl⟩
theorem vd_M_leak : gv_vd m_M_leak 1 := ⟨⟨gv_i7 183 rfl rfl, gv_i7 184 rfl rfl⟩, ⟨by decide, by decide⟩, by decide +kernel⟩
def m_M_forget : gM := (⟨"GuessFencesModel", "forget", "()I"⟩, prog_13_method_52_code, 2, (Option.some Jvm.ClassFile.FieldType.int), [], 8, 0, false)
theorem md_M_forget : gv_md m_M_forget := ⟨by decide, by decide, gv_i7 189 rfl rfl, gv_i1 10 rfl rfl⟩
theorem vd_M_forget : gv_vd m_M_forget 0 := ⟨⟨gv_i7 187 rfl rfl, gv_i7 188 rfl rfl⟩, ⟨by decide, by decide⟩, by decide +kernel⟩
def m_M_check : gM := (⟨"GuessFencesModel", "check", "()I"⟩, prog_13_method_69_code, 1, (Option.some Jvm.ClassFile.FieldType.int), [], 15, 0, false)
theorem md_M_check : gv_md m_M_check := ⟨by decide, by decide, gv_i7 193 rfl rfl, gv_i1 10 rfl rfl⟩
theorem vd_M_check : gv_vd m_M_check 0 := ⟨⟨gv_i7 191 rfl rfl, gv_i7 192 rfl rfl⟩, ⟨by decide, by decide⟩, by decide +kernel⟩
def m_M_know : gM := (⟨"GuessFencesModel", "know", "()V"⟩, prog_13_method_68_code, 2, (Option.none : Option Jvm.ClassFile.FieldType), [], 14, 0, false)
theorem md_M_know : gv_md m_M_know := ⟨by decide, by decide, gv_i7 197 rfl rfl, gv_i1 10 rfl rfl⟩
theorem vd_M_know : gv_vd m_M_know 0 := ⟨⟨gv_i7 196 rfl rfl, gv_inp 65 (by decide +kernel) rfl⟩, ⟨by decide, by decide⟩, by decide +kernel⟩
def m_M_findGuessed : gM := (⟨"GuessFencesModel", "findGuessed", "()V"⟩, prog_13_method_57_code, 2, (Option.none : Option Jvm.ClassFile.FieldType), [], 12, 0, false)
theorem md_M_findGuessed : gv_md m_M_findGuessed := ⟨by decide, by decide, gv_i7 201 rfl rfl, gv_i1 10 rfl rfl⟩
theorem vd_M_findGuessed : gv_vd m_M_findGuessed 0 := ⟨⟨gv_i7 200 rfl rfl, gv_inp 66 (by decide +kernel) rfl⟩, ⟨by decide, by decide⟩, by decide +kernel⟩
def m_M_goOn : gM := (⟨"GuessFencesModel", "goOn", "(I)V"⟩, prog_13_method_56_code, 3, (Option.none : Option Jvm.ClassFile.FieldType), [], 11, 0, false)
theorem md_M_goOn : gv_md m_M_goOn := ⟨by decide, by decide, gv_i7 205 rfl rfl, gv_i1 10 rfl rfl⟩
theorem vd_M_goOn : gv_vd m_M_goOn 1 := ⟨⟨gv_i7 204 rfl rfl, gv_inp 67 (by decide +kernel) rfl⟩, ⟨by decide, by decide⟩, by decide +kernel⟩
def m_M_visit : gM := (⟨"GuessFencesModel", "visit", "(I)V"⟩, prog_13_method_55_code, 2, (Option.none : Option Jvm.ClassFile.FieldType), [], 8, 0, false)
theorem md_M_visit : gv_md m_M_visit := ⟨by decide, by decide, gv_i7 209 rfl rfl, gv_i1 10 rfl rfl⟩
theorem vd_M_visit : gv_vd m_M_visit 1 := ⟨⟨gv_i7 208 rfl rfl, gv_inp 68 (by decide +kernel) rfl⟩, ⟨by decide, by decide⟩, by decide +kernel⟩
def m_M_findReach : gM := (⟨"GuessFencesModel", "findReach", "(I)V"⟩, prog_13_method_58_code, 5, (Option.none : Option Jvm.ClassFile.FieldType), [], 12, 0, false)
theorem md_M_findReach : gv_md m_M_findReach := ⟨by decide, by decide, gv_i7 213 rfl rfl, gv_i1 10 rfl rfl⟩
theorem vd_M_findReach : gv_vd m_M_findReach 1 := ⟨⟨gv_i7 212 rfl rfl, gv_inp 69 (by decide +kernel) rfl⟩, ⟨by decide, by decide⟩, by decide +kernel⟩
def m_M_turn : gM := (⟨"GuessFencesModel", "turn", "([III)V"⟩, prog_13_method_54_code, 4, (Option.none : Option Jvm.ClassFile.FieldType), [], 8, 0, false)
theorem md_M_turn : gv_md m_M_turn := ⟨by decide, by decide, gv_i7 217 rfl rfl, gv_i1 10 rfl rfl⟩
theorem vd_M_turn : gv_vd m_M_turn 3 := ⟨⟨gv_i7 216 rfl rfl, gv_inp 70 (by decide +kernel) rfl⟩, ⟨by decide, by decide⟩, by decide +kernel⟩
def m_M_findTaint : gM := (⟨"GuessFencesModel", "findTaint", "()V"⟩, prog_13_method_60_code, 3, (Option.none : Option Jvm.ClassFile.FieldType), [], 12, 0, false)
theorem md_M_findTaint : gv_md m_M_findTaint := ⟨by decide, by decide, gv_i7 221 rfl rfl, gv_i1 10 rfl rfl⟩
theorem vd_M_findTaint : gv_vd m_M_findTaint 0 := ⟨⟨gv_i7 220 rfl rfl, gv_inp 71 (by decide +kernel) rfl⟩, ⟨by decide, by decide⟩, by decide +kernel⟩
def m_M_has : gM := (⟨"GuessFencesModel", "has", "([III)Z"⟩, prog_13_method_53_code, 4, (Option.some Jvm.ClassFile.FieldType.boolean), [], 8, 0, true)
theorem md_M_has : gv_md m_M_has := ⟨by decide, by decide, gv_i7 225 rfl rfl, gv_i1 10 rfl rfl⟩
theorem vd_M_has : gv_vd m_M_has 3 := ⟨⟨gv_i7 224 rfl rfl, gv_inp 72 (by decide +kernel) rfl⟩, ⟨by decide, by decide⟩, by decide +kernel⟩
def m_M_findExposed : gM := (⟨"GuessFencesModel", "findExposed", "()V"⟩, prog_13_method_61_code, 3, (Option.none : Option Jvm.ClassFile.FieldType), [], 12, 0, false)
theorem md_M_findExposed : gv_md m_M_findExposed := ⟨by decide, by decide, gv_i7 229 rfl rfl, gv_i1 10 rfl rfl⟩
theorem vd_M_findExposed : gv_vd m_M_findExposed 0 := ⟨⟨gv_i7 228 rfl rfl, gv_inp 73 (by decide +kernel) rfl⟩, ⟨by decide, by decide⟩, by decide +kernel⟩
def m_M_betrays : gM := (⟨"GuessFencesModel", "betrays", "(II)Z"⟩, prog_13_method_59_code, 5, (Option.some Jvm.ClassFile.FieldType.boolean), [], 11, 0, true)
theorem md_M_betrays : gv_md m_M_betrays := ⟨by decide, by decide, gv_i7 233 rfl rfl, gv_i1 10 rfl rfl⟩
theorem vd_M_betrays : gv_vd m_M_betrays 2 := ⟨⟨gv_i7 232 rfl rfl, gv_inp 74 (by decide +kernel) rfl⟩, ⟨by decide, by decide⟩, by decide +kernel⟩
def m_M_isDivision : gM := (⟨"GuessFencesModel", "isDivision", "(I)Z"⟩, prog_13_method_18_code, 1, (Option.some Jvm.ClassFile.FieldType.boolean), [], 10, 0, true)
theorem md_M_isDivision : gv_md m_M_isDivision := ⟨by decide, by decide, gv_i7 236 rfl rfl, gv_i1 10 rfl rfl⟩
theorem sd_M_isDivision : gv_sd m_M_isDivision 1 := ⟨gv_i7 235 rfl rfl, ⟨by decide, by decide⟩, by decide +kernel⟩
def m_M_findCut : gM := (⟨"GuessFencesModel", "findCut", "()V"⟩, prog_13_method_67_code, 3, (Option.none : Option Jvm.ClassFile.FieldType), [], 13, 0, false)
theorem md_M_findCut : gv_md m_M_findCut := ⟨by decide, by decide, gv_i8 0 rfl rfl, gv_i1 10 rfl rfl⟩
theorem vd_M_findCut : gv_vd m_M_findCut 0 := ⟨⟨gv_i7 239 rfl rfl, gv_inp 75 (by decide +kernel) rfl⟩, ⟨by decide, by decide⟩, by decide +kernel⟩
def m_M_search : gM := (⟨"GuessFencesModel", "search", "()I"⟩, prog_13_method_65_code, 3, (Option.some Jvm.ClassFile.FieldType.int), [], 12, 0, false)
theorem md_M_search : gv_md m_M_search := ⟨by decide, by decide, gv_i8 4 rfl rfl, gv_i1 10 rfl rfl⟩
theorem vd_M_search : gv_vd m_M_search 0 := ⟨⟨gv_i8 3 rfl rfl, gv_inp 76 (by decide +kernel) rfl⟩, ⟨by decide, by decide⟩, by decide +kernel⟩
def m_M_find : gM := (⟨"GuessFencesModel", "find", "(II)V"⟩, prog_13_method_62_code, 3, (Option.none : Option Jvm.ClassFile.FieldType), [], 8, 0, false)
theorem md_M_find : gv_md m_M_find := ⟨by decide, by decide, gv_i8 8 rfl rfl, gv_i1 10 rfl rfl⟩
theorem vd_M_find : gv_vd m_M_find 2 := ⟨⟨gv_i8 7 rfl rfl, gv_inp 77 (by decide +kernel) rfl⟩, ⟨by decide, by decide⟩, by decide +kernel⟩
def m_M_findFromEntry : gM := (⟨"GuessFencesModel", "findFromEntry", "(I)V"⟩, prog_13_method_64_code, 3, (Option.none : Option Jvm.ClassFile.FieldType), [], 9, 0, false)
theorem md_M_findFromEntry : gv_md m_M_findFromEntry := ⟨by decide, by decide, gv_i8 12 rfl rfl, gv_i1 10 rfl rfl⟩
theorem vd_M_findFromEntry : gv_vd m_M_findFromEntry 1 := ⟨⟨gv_i8 11 rfl rfl, gv_inp 78 (by decide +kernel) rfl⟩, ⟨by decide, by decide⟩, by decide +kernel⟩
def m_M_findFromExit : gM := (⟨"GuessFencesModel", "findFromExit", "(I)V"⟩, prog_13_method_63_code, 3, (Option.none : Option Jvm.ClassFile.FieldType), [], 11, 0, false)
theorem md_M_findFromExit : gv_md m_M_findFromExit := ⟨by decide, by decide, gv_i8 16 rfl rfl, gv_i1 10 rfl rfl⟩
theorem vd_M_findFromExit : gv_vd m_M_findFromExit 1 := ⟨⟨gv_i8 15 rfl rfl, gv_inp 79 (by decide +kernel) rfl⟩, ⟨by decide, by decide⟩, by decide +kernel⟩
def m_M_carry : gM := (⟨"GuessFencesModel", "carry", "(I)V"⟩, prog_13_method_66_code, 4, (Option.none : Option Jvm.ClassFile.FieldType), [], 9, 0, false)
theorem md_M_carry : gv_md m_M_carry := ⟨by decide, by decide, gv_i8 20 rfl rfl, gv_i1 10 rfl rfl⟩
theorem vd_M_carry : gv_vd m_M_carry 1 := ⟨⟨gv_i8 19 rfl rfl, gv_inp 80 (by decide +kernel) rfl⟩, ⟨by decide, by decide⟩, by decide +kernel⟩
def m_M_reaches : gM := (⟨"GuessFencesModel", "reaches", "(II)Z"⟩, prog_13_method_70_code, 3, (Option.some Jvm.ClassFile.FieldType.boolean), [], 15, 0, false)
theorem md_M_reaches : gv_md m_M_reaches := ⟨by decide, by decide, gv_i8 24 rfl rfl, gv_i1 10 rfl rfl⟩
theorem vd_M_reaches : gv_vd m_M_reaches 2 := ⟨⟨gv_i8 22 rfl rfl, gv_i8 23 rfl rfl⟩, ⟨by decide, by decide⟩, by decide +kernel⟩
def m_M_mark : gM := (⟨"GuessFencesModel", "mark", "(I)I"⟩, prog_13_method_71_code, 2, (Option.some Jvm.ClassFile.FieldType.int), [], 15, 0, false)
theorem md_M_mark : gv_md m_M_mark := ⟨by decide, by decide, gv_i8 28 rfl rfl, gv_i1 10 rfl rfl⟩
theorem vd_M_mark : gv_vd m_M_mark 1 := ⟨⟨gv_i8 26 rfl rfl, gv_i8 27 rfl rfl⟩, ⟨by decide, by decide⟩, by decide +kernel⟩
def m_M_cut : gM := (⟨"GuessFencesModel", "cut", "()I"⟩, prog_13_method_72_code, 1, (Option.some Jvm.ClassFile.FieldType.int), [], 15, 0, false)
theorem md_M_cut : gv_md m_M_cut := ⟨by decide, by decide, gv_i8 32 rfl rfl, gv_i1 10 rfl rfl⟩
theorem vd_M_cut : gv_vd m_M_cut 0 := ⟨⟨gv_i8 30 rfl rfl, gv_i8 31 rfl rfl⟩, ⟨by decide, by decide⟩, by decide +kernel⟩
def m_M_rewrite : gM := (⟨"GuessFencesModel", "rewrite", "()I"⟩, prog_13_method_75_code, 6, (Option.some Jvm.ClassFile.FieldType.int), [], 15, 0, false)
theorem md_M_rewrite : gv_md m_M_rewrite := ⟨by decide, by decide, gv_i8 36 rfl rfl, gv_i1 10 rfl rfl⟩
theorem vd_M_rewrite : gv_vd m_M_rewrite 0 := ⟨⟨gv_i8 34 rfl rfl, gv_i8 35 rfl rfl⟩, ⟨by decide, by decide⟩, by decide +kernel⟩
def m_M_branchWith : gM := (⟨"GuessFencesModel", "branchWith", "(II)I"⟩, prog_13_method_73_code, 2, (Option.some Jvm.ClassFile.FieldType.int), [], 8, 0, true)
theorem md_M_branchWith : gv_md m_M_branchWith := ⟨by decide, by decide, gv_i8 39 rfl rfl, gv_i1 10 rfl rfl⟩
theorem sd_M_branchWith : gv_sd m_M_branchWith 2 := ⟨gv_i8 38 rfl rfl, ⟨by decide, by decide⟩, by decide +kernel⟩
def m_M_jumpWith : gM := (⟨"GuessFencesModel", "jumpWith", "(II)I"⟩, prog_13_method_74_code, 2, (Option.some Jvm.ClassFile.FieldType.int), [], 8, 0, true)
theorem md_M_jumpWith : gv_md m_M_jumpWith := ⟨by decide, by decide, gv_i8 43 rfl rfl, gv_i1 10 rfl rfl⟩
theorem sd_M_jumpWith : gv_sd m_M_jumpWith 2 := ⟨gv_i8 42 rfl rfl, ⟨by decide, by decide⟩, by decide +kernel⟩
def m_M_home : gM := (⟨"GuessFencesModel", "home", "(I)I"⟩, prog_13_method_76_code, 2, (Option.some Jvm.ClassFile.FieldType.int), [], 9, 0, false)
theorem md_M_home : gv_md m_M_home := ⟨by decide, by decide, gv_i8 48 rfl rfl, gv_i1 10 rfl rfl⟩
theorem vd_M_home : gv_vd m_M_home 1 := ⟨⟨gv_i8 46 rfl rfl, gv_i8 47 rfl rfl⟩, ⟨by decide, by decide⟩, by decide +kernel⟩
def m_Word_fault : gM := (⟨"GuessFences$Word", "fault", "(III)I"⟩, prog_11_method_19_code, 6, (Option.some Jvm.ClassFile.FieldType.int), [], 10, 0, true)
theorem md_Word_fault : gv_md m_Word_fault := ⟨by decide, by decide, gv_i2 130 rfl rfl, gv_i1 15 rfl rfl⟩
theorem sd_Word_fault : gv_sd m_Word_fault 3 := ⟨gv_i2 129 rfl rfl, ⟨by decide, by decide⟩, by decide +kernel⟩
def m_Word_code : gM := (⟨"GuessFences$Word", "code", "(I)I"⟩, prog_11_method_2_code, 1, (Option.some Jvm.ClassFile.FieldType.int), [], 8, 0, true)
theorem md_Word_code : gv_md m_Word_code := ⟨by decide, by decide, gv_i2 133 rfl rfl, gv_i1 15 rfl rfl⟩
theorem sd_Word_code : gv_sd m_Word_code 1 := ⟨gv_i2 132 rfl rfl, ⟨by decide, by decide⟩, by decide +kernel⟩
def m_Word_d : gM := (⟨"GuessFences$Word", "d", "(I)I"⟩, prog_11_method_3_code, 1, (Option.some Jvm.ClassFile.FieldType.int), [], 8, 0, true)
theorem md_Word_d : gv_md m_Word_d := ⟨by decide, by decide, gv_i2 136 rfl rfl, gv_i1 15 rfl rfl⟩
theorem sd_Word_d : gv_sd m_Word_d 1 := ⟨gv_i2 135 rfl rfl, ⟨by decide, by decide⟩, by decide +kernel⟩
def m_Word_kind : gM := (⟨"GuessFences$Word", "kind", "(I)I"⟩, prog_11_method_16_code, 2, (Option.some Jvm.ClassFile.FieldType.int), [], 9, 0, true)
theorem md_Word_kind : gv_md m_Word_kind := ⟨by decide, by decide, gv_i2 139 rfl rfl, gv_i1 15 rfl rfl⟩
theorem sd_Word_kind : gv_sd m_Word_kind 1 := ⟨gv_i2 138 rfl rfl, ⟨by decide, by decide⟩, by decide +kernel⟩
def m_Word_f : gM := (⟨"GuessFences$Word", "f", "(I)I"⟩, prog_11_method_4_code, 1, (Option.some Jvm.ClassFile.FieldType.int), [], 8, 0, true)
theorem md_Word_f : gv_md m_Word_f := ⟨by decide, by decide, gv_i2 142 rfl rfl, gv_i1 15 rfl rfl⟩
theorem sd_Word_f : gv_sd m_Word_f 1 := ⟨gv_i2 141 rfl rfl, ⟨by decide, by decide⟩, by decide +kernel⟩
def m_Word_g : gM := (⟨"GuessFences$Word", "g", "(I)I"⟩, prog_11_method_7_code, 1, (Option.some Jvm.ClassFile.FieldType.int), [], 8, 0, true)
theorem md_Word_g : gv_md m_Word_g := ⟨by decide, by decide, gv_i2 145 rfl rfl, gv_i1 15 rfl rfl⟩
theorem sd_Word_g : gv_sd m_Word_g 1 := ⟨gv_i2 144 rfl rfl, ⟨by decide, by decide⟩, by decide +kernel⟩
def m_Word_isRegForm : gM := (⟨"GuessFences$Word", "isRegForm", "(II)Z"⟩, prog_11_method_17_code, 2, (Option.some Jvm.ClassFile.FieldType.boolean), [], 8, 0, true)
theorem md_Word_isRegForm : gv_md m_Word_isRegForm := ⟨by decide, by decide, gv_i2 148 rfl rfl, gv_i1 15 rfl rfl⟩
theorem sd_Word_isRegForm : gv_sd m_Word_isRegForm 2 := ⟨gv_i2 147 rfl rfl, ⟨by decide, by decide⟩, by decide +kernel⟩
def m_Word_isImmForm : gM := (⟨"GuessFences$Word", "isImmForm", "(II)Z"⟩, prog_11_method_18_code, 2, (Option.some Jvm.ClassFile.FieldType.boolean), [], 8, 0, true)
theorem md_Word_isImmForm : gv_md m_Word_isImmForm := ⟨by decide, by decide, gv_i2 151 rfl rfl, gv_i1 15 rfl rfl⟩
theorem sd_Word_isImmForm : gv_sd m_Word_isImmForm 2 := ⟨gv_i2 150 rfl rfl, ⟨by decide, by decide⟩, by decide +kernel⟩
def m_Word_offset : gM := (⟨"GuessFences$Word", "offset", "(I)I"⟩, prog_11_method_10_code, 1, (Option.some Jvm.ClassFile.FieldType.int), [], 9, 0, true)
theorem md_Word_offset : gv_md m_Word_offset := ⟨by decide, by decide, gv_i2 154 rfl rfl, gv_i1 15 rfl rfl⟩
theorem sd_Word_offset : gv_sd m_Word_offset 1 := ⟨gv_i2 153 rfl rfl, ⟨by decide, by decide⟩, by decide +kernel⟩
def m_Word_branchOffset : gM := (⟨"GuessFences$Word", "branchOffset", "(I)I"⟩, prog_11_method_11_code, 1, (Option.some Jvm.ClassFile.FieldType.int), [], 8, 0, true)
theorem md_Word_branchOffset : gv_md m_Word_branchOffset := ⟨by decide, by decide, gv_i2 157 rfl rfl, gv_i1 15 rfl rfl⟩
theorem sd_Word_branchOffset : gv_sd m_Word_branchOffset 1 := ⟨gv_i2 156 rfl rfl, ⟨by decide, by decide⟩, by decide +kernel⟩
def m_Word_jumpOffset : gM := (⟨"GuessFences$Word", "jumpOffset", "(I)I"⟩, prog_11_method_12_code, 1, (Option.some Jvm.ClassFile.FieldType.int), [], 8, 0, true)
theorem md_Word_jumpOffset : gv_md m_Word_jumpOffset := ⟨by decide, by decide, gv_i2 160 rfl rfl, gv_i1 15 rfl rfl⟩
theorem sd_Word_jumpOffset : gv_sd m_Word_jumpOffset 1 := ⟨gv_i2 159 rfl rfl, ⟨by decide, by decide⟩, by decide +kernel⟩
def m_Word_goesInside : gM := (⟨"GuessFences$Word", "goesInside", "(III)Z"⟩, prog_11_method_20_code, 4, (Option.some Jvm.ClassFile.FieldType.boolean), [], 8, 0, true)
theorem md_Word_goesInside : gv_md m_Word_goesInside := ⟨by decide, by decide, gv_i2 164 rfl rfl, gv_i1 15 rfl rfl⟩
theorem sd_Word_goesInside : gv_sd m_Word_goesInside 3 := ⟨gv_i2 163 rfl rfl, ⟨by decide, by decide⟩, by decide +kernel⟩
def m_Word_a : gM := (⟨"GuessFences$Word", "a", "(I)I"⟩, prog_11_method_5_code, 1, (Option.some Jvm.ClassFile.FieldType.int), [], 8, 0, true)
theorem md_Word_a : gv_md m_Word_a := ⟨by decide, by decide, gv_i2 178 rfl rfl, gv_i1 15 rfl rfl⟩
theorem sd_Word_a : gv_sd m_Word_a 1 := ⟨gv_i2 177 rfl rfl, ⟨by decide, by decide⟩, by decide +kernel⟩
def m_Word_b : gM := (⟨"GuessFences$Word", "b", "(I)I"⟩, prog_11_method_6_code, 1, (Option.some Jvm.ClassFile.FieldType.int), [], 8, 0, true)
theorem md_Word_b : gv_md m_Word_b := ⟨by decide, by decide, gv_i2 181 rfl rfl, gv_i1 15 rfl rfl⟩
theorem sd_Word_b : gv_sd m_Word_b 1 := ⟨gv_i2 180 rfl rfl, ⟨by decide, by decide⟩, by decide +kernel⟩
def m_Word_i : gM := (⟨"GuessFences$Word", "i", "(I)I"⟩, prog_11_method_8_code, 1, (Option.some Jvm.ClassFile.FieldType.int), [], 8, 0, true)
theorem md_Word_i : gv_md m_Word_i := ⟨by decide, by decide, gv_i2 187 rfl rfl, gv_i1 15 rfl rfl⟩
theorem sd_Word_i : gv_sd m_Word_i 1 := ⟨gv_i2 186 rfl rfl, ⟨by decide, by decide⟩, by decide +kernel⟩
def m_Word_storeNumber : gM := (⟨"GuessFences$Word", "storeNumber", "(I)I"⟩, prog_11_method_9_code, 1, (Option.some Jvm.ClassFile.FieldType.int), [], 9, 0, true)
theorem md_Word_storeNumber : gv_md m_Word_storeNumber := ⟨by decide, by decide, gv_i2 190 rfl rfl, gv_i1 15 rfl rfl⟩
theorem sd_Word_storeNumber : gv_sd m_Word_storeNumber 1 := ⟨gv_i2 189 rfl rfl, ⟨by decide, by decide⟩, by decide +kernel⟩
def m_Word_isBranchOffset : gM := (⟨"GuessFences$Word", "isBranchOffset", "(I)Z"⟩, prog_11_method_15_code, 1, (Option.some Jvm.ClassFile.FieldType.boolean), [], 8, 0, true)
theorem md_Word_isBranchOffset : gv_md m_Word_isBranchOffset := ⟨by decide, by decide, gv_i6 91 rfl rfl, gv_i1 15 rfl rfl⟩
theorem sd_Word_isBranchOffset : gv_sd m_Word_isBranchOffset 1 := ⟨gv_i6 90 rfl rfl, ⟨by decide, by decide⟩, by decide +kernel⟩
def m_Word_withBranchOffset : gM := (⟨"GuessFences$Word", "withBranchOffset", "(II)I"⟩, prog_11_method_13_code, 5, (Option.some Jvm.ClassFile.FieldType.int), [], 8, 0, true)
theorem md_Word_withBranchOffset : gv_md m_Word_withBranchOffset := ⟨by decide, by decide, gv_i6 102 rfl rfl, gv_i1 15 rfl rfl⟩
theorem sd_Word_withBranchOffset : gv_sd m_Word_withBranchOffset 2 := ⟨gv_i6 101 rfl rfl, ⟨by decide, by decide⟩, by decide +kernel⟩
def m_Word_withJumpOffset : gM := (⟨"GuessFences$Word", "withJumpOffset", "(II)I"⟩, prog_11_method_14_code, 5, (Option.some Jvm.ClassFile.FieldType.int), [], 8, 0, true)
theorem md_Word_withJumpOffset : gv_md m_Word_withJumpOffset := ⟨by decide, by decide, gv_i6 106 rfl rfl, gv_i1 15 rfl rfl⟩
theorem sd_Word_withJumpOffset : gv_sd m_Word_withJumpOffset 2 := ⟨gv_i6 105 rfl rfl, ⟨by decide, by decide⟩, by decide +kernel⟩
def m_Arithmetic_divides : gM := (⟨"GuessFences$Arithmetic", "divides", "(I)Z"⟩, prog_2_method_2_code, 1, (Option.some Jvm.ClassFile.FieldType.boolean), [], 8, 0, true)
theorem md_Arithmetic_divides : gv_md m_Arithmetic_divides := ⟨by decide, by decide, gv_i3 195 rfl rfl, gv_i1 19 rfl rfl⟩
theorem sd_Arithmetic_divides : gv_sd m_Arithmetic_divides 1 := ⟨gv_i3 194 rfl rfl, ⟨by decide, by decide⟩, by decide +kernel⟩
def m_Arithmetic_answer : gM := (⟨"GuessFences$Arithmetic", "answer", "(III)I"⟩, prog_2_method_3_code, 3, (Option.some Jvm.ClassFile.FieldType.int), [], 9, 0, true)
theorem md_Arithmetic_answer : gv_md m_Arithmetic_answer := ⟨by decide, by decide, gv_i3 203 rfl rfl, gv_i1 19 rfl rfl⟩
theorem sd_Arithmetic_answer : gv_sd m_Arithmetic_answer 3 := ⟨gv_i3 202 rfl rfl, ⟨by decide, by decide⟩, by decide +kernel⟩
def m_Arithmetic_product : gM := (⟨"GuessFences$Arithmetic", "product", "(III)I"⟩, prog_2_method_4_code, 3, (Option.some Jvm.ClassFile.FieldType.int), [], 8, 0, true)
theorem md_Arithmetic_product : gv_md m_Arithmetic_product := ⟨by decide, by decide, gv_i3 206 rfl rfl, gv_i1 19 rfl rfl⟩
theorem sd_Arithmetic_product : gv_sd m_Arithmetic_product 3 := ⟨gv_i3 205 rfl rfl, ⟨by decide, by decide⟩, by decide +kernel⟩
def m_Arithmetic_quotient : gM := (⟨"GuessFences$Arithmetic", "quotient", "(III)I"⟩, prog_2_method_5_code, 9, (Option.some Jvm.ClassFile.FieldType.int), [], 8, 0, true)
theorem md_Arithmetic_quotient : gv_md m_Arithmetic_quotient := ⟨by decide, by decide, gv_i3 211 rfl rfl, gv_i1 19 rfl rfl⟩
theorem sd_Arithmetic_quotient : gv_sd m_Arithmetic_quotient 3 := ⟨gv_i3 210 rfl rfl, ⟨by decide, by decide⟩, by decide +kernel⟩
def m_Arithmetic_lessUnsigned : gM := (⟨"GuessFences$Arithmetic", "lessUnsigned", "(II)Z"⟩, prog_2_method_6_code, 2, (Option.some Jvm.ClassFile.FieldType.boolean), [], 8, 0, true)
theorem md_Arithmetic_lessUnsigned : gv_md m_Arithmetic_lessUnsigned := ⟨by decide, by decide, gv_i3 214 rfl rfl, gv_i1 19 rfl rfl⟩
theorem sd_Arithmetic_lessUnsigned : gv_sd m_Arithmetic_lessUnsigned 2 := ⟨gv_i3 213 rfl rfl, ⟨by decide, by decide⟩, by decide +kernel⟩
def m_Arithmetic_holds : gM := (⟨"GuessFences$Arithmetic", "holds", "(III)Z"⟩, prog_2_method_7_code, 3, (Option.some Jvm.ClassFile.FieldType.boolean), [], 9, 0, true)
theorem md_Arithmetic_holds : gv_md m_Arithmetic_holds := ⟨by decide, by decide, gv_i3 236 rfl rfl, gv_i1 19 rfl rfl⟩
theorem sd_Arithmetic_holds : gv_sd m_Arithmetic_holds 3 := ⟨gv_i3 235 rfl rfl, ⟨by decide, by decide⟩, by decide +kernel⟩
def m_L_law : gM := (⟨"GuessFencesLaw", "law", "([I)Z"⟩, code, 7, ret, [], 17, 0, false)
def m_L_again : gM := (⟨"GuessFencesLaw", "again", "(LGuessFences;II[J)I"⟩, method_3_code, 5, (Option.some Jvm.ClassFile.FieldType.int), [(0, 10, 13, 13)], 10, 1, false)
theorem md_L_again : gv_md m_L_again := ⟨by decide, by decide, gv_i2 230 rfl rfl, gv_i1 0 rfl rfl⟩
theorem sd_L_again : gv_sd m_L_again 4 := ⟨gv_i2 229 rfl rfl, ⟨by decide, by decide⟩, by decide +kernel⟩
def m_L_decoded : gM := (⟨"GuessFencesLaw", "decoded", "(LGuessFences;II[J)I"⟩, method_4_code, 5, (Option.some Jvm.ClassFile.FieldType.int), [(0, 10, 13, 18), (0, 10, 17, 20), (0, 10, 21, 13)], 11, 1, false)
theorem md_L_decoded : gv_md m_L_decoded := ⟨by decide, by decide, gv_i3 64 rfl rfl, gv_i1 0 rfl rfl⟩
theorem sd_L_decoded : gv_sd m_L_decoded 4 := ⟨gv_i3 63 rfl rfl, ⟨by decide, by decide⟩, by decide +kernel⟩
def m_L_set : gM := (⟨"GuessFencesLaw", "set", "(LGuessFences;II)I"⟩, method_5_code, 4, (Option.some Jvm.ClassFile.FieldType.int), [(0, 6, 9, 18), (0, 6, 12, 13)], 10, 1, false)
theorem md_L_set : gv_md m_L_set := ⟨by decide, by decide, gv_i3 115 rfl rfl, gv_i1 0 rfl rfl⟩
theorem sd_L_set : gv_sd m_L_set 3 := ⟨gv_i3 114 rfl rfl, ⟨by decide, by decide⟩, by decide +kernel⟩
def m_L_register : gM := (⟨"GuessFencesLaw", "register", "(LGuessFences;I[J)I"⟩, method_6_code, 4, (Option.some Jvm.ClassFile.FieldType.int), [(0, 9, 12, 18), (0, 9, 15, 13)], 10, 1, false)
theorem md_L_register : gv_md m_L_register := ⟨by decide, by decide, gv_i3 130 rfl rfl, gv_i1 0 rfl rfl⟩
theorem sd_L_register : gv_sd m_L_register 3 := ⟨gv_i3 129 rfl rfl, ⟨by decide, by decide⟩, by decide +kernel⟩
def m_L_poke : gM := (⟨"GuessFencesLaw", "poke", "(LGuessFences;II)I"⟩, method_7_code, 4, (Option.some Jvm.ClassFile.FieldType.int), [(0, 6, 9, 18)], 10, 1, false)
theorem md_L_poke : gv_md m_L_poke := ⟨by decide, by decide, gv_i3 141 rfl rfl, gv_i1 0 rfl rfl⟩
theorem sd_L_poke : gv_sd m_L_poke 3 := ⟨gv_i3 140 rfl rfl, ⟨by decide, by decide⟩, by decide +kernel⟩
def m_L_peek : gM := (⟨"GuessFencesLaw", "peek", "(LGuessFences;I[J)I"⟩, method_8_code, 4, (Option.some Jvm.ClassFile.FieldType.int), [(0, 9, 12, 18)], 10, 1, false)
theorem md_L_peek : gv_md m_L_peek := ⟨by decide, by decide, gv_i3 152 rfl rfl, gv_i1 0 rfl rfl⟩
theorem sd_L_peek : gv_sd m_L_peek 3 := ⟨gv_i3 151 rfl rfl, ⟨by decide, by decide⟩, by decide +kernel⟩
def m_L_run : gM := (⟨"GuessFencesLaw", "run", "(LGuessFences;I[J)I"⟩, method_9_code, 4, (Option.some Jvm.ClassFile.FieldType.int), [(0, 9, 12, 18), (0, 9, 15, 13)], 14, 1, false)
theorem md_L_run : gv_md m_L_run := ⟨by decide, by decide, gv_i3 163 rfl rfl, gv_i1 0 rfl rfl⟩
theorem sd_L_run : gv_sd m_L_run 3 := ⟨gv_i3 162 rfl rfl, ⟨by decide, by decide⟩, by decide +kernel⟩
def m_L_order : gM := (⟨"GuessFencesLaw", "order", "(LGuessFences;I[J)I"⟩, method_10_code, 4, (Option.some Jvm.ClassFile.FieldType.int), [(0, 9, 12, 18), (0, 9, 15, 13)], 15, 1, false)
theorem md_L_order : gv_md m_L_order := ⟨by decide, by decide, gv_i4 3 rfl rfl, gv_i1 0 rfl rfl⟩
theorem sd_L_order : gv_sd m_L_order 3 := ⟨gv_i4 2 rfl rfl, ⟨by decide, by decide⟩, by decide +kernel⟩
def m_L_window : gM := (⟨"GuessFencesLaw", "window", "(LGuessFences;I[J)I"⟩, method_11_code, 4, (Option.some Jvm.ClassFile.FieldType.int), [(0, 9, 12, 13)], 9, 1, false)
theorem md_L_window : gv_md m_L_window := ⟨by decide, by decide, gv_i4 70 rfl rfl, gv_i1 0 rfl rfl⟩
theorem sd_L_window : gv_sd m_L_window 3 := ⟨gv_i4 69 rfl rfl, ⟨by decide, by decide⟩, by decide +kernel⟩
def m_L_state : gM := (⟨"GuessFencesLaw", "state", "(LGuessFences;I[J)I"⟩, method_12_code, 4, (Option.some Jvm.ClassFile.FieldType.int), [(0, 9, 12, 18), (0, 9, 15, 13)], 11, 1, false)
theorem md_L_state : gv_md m_L_state := ⟨by decide, by decide, gv_i4 77 rfl rfl, gv_i1 0 rfl rfl⟩
theorem sd_L_state : gv_sd m_L_state 3 := ⟨gv_i4 76 rfl rfl, ⟨by decide, by decide⟩, by decide +kernel⟩
def m_L_forget : gM := (⟨"GuessFencesLaw", "forget", "(LGuessFences;[J)I"⟩, method_13_code, 3, (Option.some Jvm.ClassFile.FieldType.int), [(0, 8, 11, 18)], 10, 1, false)
theorem md_L_forget : gv_md m_L_forget := ⟨by decide, by decide, gv_i4 88 rfl rfl, gv_i1 0 rfl rfl⟩
theorem sd_L_forget : gv_sd m_L_forget 2 := ⟨gv_i4 87 rfl rfl, ⟨by decide, by decide⟩, by decide +kernel⟩
def m_L_check : gM := (⟨"GuessFencesLaw", "check", "(LGuessFences;[J)I"⟩, method_14_code, 3, (Option.some Jvm.ClassFile.FieldType.int), [(0, 8, 11, 18)], 16, 1, false)
theorem md_L_check : gv_md m_L_check := ⟨by decide, by decide, gv_i4 96 rfl rfl, gv_i1 0 rfl rfl⟩
theorem sd_L_check : gv_sd m_L_check 2 := ⟨gv_i4 95 rfl rfl, ⟨by decide, by decide⟩, by decide +kernel⟩
def m_L_reaches : gM := (⟨"GuessFencesLaw", "reaches", "(LGuessFences;II[J)I"⟩, method_15_code, 5, (Option.some Jvm.ClassFile.FieldType.int), [(0, 17, 20, 18), (0, 17, 24, 20)], 13, 1, false)
theorem md_L_reaches : gv_md m_L_reaches := ⟨by decide, by decide, gv_i6 46 rfl rfl, gv_i1 0 rfl rfl⟩
theorem sd_L_reaches : gv_sd m_L_reaches 4 := ⟨gv_i6 45 rfl rfl, ⟨by decide, by decide⟩, by decide +kernel⟩
def m_L_mark : gM := (⟨"GuessFencesLaw", "mark", "(LGuessFences;I[J)I"⟩, method_16_code, 4, (Option.some Jvm.ClassFile.FieldType.int), [(0, 9, 12, 18), (0, 9, 15, 20)], 16, 1, false)
theorem md_L_mark : gv_md m_L_mark := ⟨by decide, by decide, gv_i6 58 rfl rfl, gv_i1 0 rfl rfl⟩
theorem sd_L_mark : gv_sd m_L_mark 3 := ⟨gv_i6 57 rfl rfl, ⟨by decide, by decide⟩, by decide +kernel⟩
def m_L_cut : gM := (⟨"GuessFencesLaw", "cut", "(LGuessFences;[J)I"⟩, method_17_code, 3, (Option.some Jvm.ClassFile.FieldType.int), [(0, 8, 11, 18)], 16, 1, false)
theorem md_L_cut : gv_md m_L_cut := ⟨by decide, by decide, gv_i6 65 rfl rfl, gv_i1 0 rfl rfl⟩
theorem sd_L_cut : gv_sd m_L_cut 2 := ⟨gv_i6 64 rfl rfl, ⟨by decide, by decide⟩, by decide +kernel⟩
def m_L_rewrite : gM := (⟨"GuessFencesLaw", "rewrite", "(LGuessFences;[J)I"⟩, method_18_code, 3, (Option.some Jvm.ClassFile.FieldType.int), [(0, 8, 11, 18)], 16, 1, false)
theorem md_L_rewrite : gv_md m_L_rewrite := ⟨by decide, by decide, gv_i6 72 rfl rfl, gv_i1 0 rfl rfl⟩
theorem sd_L_rewrite : gv_sd m_L_rewrite 2 := ⟨gv_i6 71 rfl rfl, ⟨by decide, by decide⟩, by decide +kernel⟩
def m_L_home : gM := (⟨"GuessFencesLaw", "home", "(LGuessFences;I[J)I"⟩, method_19_code, 4, (Option.some Jvm.ClassFile.FieldType.int), [(0, 9, 12, 20)], 11, 1, false)
theorem md_L_home : gv_md m_L_home := ⟨by decide, by decide, gv_i6 110 rfl rfl, gv_i1 0 rfl rfl⟩
theorem sd_L_home : gv_sd m_L_home 3 := ⟨gv_i6 109 rfl rfl, ⟨by decide, by decide⟩, by decide +kernel⟩
def m_A_fill_aII : gM := (⟨"java/util/Arrays", "fill", "([II)V"⟩, prog_31_method_103_code, 4, (Option.none : Option Jvm.ClassFile.FieldType), [], 8, 0, false)
theorem md_A_fill_aII : gv_md m_A_fill_aII := ⟨by decide, by decide, gv_i2 198 rfl rfl, gv_i1 16 rfl rfl⟩
theorem sd_A_fill_aII : gv_sd m_A_fill_aII 2 := ⟨gv_i2 197 rfl rfl, ⟨by decide, by decide⟩, by decide +kernel⟩
def m_A_fill_aBB : gM := (⟨"java/util/Arrays", "fill", "([BB)V"⟩, prog_31_method_109_code, 4, (Option.none : Option Jvm.ClassFile.FieldType), [], 8, 0, false)
theorem md_A_fill_aBB : gv_md m_A_fill_aBB := ⟨by decide, by decide, gv_i2 201 rfl rfl, gv_i1 16 rfl rfl⟩
theorem sd_A_fill_aBB : gv_sd m_A_fill_aBB 2 := ⟨gv_i2 200 rfl rfl, ⟨by decide, by decide⟩, by decide +kernel⟩
def m_A_fill_aJJ : gM := (⟨"java/util/Arrays", "fill", "([JJ)V"⟩, prog_31_method_101_code, 5, (Option.none : Option Jvm.ClassFile.FieldType), [], 8, 0, false)
theorem md_A_fill_aJJ : gv_md m_A_fill_aJJ := ⟨by decide, by decide, gv_i4 116 rfl rfl, gv_i1 16 rfl rfl⟩
theorem sd_A_fill_aJJ : gv_sd m_A_fill_aJJ 2 := ⟨gv_i4 115 rfl rfl, ⟨by decide, by decide⟩, by decide +kernel⟩
def m_A_fill_aJIIJ : gM := (⟨"java/util/Arrays", "fill", "([JIIJ)V"⟩, prog_31_method_102_code, 6, (Option.none : Option Jvm.ClassFile.FieldType), [], 9, 0, false)
theorem md_A_fill_aJIIJ : gv_md m_A_fill_aJIIJ := ⟨by decide, by decide, gv_i4 156 rfl rfl, gv_i1 16 rfl rfl⟩
theorem sd_A_fill_aJIIJ : gv_sd m_A_fill_aJIIJ 4 := ⟨gv_i4 155 rfl rfl, ⟨by decide, by decide⟩, by decide +kernel⟩
def m_A_rangeCheck : gM := (⟨"java/util/Arrays", "rangeCheck", "(III)V"⟩, prog_31_method_30_code, 3, (Option.none : Option Jvm.ClassFile.FieldType), [], 8, 0, false)
theorem md_A_rangeCheck : gv_md m_A_rangeCheck := ⟨by decide, by decide, gv_i4 159 rfl rfl, gv_i1 16 rfl rfl⟩
theorem sd_A_rangeCheck : gv_sd m_A_rangeCheck 3 := ⟨gv_i4 158 rfl rfl, ⟨by decide, by decide⟩, by decide +kernel⟩
def m_Lo_bitCount : gM := (⟨"java/lang/Long", "bitCount", "(J)I"⟩, prog_22_method_50_code, 2, (Option.some Jvm.ClassFile.FieldType.int), [], 8, 0, true)
theorem md_Lo_bitCount : gv_md m_Lo_bitCount := ⟨by decide, by decide, gv_i5 217 rfl rfl, gv_i1 31 rfl rfl⟩
theorem sd_Lo_bitCount : gv_sd m_Lo_bitCount 1 := ⟨gv_i5 216 rfl rfl, ⟨by decide, by decide⟩, by decide +kernel⟩
theorem lays_0 : ∀ w ∈ u_ws "GuessFences" gf_T0 12, w ∈ gv_ws := gv_inl [313, 315, 317, 319, 321, 323, 325, 327, 329, 331, 333, 335] (by decide +kernel) (by decide +kernel)
theorem gf_nm0 : ∀ a, a < 12 → ∀ b, b < 12 → a ≠ b → (gf_T0 a).2.1 ≠ (gf_T0 b).2.1 := by decide +kernel
theorem gf_ty0 : ∀ k, k < 12 → parseFieldDescriptor (gf_T0 k).2.2.1 = some (gf_y0 k) := by decide +kernel
theorem lays_1 : ∀ w ∈ u_ws "GuessFences$Listing" gf_T1 8, w ∈ gv_ws := gv_inl [74, 76, 78, 80, 82, 84, 86, 88] (by decide +kernel) (by decide +kernel)
theorem gf_nm1 : ∀ a, a < 8 → ∀ b, b < 8 → a ≠ b → (gf_T1 a).2.1 ≠ (gf_T1 b).2.1 := by decide +kernel
theorem gf_ty1 : ∀ k, k < 8 → parseFieldDescriptor (gf_T1 k).2.2.1 = some (gf_y1 k) := by decide +kernel
theorem lays_2 : ∀ w ∈ u_ws "GuessFences$Machine" gf_T2 7, w ∈ gv_ws := gv_inl [157, 159, 161, 163, 165, 167, 169] (by decide +kernel) (by decide +kernel)
theorem gf_nm2 : ∀ a, a < 7 → ∀ b, b < 7 → a ≠ b → (gf_T2 a).2.1 ≠ (gf_T2 b).2.1 := by decide +kernel
theorem gf_ty2 : ∀ k, k < 7 → parseFieldDescriptor (gf_T2 k).2.2.1 = some (gf_y2 k) := by decide +kernel
theorem lays_3 : ∀ w ∈ u_ws "GuessFences$Leaks" gf_T3 2, w ∈ gv_ws := gv_inl [107, 109] (by decide +kernel) (by decide +kernel)
theorem gf_nm3 : ∀ a, a < 2 → ∀ b, b < 2 → a ≠ b → (gf_T3 a).2.1 ≠ (gf_T3 b).2.1 := by decide +kernel
theorem gf_ty3 : ∀ k, k < 2 → parseFieldDescriptor (gf_T3 k).2.2.1 = some (gf_y3 k) := by decide +kernel
theorem lays_4 : ∀ w ∈ u_ws "GuessFences$Guesses" gf_T4 8, w ∈ gv_ws := gv_inl [130, 132, 134, 136, 138, 140, 142, 144] (by decide +kernel) (by decide +kernel)
theorem gf_nm4 : ∀ a, a < 8 → ∀ b, b < 8 → a ≠ b → (gf_T4 a).2.1 ≠ (gf_T4 b).2.1 := by decide +kernel
theorem gf_ty4 : ∀ k, k < 8 → parseFieldDescriptor (gf_T4 k).2.2.1 = some (gf_y4 k) := by decide +kernel
theorem lays_5 : ∀ w ∈ u_ws "GuessFences$Reach" gf_T5 6, w ∈ gv_ws := gv_inl [184, 186, 188, 190, 192, 194] (by decide +kernel) (by decide +kernel)
theorem gf_nm5 : ∀ a, a < 6 → ∀ b, b < 6 → a ≠ b → (gf_T5 a).2.1 ≠ (gf_T5 b).2.1 := by decide +kernel
theorem gf_ty5 : ∀ k, k < 6 → parseFieldDescriptor (gf_T5 k).2.2.1 = some (gf_y5 k) := by decide +kernel
theorem lays_6 : ∀ w ∈ u_ws "GuessFences$Taint" gf_T6 11, w ∈ gv_ws := gv_inl [222, 224, 226, 228, 230, 232, 234, 236, 238, 240, 242] (by decide +kernel) (by decide +kernel)
theorem gf_nm6 : ∀ a, a < 11 → ∀ b, b < 11 → a ≠ b → (gf_T6 a).2.1 ≠ (gf_T6 b).2.1 := by decide +kernel
theorem gf_ty6 : ∀ k, k < 11 → parseFieldDescriptor (gf_T6 k).2.2.1 = some (gf_y6 k) := by decide +kernel
theorem lays_7 : ∀ w ∈ u_ws "GuessFences$Cut" gf_T7 9, w ∈ gv_ws := gv_inl [262, 264, 266, 268, 270, 272, 274, 276, 278] (by decide +kernel) (by decide +kernel)
theorem gf_nm7 : ∀ a, a < 9 → ∀ b, b < 9 → a ≠ b → (gf_T7 a).2.1 ≠ (gf_T7 b).2.1 := by decide +kernel
theorem gf_ty7 : ∀ k, k < 9 → parseFieldDescriptor (gf_T7 k).2.2.1 = some (gf_y7 k) := by decide +kernel
theorem lays_8 : ∀ w ∈ u_ws "GuessFences$Rewriter" gf_T8 4, w ∈ gv_ws := gv_inl [292, 294, 296, 298] (by decide +kernel) (by decide +kernel)
theorem gf_nm8 : ∀ a, a < 4 → ∀ b, b < 4 → a ≠ b → (gf_T8 a).2.1 ≠ (gf_T8 b).2.1 := by decide +kernel
theorem gf_ty8 : ∀ k, k < 4 → parseFieldDescriptor (gf_T8 k).2.2.1 = some (gf_y8 k) := by decide +kernel
theorem lays_9 : ∀ w ∈ u_ws "GuessFencesModel" gf_T9 38, w ∈ gv_ws := gv_inl [1360, 1362, 1364, 1366, 1368, 1370, 1372, 1374, 1376, 1378, 1380, 1382, 1384, 1386, 1388, 1390, 1392, 1394, 1396, 1398, 1400, 1402, 1404, 1406, 1408, 1410, 1412, 1414, 1416, 1418, 1420, 1422, 1424, 1426, 1428, 1430, 1432, 1434] (by decide +kernel) (by decide +kernel)
theorem gf_nm9 : ∀ a, a < 38 → ∀ b, b < 38 → a ≠ b → (gf_T9 a).2.1 ≠ (gf_T9 b).2.1 := by decide +kernel
theorem gf_ty9 : ∀ k, k < 38 → parseFieldDescriptor (gf_T9 k).2.2.1 = some (gf_y9 k) := by decide +kernel
theorem lk_0_63 : gv_lk "GuessFences" 63 0 7 := ⟨_, _, _, rfl, by decide, lays_0, Or.inl (gv_i2 68 rfl rfl)⟩
theorem lk_0_9 : gv_lk "GuessFences" 9 0 0 := ⟨_, _, _, rfl, by decide, lays_0, Or.inl (gv_i2 61 rfl rfl)⟩
theorem lp_0_63 : gv_lkp "GuessFences" 63 0 7 .int := ⟨_, _, _, rfl, by decide, lays_0, Or.inl (gv_i2 68 rfl rfl), ⟨gf_y0, gf_ty0⟩, gf_nm0, rfl, by decide +kernel⟩
theorem lp_0_70 : gv_lkp "GuessFences" 70 0 9 .boolean := ⟨_, _, _, rfl, by decide, lays_0, Or.inl (gv_i2 70 rfl rfl), ⟨gf_y0, gf_ty0⟩, gf_nm0, rfl, by decide +kernel⟩
theorem lp_0_77 : gv_lkp "GuessFences" 77 0 11 .boolean := ⟨_, _, _, rfl, by decide, lays_0, Or.inl (gv_i2 72 rfl rfl), ⟨gf_y0, gf_ty0⟩, gf_nm0, rfl, by decide +kernel⟩
theorem lp_0_67 : gv_lkp "GuessFences" 67 0 8 .int := ⟨_, _, _, rfl, by decide, lays_0, Or.inl (gv_i2 69 rfl rfl), ⟨gf_y0, gf_ty0⟩, gf_nm0, rfl, by decide +kernel⟩
theorem lk_0_16 : gv_lk "GuessFences" 16 0 1 := ⟨_, _, _, rfl, by decide, lays_0, Or.inl (gv_i2 62 rfl rfl)⟩
theorem lp_0_205 : gv_lkp "GuessFences" 205 1 7 .int := ⟨_, _, _, rfl, by decide, lays_1, Or.inr ⟨"GuessFences", gv_i1 73 rfl rfl⟩, ⟨gf_y1, gf_ty1⟩, gf_nm1, rfl, by decide +kernel⟩
theorem lk_0_25 : gv_lk "GuessFences" 25 0 2 := ⟨_, _, _, rfl, by decide, lays_0, Or.inl (gv_i2 63 rfl rfl)⟩
theorem lk_0_32 : gv_lk "GuessFences" 32 0 3 := ⟨_, _, _, rfl, by decide, lays_0, Or.inl (gv_i2 64 rfl rfl)⟩
theorem lp_0_74 : gv_lkp "GuessFences" 74 0 10 .boolean := ⟨_, _, _, rfl, by decide, lays_0, Or.inl (gv_i2 71 rfl rfl), ⟨gf_y0, gf_ty0⟩, gf_nm0, rfl, by decide +kernel⟩
theorem lk_0_67 : gv_lk "GuessFences" 67 0 8 := ⟨_, _, _, rfl, by decide, lays_0, Or.inl (gv_i2 69 rfl rfl)⟩
theorem lk_0_70 : gv_lk "GuessFences" 70 0 9 := ⟨_, _, _, rfl, by decide, lays_0, Or.inl (gv_i2 70 rfl rfl)⟩
theorem lk_0_141 : gv_lk "GuessFences" 141 2 3 := ⟨_, _, _, rfl, by decide, lays_2, Or.inr ⟨"GuessFences", gv_i1 151 rfl rfl⟩⟩
theorem lk_0_189 : gv_lk "GuessFences" 189 2 4 := ⟨_, _, _, rfl, by decide, lays_2, Or.inr ⟨"GuessFences", gv_i1 153 rfl rfl⟩⟩
theorem lk_0_193 : gv_lk "GuessFences" 193 4 6 := ⟨_, _, _, rfl, by decide, lays_4, Or.inr ⟨"GuessFences", gv_i1 128 rfl rfl⟩⟩
theorem lk_0_135 : gv_lk "GuessFences" 135 2 6 := ⟨_, _, _, rfl, by decide, lays_2, Or.inr ⟨"GuessFences", gv_i1 156 rfl rfl⟩⟩
theorem lp_0_135 : gv_lkp "GuessFences" 135 2 6 .int := ⟨_, _, _, rfl, by decide, lays_2, Or.inr ⟨"GuessFences", gv_i1 156 rfl rfl⟩, ⟨gf_y2, gf_ty2⟩, gf_nm2, rfl, by decide +kernel⟩
theorem lk_0_41 : gv_lk "GuessFences" 41 0 4 := ⟨_, _, _, rfl, by decide, lays_0, Or.inl (gv_i2 65 rfl rfl)⟩
theorem lk_0_157 : gv_lk "GuessFences" 157 6 10 := ⟨_, _, _, rfl, by decide, lays_6, Or.inr ⟨"GuessFences", gv_i1 221 rfl rfl⟩⟩
theorem lk_0_74 : gv_lk "GuessFences" 74 0 10 := ⟨_, _, _, rfl, by decide, lays_0, Or.inl (gv_i2 71 rfl rfl)⟩
theorem lk_0_50 : gv_lk "GuessFences" 50 0 5 := ⟨_, _, _, rfl, by decide, lays_0, Or.inl (gv_i2 66 rfl rfl)⟩
theorem lk_0_167 : gv_lk "GuessFences" 167 6 2 := ⟨_, _, _, rfl, by decide, lays_6, Or.inr ⟨"GuessFences", gv_i1 208 rfl rfl⟩⟩
theorem lk_0_170 : gv_lk "GuessFences" 170 7 8 := ⟨_, _, _, rfl, by decide, lays_7, Or.inr ⟨"GuessFences", gv_i2 21 rfl rfl⟩⟩
theorem lk_0_59 : gv_lk "GuessFences" 59 0 6 := ⟨_, _, _, rfl, by decide, lays_0, Or.inl (gv_i2 67 rfl rfl)⟩
theorem lk_0_77 : gv_lk "GuessFences" 77 0 11 := ⟨_, _, _, rfl, by decide, lays_0, Or.inl (gv_i2 72 rfl rfl)⟩
theorem lk_0_180 : gv_lk "GuessFences" 180 8 3 := ⟨_, _, _, rfl, by decide, lays_8, Or.inr ⟨"GuessFences", gv_i2 51 rfl rfl⟩⟩
theorem lk_1_9 : gv_lk "GuessFences$Listing" 9 1 0 := ⟨_, _, _, rfl, by decide, lays_1, Or.inl (gv_i1 46 rfl rfl)⟩
theorem lk_1_15 : gv_lk "GuessFences$Listing" 15 1 1 := ⟨_, _, _, rfl, by decide, lays_1, Or.inl (gv_i1 52 rfl rfl)⟩
theorem lk_1_18 : gv_lk "GuessFences$Listing" 18 1 2 := ⟨_, _, _, rfl, by decide, lays_1, Or.inl (gv_i1 54 rfl rfl)⟩
theorem lk_1_21 : gv_lk "GuessFences$Listing" 21 1 3 := ⟨_, _, _, rfl, by decide, lays_1, Or.inl (gv_i1 58 rfl rfl)⟩
theorem lk_1_24 : gv_lk "GuessFences$Listing" 24 1 4 := ⟨_, _, _, rfl, by decide, lays_1, Or.inl (gv_i1 60 rfl rfl)⟩
theorem lk_1_27 : gv_lk "GuessFences$Listing" 27 1 5 := ⟨_, _, _, rfl, by decide, lays_1, Or.inl (gv_i1 62 rfl rfl)⟩
theorem lk_1_30 : gv_lk "GuessFences$Listing" 30 1 6 := ⟨_, _, _, rfl, by decide, lays_1, Or.inl (gv_i1 64 rfl rfl)⟩
theorem lk_1_33 : gv_lk "GuessFences$Listing" 33 1 7 := ⟨_, _, _, rfl, by decide, lays_1, Or.inl (gv_i1 67 rfl rfl)⟩
theorem lk_2_9 : gv_lk "GuessFences$Machine" 9 2 1 := ⟨_, _, _, rfl, by decide, lays_2, Or.inl (gv_i1 148 rfl rfl)⟩
theorem lk_2_15 : gv_lk "GuessFences$Machine" 15 2 2 := ⟨_, _, _, rfl, by decide, lays_2, Or.inl (gv_i1 149 rfl rfl)⟩
theorem lk_2_22 : gv_lk "GuessFences$Machine" 22 2 3 := ⟨_, _, _, rfl, by decide, lays_2, Or.inl (gv_i1 150 rfl rfl)⟩
theorem lk_2_29 : gv_lk "GuessFences$Machine" 29 2 4 := ⟨_, _, _, rfl, by decide, lays_2, Or.inl (gv_i1 152 rfl rfl)⟩
theorem lp_2_33 : gv_lkp "GuessFences$Machine" 33 2 5 .int := ⟨_, _, _, rfl, by decide, lays_2, Or.inl (gv_i1 154 rfl rfl), ⟨gf_y2, gf_ty2⟩, gf_nm2, rfl, by decide +kernel⟩
theorem lk_2_33 : gv_lk "GuessFences$Machine" 33 2 5 := ⟨_, _, _, rfl, by decide, lays_2, Or.inl (gv_i1 154 rfl rfl)⟩
theorem lk_2_40 : gv_lk "GuessFences$Machine" 40 2 0 := ⟨_, _, _, rfl, by decide, lays_2, Or.inl (gv_i1 147 rfl rfl)⟩
theorem lk_2_85 : gv_lk "GuessFences$Machine" 85 1 7 := ⟨_, _, _, rfl, by decide, lays_1, Or.inr ⟨"GuessFences", gv_i1 72 rfl rfl⟩⟩
theorem lk_2_90 : gv_lk "GuessFences$Machine" 90 1 0 := ⟨_, _, _, rfl, by decide, lays_1, Or.inr ⟨"GuessFences", gv_i1 51 rfl rfl⟩⟩
theorem lk_2_140 : gv_lk "GuessFences$Machine" 140 1 2 := ⟨_, _, _, rfl, by decide, lays_1, Or.inr ⟨"GuessFences", gv_i1 57 rfl rfl⟩⟩
theorem lk_2_143 : gv_lk "GuessFences$Machine" 143 1 5 := ⟨_, _, _, rfl, by decide, lays_1, Or.inr ⟨"GuessFences", gv_i1 63 rfl rfl⟩⟩
theorem lk_2_109 : gv_lk "GuessFences$Machine" 109 1 6 := ⟨_, _, _, rfl, by decide, lays_1, Or.inr ⟨"GuessFences", gv_i1 66 rfl rfl⟩⟩
theorem lk_2_158 : gv_lk "GuessFences$Machine" 158 1 3 := ⟨_, _, _, rfl, by decide, lays_1, Or.inr ⟨"GuessFences", gv_i1 59 rfl rfl⟩⟩
theorem lk_2_164 : gv_lk "GuessFences$Machine" 164 1 4 := ⟨_, _, _, rfl, by decide, lays_1, Or.inr ⟨"GuessFences", gv_i1 61 rfl rfl⟩⟩
theorem lk_2_171 : gv_lk "GuessFences$Machine" 171 1 1 := ⟨_, _, _, rfl, by decide, lays_1, Or.inr ⟨"GuessFences", gv_i1 53 rfl rfl⟩⟩
theorem lk_2_59 : gv_lk "GuessFences$Machine" 59 4 6 := ⟨_, _, _, rfl, by decide, lays_4, Or.inr ⟨"GuessFences", gv_i1 127 rfl rfl⟩⟩
theorem lk_2_37 : gv_lk "GuessFences$Machine" 37 2 6 := ⟨_, _, _, rfl, by decide, lays_2, Or.inl (gv_i1 155 rfl rfl)⟩
theorem lk_2_65 : gv_lk "GuessFences$Machine" 65 3 1 := ⟨_, _, _, rfl, by decide, lays_3, Or.inr ⟨"GuessFences", gv_i1 106 rfl rfl⟩⟩
theorem lk_3_15 : gv_lk "GuessFences$Leaks" 15 3 1 := ⟨_, _, _, rfl, by decide, lays_3, Or.inl (gv_i1 105 rfl rfl)⟩
theorem lp_3_15 : gv_lkp "GuessFences$Leaks" 15 3 1 .int := ⟨_, _, _, rfl, by decide, lays_3, Or.inl (gv_i1 105 rfl rfl), ⟨gf_y3, gf_ty3⟩, gf_nm3, rfl, by decide +kernel⟩
theorem lk_3_11 : gv_lk "GuessFences$Leaks" 11 3 0 := ⟨_, _, _, rfl, by decide, lays_3, Or.inl (gv_i1 104 rfl rfl)⟩
theorem lp_4_28 : gv_lkp "GuessFences$Guesses" 28 4 5 .int := ⟨_, _, _, rfl, by decide, lays_4, Or.inl (gv_i1 125 rfl rfl), ⟨gf_y4, gf_ty4⟩, gf_nm4, rfl, by decide +kernel⟩
theorem lp_4_32 : gv_lkp "GuessFences$Guesses" 32 4 6 .int := ⟨_, _, _, rfl, by decide, lays_4, Or.inl (gv_i1 126 rfl rfl), ⟨gf_y4, gf_ty4⟩, gf_nm4, rfl, by decide +kernel⟩
theorem lp_4_35 : gv_lkp "GuessFences$Guesses" 35 4 7 .int := ⟨_, _, _, rfl, by decide, lays_4, Or.inl (gv_i1 129 rfl rfl), ⟨gf_y4, gf_ty4⟩, gf_nm4, rfl, by decide +kernel⟩
theorem lk_4_32 : gv_lk "GuessFences$Guesses" 32 4 6 := ⟨_, _, _, rfl, by decide, lays_4, Or.inl (gv_i1 126 rfl rfl)⟩
theorem lk_4_35 : gv_lk "GuessFences$Guesses" 35 4 7 := ⟨_, _, _, rfl, by decide, lays_4, Or.inl (gv_i1 129 rfl rfl)⟩
theorem lk_4_25 : gv_lk "GuessFences$Guesses" 25 4 4 := ⟨_, _, _, rfl, by decide, lays_4, Or.inl (gv_i1 124 rfl rfl)⟩
theorem lk_4_28 : gv_lk "GuessFences$Guesses" 28 4 5 := ⟨_, _, _, rfl, by decide, lays_4, Or.inl (gv_i1 125 rfl rfl)⟩
theorem lk_4_19 : gv_lk "GuessFences$Guesses" 19 4 2 := ⟨_, _, _, rfl, by decide, lays_4, Or.inl (gv_i1 122 rfl rfl)⟩
theorem lk_4_22 : gv_lk "GuessFences$Guesses" 22 4 3 := ⟨_, _, _, rfl, by decide, lays_4, Or.inl (gv_i1 123 rfl rfl)⟩
theorem lk_4_11 : gv_lk "GuessFences$Guesses" 11 4 0 := ⟨_, _, _, rfl, by decide, lays_4, Or.inl (gv_i1 120 rfl rfl)⟩
theorem lk_4_15 : gv_lk "GuessFences$Guesses" 15 4 1 := ⟨_, _, _, rfl, by decide, lays_4, Or.inl (gv_i1 121 rfl rfl)⟩
theorem lk_5_15 : gv_lk "GuessFences$Reach" 15 5 2 := ⟨_, _, _, rfl, by decide, lays_5, Or.inl (gv_i1 180 rfl rfl)⟩
theorem lk_5_19 : gv_lk "GuessFences$Reach" 19 5 3 := ⟨_, _, _, rfl, by decide, lays_5, Or.inl (gv_i1 181 rfl rfl)⟩
theorem lk_5_9 : gv_lk "GuessFences$Reach" 9 5 1 := ⟨_, _, _, rfl, by decide, lays_5, Or.inl (gv_i1 179 rfl rfl)⟩
theorem lk_5_29 : gv_lk "GuessFences$Reach" 29 5 0 := ⟨_, _, _, rfl, by decide, lays_5, Or.inl (gv_i1 178 rfl rfl)⟩
theorem lk_5_42 : gv_lk "GuessFences$Reach" 42 1 2 := ⟨_, _, _, rfl, by decide, lays_1, Or.inr ⟨"GuessFences", gv_i1 56 rfl rfl⟩⟩
theorem lp_5_25 : gv_lkp "GuessFences$Reach" 25 5 5 .int := ⟨_, _, _, rfl, by decide, lays_5, Or.inl (gv_i1 183 rfl rfl), ⟨gf_y5, gf_ty5⟩, gf_nm5, rfl, by decide +kernel⟩
theorem lk_5_25 : gv_lk "GuessFences$Reach" 25 5 5 := ⟨_, _, _, rfl, by decide, lays_5, Or.inl (gv_i1 183 rfl rfl)⟩
theorem lk_5_22 : gv_lk "GuessFences$Reach" 22 5 4 := ⟨_, _, _, rfl, by decide, lays_5, Or.inl (gv_i1 182 rfl rfl)⟩
theorem lk_5_58 : gv_lk "GuessFences$Reach" 58 1 0 := ⟨_, _, _, rfl, by decide, lays_1, Or.inr ⟨"GuessFences", gv_i1 50 rfl rfl⟩⟩
theorem lk_5_71 : gv_lk "GuessFences$Reach" 71 1 7 := ⟨_, _, _, rfl, by decide, lays_1, Or.inr ⟨"GuessFences", gv_i1 70 rfl rfl⟩⟩
theorem lk_6_42 : gv_lk "GuessFences$Taint" 42 6 0 := ⟨_, _, _, rfl, by decide, lays_6, Or.inl (gv_i1 203 rfl rfl)⟩
theorem lk_6_56 : gv_lk "GuessFences$Taint" 56 1 7 := ⟨_, _, _, rfl, by decide, lays_1, Or.inr ⟨"GuessFences", gv_i1 69 rfl rfl⟩⟩
theorem lk_6_9 : gv_lk "GuessFences$Taint" 9 6 2 := ⟨_, _, _, rfl, by decide, lays_6, Or.inl (gv_i1 205 rfl rfl)⟩
theorem lk_6_61 : gv_lk "GuessFences$Taint" 61 1 0 := ⟨_, _, _, rfl, by decide, lays_1, Or.inr ⟨"GuessFences", gv_i1 47 rfl rfl⟩⟩
theorem lk_6_64 : gv_lk "GuessFences$Taint" 64 1 2 := ⟨_, _, _, rfl, by decide, lays_1, Or.inr ⟨"GuessFences", gv_i1 55 rfl rfl⟩⟩
theorem lk_6_36 : gv_lk "GuessFences$Taint" 36 6 9 := ⟨_, _, _, rfl, by decide, lays_6, Or.inl (gv_i1 217 rfl rfl)⟩
theorem lk_6_18 : gv_lk "GuessFences$Taint" 18 6 4 := ⟨_, _, _, rfl, by decide, lays_6, Or.inl (gv_i1 210 rfl rfl)⟩
theorem lp_6_32 : gv_lkp "GuessFences$Taint" 32 6 8 .int := ⟨_, _, _, rfl, by decide, lays_6, Or.inl (gv_i1 216 rfl rfl), ⟨gf_y6, gf_ty6⟩, gf_nm6, rfl, by decide +kernel⟩
theorem lp_6_36 : gv_lkp "GuessFences$Taint" 36 6 9 .int := ⟨_, _, _, rfl, by decide, lays_6, Or.inl (gv_i1 217 rfl rfl), ⟨gf_y6, gf_ty6⟩, gf_nm6, rfl, by decide +kernel⟩
theorem lp_6_39 : gv_lkp "GuessFences$Taint" 39 6 10 .int := ⟨_, _, _, rfl, by decide, lays_6, Or.inl (gv_i1 219 rfl rfl), ⟨gf_y6, gf_ty6⟩, gf_nm6, rfl, by decide +kernel⟩
theorem lk_6_25 : gv_lk "GuessFences$Taint" 25 6 6 := ⟨_, _, _, rfl, by decide, lays_6, Or.inl (gv_i1 214 rfl rfl)⟩
theorem lk_6_29 : gv_lk "GuessFences$Taint" 29 6 7 := ⟨_, _, _, rfl, by decide, lays_6, Or.inl (gv_i1 215 rfl rfl)⟩
theorem lk_6_21 : gv_lk "GuessFences$Taint" 21 6 5 := ⟨_, _, _, rfl, by decide, lays_6, Or.inl (gv_i1 212 rfl rfl)⟩
theorem lk_6_32 : gv_lk "GuessFences$Taint" 32 6 8 := ⟨_, _, _, rfl, by decide, lays_6, Or.inl (gv_i1 216 rfl rfl)⟩
theorem lk_6_15 : gv_lk "GuessFences$Taint" 15 6 3 := ⟨_, _, _, rfl, by decide, lays_6, Or.inl (gv_i1 209 rfl rfl)⟩
theorem lk_6_46 : gv_lk "GuessFences$Taint" 46 6 1 := ⟨_, _, _, rfl, by decide, lays_6, Or.inl (gv_i1 204 rfl rfl)⟩
theorem lk_6_39 : gv_lk "GuessFences$Taint" 39 6 10 := ⟨_, _, _, rfl, by decide, lays_6, Or.inl (gv_i1 219 rfl rfl)⟩
theorem lp_7_29 : gv_lkp "GuessFences$Cut" 29 7 8 .int := ⟨_, _, _, rfl, by decide, lays_7, Or.inl (gv_i2 20 rfl rfl), ⟨gf_y7, gf_ty7⟩, gf_nm7, rfl, by decide +kernel⟩
theorem lk_7_40 : gv_lk "GuessFences$Cut" 40 7 2 := ⟨_, _, _, rfl, by decide, lays_7, Or.inl (gv_i2 14 rfl rfl)⟩
theorem lk_7_44 : gv_lk "GuessFences$Cut" 44 6 10 := ⟨_, _, _, rfl, by decide, lays_6, Or.inr ⟨"GuessFences", gv_i1 220 rfl rfl⟩⟩
theorem lk_7_52 : gv_lk "GuessFences$Cut" 52 6 9 := ⟨_, _, _, rfl, by decide, lays_6, Or.inr ⟨"GuessFences", gv_i1 218 rfl rfl⟩⟩
theorem lk_7_55 : gv_lk "GuessFences$Cut" 55 6 4 := ⟨_, _, _, rfl, by decide, lays_6, Or.inr ⟨"GuessFences", gv_i1 211 rfl rfl⟩⟩
theorem lk_7_32 : gv_lk "GuessFences$Cut" 32 7 0 := ⟨_, _, _, rfl, by decide, lays_7, Or.inl (gv_i2 12 rfl rfl)⟩
theorem lk_7_57 : gv_lk "GuessFences$Cut" 57 1 0 := ⟨_, _, _, rfl, by decide, lays_1, Or.inr ⟨"GuessFences", gv_i1 48 rfl rfl⟩⟩
theorem lk_7_9 : gv_lk "GuessFences$Cut" 9 7 3 := ⟨_, _, _, rfl, by decide, lays_7, Or.inl (gv_i2 15 rfl rfl)⟩
theorem lk_7_15 : gv_lk "GuessFences$Cut" 15 7 4 := ⟨_, _, _, rfl, by decide, lays_7, Or.inl (gv_i2 16 rfl rfl)⟩
theorem lk_7_21 : gv_lk "GuessFences$Cut" 21 7 6 := ⟨_, _, _, rfl, by decide, lays_7, Or.inl (gv_i2 18 rfl rfl)⟩
theorem lp_7_25 : gv_lkp "GuessFences$Cut" 25 7 7 .int := ⟨_, _, _, rfl, by decide, lays_7, Or.inl (gv_i2 19 rfl rfl), ⟨gf_y7, gf_ty7⟩, gf_nm7, rfl, by decide +kernel⟩
theorem lk_7_25 : gv_lk "GuessFences$Cut" 25 7 7 := ⟨_, _, _, rfl, by decide, lays_7, Or.inl (gv_i2 19 rfl rfl)⟩
theorem lk_7_18 : gv_lk "GuessFences$Cut" 18 7 5 := ⟨_, _, _, rfl, by decide, lays_7, Or.inl (gv_i2 17 rfl rfl)⟩
theorem lk_7_95 : gv_lk "GuessFences$Cut" 95 6 5 := ⟨_, _, _, rfl, by decide, lays_6, Or.inr ⟨"GuessFences", gv_i1 213 rfl rfl⟩⟩
theorem lk_7_36 : gv_lk "GuessFences$Cut" 36 7 1 := ⟨_, _, _, rfl, by decide, lays_7, Or.inl (gv_i2 13 rfl rfl)⟩
theorem lk_7_111 : gv_lk "GuessFences$Cut" 111 1 7 := ⟨_, _, _, rfl, by decide, lays_1, Or.inr ⟨"GuessFences", gv_i1 71 rfl rfl⟩⟩
theorem lk_7_116 : gv_lk "GuessFences$Cut" 116 6 2 := ⟨_, _, _, rfl, by decide, lays_6, Or.inr ⟨"GuessFences", gv_i1 207 rfl rfl⟩⟩
theorem lk_7_29 : gv_lk "GuessFences$Cut" 29 7 8 := ⟨_, _, _, rfl, by decide, lays_7, Or.inl (gv_i2 20 rfl rfl)⟩
theorem lk_8_18 : gv_lk "GuessFences$Rewriter" 18 8 0 := ⟨_, _, _, rfl, by decide, lays_8, Or.inl (gv_i2 47 rfl rfl)⟩
theorem lk_8_26 : gv_lk "GuessFences$Rewriter" 26 1 7 := ⟨_, _, _, rfl, by decide, lays_1, Or.inr ⟨"GuessFences", gv_i1 68 rfl rfl⟩⟩
theorem lk_8_9 : gv_lk "GuessFences$Rewriter" 9 8 2 := ⟨_, _, _, rfl, by decide, lays_8, Or.inl (gv_i2 49 rfl rfl)⟩
theorem lk_8_36 : gv_lk "GuessFences$Rewriter" 36 1 0 := ⟨_, _, _, rfl, by decide, lays_1, Or.inr ⟨"GuessFences", gv_i1 49 rfl rfl⟩⟩
theorem lk_8_22 : gv_lk "GuessFences$Rewriter" 22 8 1 := ⟨_, _, _, rfl, by decide, lays_8, Or.inl (gv_i2 48 rfl rfl)⟩
theorem lk_8_53 : gv_lk "GuessFences$Rewriter" 53 6 2 := ⟨_, _, _, rfl, by decide, lays_6, Or.inr ⟨"GuessFences", gv_i1 206 rfl rfl⟩⟩
theorem lk_8_58 : gv_lk "GuessFences$Rewriter" 58 1 6 := ⟨_, _, _, rfl, by decide, lays_1, Or.inr ⟨"GuessFences", gv_i1 65 rfl rfl⟩⟩
theorem lk_8_15 : gv_lk "GuessFences$Rewriter" 15 8 3 := ⟨_, _, _, rfl, by decide, lays_8, Or.inl (gv_i2 50 rfl rfl)⟩
theorem lk_9_92 : gv_lk "GuessFencesModel" 92 9 0 := ⟨_, _, _, rfl, by decide, lays_9, Or.inl (gv_i6 122 rfl rfl)⟩
theorem lp_9_92 : gv_lkp "GuessFencesModel" 92 9 0 .int := ⟨_, _, _, rfl, by decide, lays_9, Or.inl (gv_i6 122 rfl rfl), ⟨gf_y9, gf_ty9⟩, gf_nm9, rfl, by decide +kernel⟩
theorem lk_9_102 : gv_lk "GuessFencesModel" 102 9 2 := ⟨_, _, _, rfl, by decide, lays_9, Or.inl (gv_i6 124 rfl rfl)⟩
theorem lk_9_7 : gv_lk "GuessFencesModel" 7 9 1 := ⟨_, _, _, rfl, by decide, lays_9, Or.inl (gv_i6 123 rfl rfl)⟩
theorem lp_9_102 : gv_lkp "GuessFencesModel" 102 9 2 .int := ⟨_, _, _, rfl, by decide, lays_9, Or.inl (gv_i6 124 rfl rfl), ⟨gf_y9, gf_ty9⟩, gf_nm9, rfl, by decide +kernel⟩
theorem lp_9_95 : gv_lkp "GuessFencesModel" 95 9 5 .boolean := ⟨_, _, _, rfl, by decide, lays_9, Or.inl (gv_i6 127 rfl rfl), ⟨gf_y9, gf_ty9⟩, gf_nm9, rfl, by decide +kernel⟩
theorem lp_9_99 : gv_lkp "GuessFencesModel" 99 9 4 .boolean := ⟨_, _, _, rfl, by decide, lays_9, Or.inl (gv_i6 126 rfl rfl), ⟨gf_y9, gf_ty9⟩, gf_nm9, rfl, by decide +kernel⟩
theorem lp_9_16 : gv_lkp "GuessFencesModel" 16 9 6 .int := ⟨_, _, _, rfl, by decide, lays_9, Or.inl (gv_i6 128 rfl rfl), ⟨gf_y9, gf_ty9⟩, gf_nm9, rfl, by decide +kernel⟩
theorem lp_9_142 : gv_lkp "GuessFencesModel" 142 9 20 .boolean := ⟨_, _, _, rfl, by decide, lays_9, Or.inl (gv_i6 142 rfl rfl), ⟨gf_y9, gf_ty9⟩, gf_nm9, rfl, by decide +kernel⟩
theorem lp_9_145 : gv_lkp "GuessFencesModel" 145 9 7 .int := ⟨_, _, _, rfl, by decide, lays_9, Or.inl (gv_i6 129 rfl rfl), ⟨gf_y9, gf_ty9⟩, gf_nm9, rfl, by decide +kernel⟩
theorem lp_9_148 : gv_lkp "GuessFencesModel" 148 9 11 .int := ⟨_, _, _, rfl, by decide, lays_9, Or.inl (gv_i6 133 rfl rfl), ⟨gf_y9, gf_ty9⟩, gf_nm9, rfl, by decide +kernel⟩
theorem lp_9_151 : gv_lkp "GuessFencesModel" 151 9 18 .int := ⟨_, _, _, rfl, by decide, lays_9, Or.inl (gv_i6 140 rfl rfl), ⟨gf_y9, gf_ty9⟩, gf_nm9, rfl, by decide +kernel⟩
theorem lp_9_154 : gv_lkp "GuessFencesModel" 154 9 19 .int := ⟨_, _, _, rfl, by decide, lays_9, Or.inl (gv_i6 141 rfl rfl), ⟨gf_y9, gf_ty9⟩, gf_nm9, rfl, by decide +kernel⟩
theorem lk_9_20 : gv_lk "GuessFencesModel" 20 9 8 := ⟨_, _, _, rfl, by decide, lays_9, Or.inl (gv_i6 130 rfl rfl)⟩
theorem lk_9_23 : gv_lk "GuessFencesModel" 23 9 9 := ⟨_, _, _, rfl, by decide, lays_9, Or.inl (gv_i6 131 rfl rfl)⟩
theorem lk_9_16 : gv_lk "GuessFencesModel" 16 9 6 := ⟨_, _, _, rfl, by decide, lays_9, Or.inl (gv_i6 128 rfl rfl)⟩
theorem lk_9_95 : gv_lk "GuessFencesModel" 95 9 5 := ⟨_, _, _, rfl, by decide, lays_9, Or.inl (gv_i6 127 rfl rfl)⟩
theorem lk_9_151 : gv_lk "GuessFencesModel" 151 9 18 := ⟨_, _, _, rfl, by decide, lays_9, Or.inl (gv_i6 140 rfl rfl)⟩
theorem lk_9_145 : gv_lk "GuessFencesModel" 145 9 7 := ⟨_, _, _, rfl, by decide, lays_9, Or.inl (gv_i6 129 rfl rfl)⟩
theorem lk_9_148 : gv_lk "GuessFencesModel" 148 9 11 := ⟨_, _, _, rfl, by decide, lays_9, Or.inl (gv_i6 133 rfl rfl)⟩
theorem lk_9_26 : gv_lk "GuessFencesModel" 26 9 10 := ⟨_, _, _, rfl, by decide, lays_9, Or.inl (gv_i6 132 rfl rfl)⟩
theorem lk_9_154 : gv_lk "GuessFencesModel" 154 9 19 := ⟨_, _, _, rfl, by decide, lays_9, Or.inl (gv_i6 141 rfl rfl)⟩
theorem lk_9_39 : gv_lk "GuessFencesModel" 39 9 15 := ⟨_, _, _, rfl, by decide, lays_9, Or.inl (gv_i6 137 rfl rfl)⟩
theorem lk_9_33 : gv_lk "GuessFencesModel" 33 9 13 := ⟨_, _, _, rfl, by decide, lays_9, Or.inl (gv_i6 135 rfl rfl)⟩
theorem lk_9_42 : gv_lk "GuessFencesModel" 42 9 16 := ⟨_, _, _, rfl, by decide, lays_9, Or.inl (gv_i6 138 rfl rfl)⟩
theorem lk_9_36 : gv_lk "GuessFencesModel" 36 9 14 := ⟨_, _, _, rfl, by decide, lays_9, Or.inl (gv_i6 136 rfl rfl)⟩
theorem lk_9_45 : gv_lk "GuessFencesModel" 45 9 17 := ⟨_, _, _, rfl, by decide, lays_9, Or.inl (gv_i6 139 rfl rfl)⟩
theorem lk_9_30 : gv_lk "GuessFencesModel" 30 9 12 := ⟨_, _, _, rfl, by decide, lays_9, Or.inl (gv_i6 134 rfl rfl)⟩
theorem lp_9_30 : gv_lkp "GuessFencesModel" 30 9 12 .int := ⟨_, _, _, rfl, by decide, lays_9, Or.inl (gv_i6 134 rfl rfl), ⟨gf_y9, gf_ty9⟩, gf_nm9, rfl, by decide +kernel⟩
theorem lk_9_256 : gv_lk "GuessFencesModel" 256 9 27 := ⟨_, _, _, rfl, by decide, lays_9, Or.inl (gv_i6 149 rfl rfl)⟩
theorem lk_9_142 : gv_lk "GuessFencesModel" 142 9 20 := ⟨_, _, _, rfl, by decide, lays_9, Or.inl (gv_i6 142 rfl rfl)⟩
theorem lk_9_83 : gv_lk "GuessFencesModel" 83 9 34 := ⟨_, _, _, rfl, by decide, lays_9, Or.inl (gv_i6 156 rfl rfl)⟩
theorem lp_9_235 : gv_lkp "GuessFencesModel" 235 9 37 .int := ⟨_, _, _, rfl, by decide, lays_9, Or.inl (gv_i6 159 rfl rfl), ⟨gf_y9, gf_ty9⟩, gf_nm9, rfl, by decide +kernel⟩
theorem lk_9_235 : gv_lk "GuessFencesModel" 235 9 37 := ⟨_, _, _, rfl, by decide, lays_9, Or.inl (gv_i6 159 rfl rfl)⟩
theorem lk_9_80 : gv_lk "GuessFencesModel" 80 9 33 := ⟨_, _, _, rfl, by decide, lays_9, Or.inl (gv_i6 155 rfl rfl)⟩
theorem lk_9_48 : gv_lk "GuessFencesModel" 48 9 21 := ⟨_, _, _, rfl, by decide, lays_9, Or.inl (gv_i6 143 rfl rfl)⟩
theorem lk_9_65 : gv_lk "GuessFencesModel" 65 9 28 := ⟨_, _, _, rfl, by decide, lays_9, Or.inl (gv_i6 150 rfl rfl)⟩
theorem lk_9_52 : gv_lk "GuessFencesModel" 52 9 22 := ⟨_, _, _, rfl, by decide, lays_9, Or.inl (gv_i6 144 rfl rfl)⟩
theorem lp_9_256 : gv_lkp "GuessFencesModel" 256 9 27 .int := ⟨_, _, _, rfl, by decide, lays_9, Or.inl (gv_i6 149 rfl rfl), ⟨gf_y9, gf_ty9⟩, gf_nm9, rfl, by decide +kernel⟩
theorem lk_9_55 : gv_lk "GuessFencesModel" 55 9 23 := ⟨_, _, _, rfl, by decide, lays_9, Or.inl (gv_i6 145 rfl rfl)⟩
theorem lk_9_58 : gv_lk "GuessFencesModel" 58 9 24 := ⟨_, _, _, rfl, by decide, lays_9, Or.inl (gv_i6 146 rfl rfl)⟩
theorem lk_9_71 : gv_lk "GuessFencesModel" 71 9 30 := ⟨_, _, _, rfl, by decide, lays_9, Or.inl (gv_i6 152 rfl rfl)⟩
theorem lk_9_74 : gv_lk "GuessFencesModel" 74 9 31 := ⟨_, _, _, rfl, by decide, lays_9, Or.inl (gv_i6 153 rfl rfl)⟩
theorem lk_9_68 : gv_lk "GuessFencesModel" 68 9 29 := ⟨_, _, _, rfl, by decide, lays_9, Or.inl (gv_i6 151 rfl rfl)⟩
theorem lp_9_278 : gv_lkp "GuessFencesModel" 278 9 26 .int := ⟨_, _, _, rfl, by decide, lays_9, Or.inl (gv_i6 148 rfl rfl), ⟨gf_y9, gf_ty9⟩, gf_nm9, rfl, by decide +kernel⟩
theorem lk_9_61 : gv_lk "GuessFencesModel" 61 9 25 := ⟨_, _, _, rfl, by decide, lays_9, Or.inl (gv_i6 147 rfl rfl)⟩
theorem lk_9_77 : gv_lk "GuessFencesModel" 77 9 32 := ⟨_, _, _, rfl, by decide, lays_9, Or.inl (gv_i6 154 rfl rfl)⟩
theorem lk_9_278 : gv_lk "GuessFencesModel" 278 9 26 := ⟨_, _, _, rfl, by decide, lays_9, Or.inl (gv_i6 148 rfl rfl)⟩
theorem lk_9_89 : gv_lk "GuessFencesModel" 89 9 36 := ⟨_, _, _, rfl, by decide, lays_9, Or.inl (gv_i6 158 rfl rfl)⟩
theorem lk_9_86 : gv_lk "GuessFencesModel" 86 9 35 := ⟨_, _, _, rfl, by decide, lays_9, Or.inl (gv_i6 157 rfl rfl)⟩
theorem lk_9_13 : gv_lk "GuessFencesModel" 13 9 3 := ⟨_, _, _, rfl, by decide, lays_9, Or.inl (gv_i6 125 rfl rfl)⟩
theorem lk_9_99 : gv_lk "GuessFencesModel" 99 9 4 := ⟨_, _, _, rfl, by decide, lays_9, Or.inl (gv_i6 126 rfl rfl)⟩
theorem ml_0_80 : Cond.methodLink "GuessFences" 80 ⟨"GuessFences", "noteNewWords", "()V"⟩ ∈ gv_ws := gv_i2 102 rfl rfl
theorem ml_0_88 : Cond.methodLink "GuessFences" 88 ⟨"GuessFences", "hasWord", "(I)Z"⟩ ∈ gv_ws := gv_i2 114 rfl rfl
theorem ml_0_96 : Cond.methodLink "GuessFences" 96 ⟨"GuessFences", "takeUp", "()I"⟩ ∈ gv_ws := gv_i2 124 rfl rfl
theorem ml_0_198 : Cond.methodLink "GuessFences" 198 ⟨"GuessFences$Word", "fault", "(III)I"⟩ ∈ gv_ws := gv_i2 128 rfl rfl
theorem ml_0_204 : Cond.methodLink "GuessFences" 204 ⟨"GuessFences$Listing", "put", "(II)V"⟩ ∈ gv_ws := gv_i2 165 rfl rfl
theorem ml_0_206 : Cond.methodLink "GuessFences" 206 ⟨"GuessFences$Machine", "begin", "()V"⟩ ∈ gv_ws := gv_i2 192 rfl rfl
theorem ml_0_209 : Cond.methodLink "GuessFences" 209 ⟨"GuessFences$Reach", "dropRows", "()V"⟩ ∈ gv_ws := gv_i2 210 rfl rfl
theorem ml_0_145 : Cond.methodLink "GuessFences" 145 ⟨"GuessFences$Leaks", "pair", "(I)J"⟩ ∈ gv_ws := gv_i2 223 rfl rfl
theorem ml_0_100 : Cond.methodLink "GuessFences" 100 ⟨"GuessFences", "needLoaded", "()V"⟩ ∈ gv_ws := gv_i3 71 rfl rfl
theorem ml_0_103 : Cond.methodLink "GuessFences" 103 ⟨"GuessFences", "needWord", "(I)V"⟩ ∈ gv_ws := gv_i3 90 rfl rfl
theorem ml_0_107 : Cond.methodLink "GuessFences" 107 ⟨"GuessFences$Listing", "part", "(II)I"⟩ ∈ gv_ws := gv_i3 109 rfl rfl
theorem ml_0_111 : Cond.methodLink "GuessFences" 111 ⟨"GuessFences", "needAllResolved", "()V"⟩ ∈ gv_ws := gv_i3 120 rfl rfl
theorem ml_0_114 : Cond.methodLink "GuessFences" 114 ⟨"GuessFences$Machine", "put", "(II)V"⟩ ∈ gv_ws := gv_i3 124 rfl rfl
theorem ml_0_118 : Cond.methodLink "GuessFences" 118 ⟨"GuessFences$Machine", "value", "(I)I"⟩ ∈ gv_ws := gv_i3 135 rfl rfl
theorem ml_0_122 : Cond.methodLink "GuessFences" 122 ⟨"GuessFences$Machine", "write", "(III)V"⟩ ∈ gv_ws := gv_i3 146 rfl rfl
theorem ml_0_126 : Cond.methodLink "GuessFences" 126 ⟨"GuessFences$Machine", "read", "(II)I"⟩ ∈ gv_ws := gv_i3 157 rfl rfl
theorem ml_0_129 : Cond.methodLink "GuessFences" 129 ⟨"GuessFences$Machine", "runInOrder", "(I)I"⟩ ∈ gv_ws := gv_i3 168 rfl rfl
theorem ml_0_132 : Cond.methodLink "GuessFences" 132 ⟨"GuessFences$Machine", "obey", "(I)I"⟩ ∈ gv_ws := gv_i4 8 rfl rfl
theorem ml_0_138 : Cond.methodLink "GuessFences" 138 ⟨"GuessFences$Machine", "figure", "(I)I"⟩ ∈ gv_ws := gv_i4 82 rfl rfl
theorem ml_0_151 : Cond.methodLink "GuessFences" 151 ⟨"GuessFences$Leaks", "drop", "()I"⟩ ∈ gv_ws := gv_i4 93 rfl rfl
theorem ml_0_154 : Cond.methodLink "GuessFences" 154 ⟨"GuessFences", "study", "()V"⟩ ∈ gv_ws := gv_i4 101 rfl rfl
theorem ml_0_212 : Cond.methodLink "GuessFences" 212 ⟨"GuessFences$Taint", "spread", "()V"⟩ ∈ gv_ws := gv_i4 105 rfl rfl
theorem ml_0_215 : Cond.methodLink "GuessFences" 215 ⟨"GuessFences$Cut", "find", "()V"⟩ ∈ gv_ws := gv_i5 236 rfl rfl
theorem ml_0_160 : Cond.methodLink "GuessFences" 160 ⟨"GuessFences$Reach", "trace", "(I)V"⟩ ∈ gv_ws := gv_i6 51 rfl rfl
theorem ml_0_163 : Cond.methodLink "GuessFences" 163 ⟨"GuessFences$Reach", "has", "(II)Z"⟩ ∈ gv_ws := gv_i6 52 rfl rfl
theorem ml_0_173 : Cond.methodLink "GuessFences" 173 ⟨"GuessFences$Rewriter", "plan", "(I)Z"⟩ ∈ gv_ws := gv_i6 77 rfl rfl
theorem ml_0_176 : Cond.methodLink "GuessFences" 176 ⟨"GuessFences$Rewriter", "writeOver", "([I)I"⟩ ∈ gv_ws := gv_i6 92 rfl rfl
theorem ml_1_37 : Cond.methodLink "GuessFences$Listing" 37 ⟨"GuessFences$Word", "kind", "(I)I"⟩ ∈ gv_ws := gv_i2 169 rfl rfl
theorem ml_1_42 : Cond.methodLink "GuessFences$Listing" 42 ⟨"GuessFences$Listing", "operationOf", "(II)I"⟩ ∈ gv_ws := gv_i2 170 rfl rfl
theorem ml_1_46 : Cond.methodLink "GuessFences$Listing" 46 ⟨"GuessFences$Word", "d", "(I)I"⟩ ∈ gv_ws := gv_i2 175 rfl rfl
theorem ml_1_49 : Cond.methodLink "GuessFences$Listing" 49 ⟨"GuessFences$Word", "a", "(I)I"⟩ ∈ gv_ws := gv_i2 176 rfl rfl
theorem ml_1_52 : Cond.methodLink "GuessFences$Listing" 52 ⟨"GuessFences$Word", "b", "(I)I"⟩ ∈ gv_ws := gv_i2 179 rfl rfl
theorem ml_1_55 : Cond.methodLink "GuessFences$Listing" 55 ⟨"GuessFences$Listing", "numberOf", "(II)I"⟩ ∈ gv_ws := gv_i2 182 rfl rfl
theorem ml_1_58 : Cond.methodLink "GuessFences$Listing" 58 ⟨"GuessFences$Word", "offset", "(I)I"⟩ ∈ gv_ws := gv_i2 191 rfl rfl
theorem ml_1_61 : Cond.methodLink "GuessFences$Listing" 61 ⟨"GuessFences$Word", "f", "(I)I"⟩ ∈ gv_ws := gv_i2 173 rfl rfl
theorem ml_1_64 : Cond.methodLink "GuessFences$Listing" 64 ⟨"GuessFences$Word", "g", "(I)I"⟩ ∈ gv_ws := gv_i2 174 rfl rfl
theorem ml_1_69 : Cond.methodLink "GuessFences$Listing" 69 ⟨"GuessFences$Word", "i", "(I)I"⟩ ∈ gv_ws := gv_i2 185 rfl rfl
theorem ml_1_72 : Cond.methodLink "GuessFences$Listing" 72 ⟨"GuessFences$Word", "storeNumber", "(I)I"⟩ ∈ gv_ws := gv_i2 188 rfl rfl
theorem ml_1_75 : Cond.methodLink "GuessFences$Listing" 75 ⟨"GuessFences$Arithmetic", "divides", "(I)Z"⟩ ∈ gv_ws := gv_i3 193 rfl rfl
theorem ml_1_79 : Cond.methodLink "GuessFences$Listing" 79 ⟨"GuessFences$Listing", "isDivision", "(I)Z"⟩ ∈ gv_ws := gv_i5 230 rfl rfl
theorem ml_1_82 : Cond.methodLink "GuessFences$Listing" 82 ⟨"GuessFences$Listing", "uses", "(II)Z"⟩ ∈ gv_ws := gv_i5 231 rfl rfl
theorem ml_2_44 : Cond.methodLink "GuessFences$Machine" 44 ⟨"java/util/Arrays", "fill", "([II)V"⟩ ∈ gv_ws := gv_i2 196 rfl rfl
theorem ml_2_50 : Cond.methodLink "GuessFences$Machine" 50 ⟨"java/util/Arrays", "fill", "([BB)V"⟩ ∈ gv_ws := gv_i2 199 rfl rfl
theorem ml_2_53 : Cond.methodLink "GuessFences$Machine" 53 ⟨"GuessFences$Leaks", "drop", "()I"⟩ ∈ gv_ws := gv_i2 202 rfl rfl
theorem ml_2_57 : Cond.methodLink "GuessFences$Machine" 57 ⟨"GuessFences$Guesses", "drop", "()V"⟩ ∈ gv_ws := gv_i2 206 rfl rfl
theorem ml_2_68 : Cond.methodLink "GuessFences$Machine" 68 ⟨"GuessFences$Machine", "canRun", "()Z"⟩ ∈ gv_ws := gv_i3 172 rfl rfl
theorem ml_2_72 : Cond.methodLink "GuessFences$Machine" 72 ⟨"GuessFences$Machine", "step", "()V"⟩ ∈ gv_ws := gv_i3 180 rfl rfl
theorem ml_2_93 : Cond.methodLink "GuessFences$Machine" 93 ⟨"GuessFences$Leaks", "hasRoom", "()Z"⟩ ∈ gv_ws := gv_i3 176 rfl rfl
theorem ml_2_136 : Cond.methodLink "GuessFences$Machine" 136 ⟨"GuessFences$Machine", "compute", "(I)V"⟩ ∈ gv_ws := gv_i3 184 rfl rfl
theorem ml_2_146 : Cond.methodLink "GuessFences$Machine" 146 ⟨"GuessFences$Machine", "put", "(II)V"⟩ ∈ gv_ws := gv_i3 215 rfl rfl
theorem ml_2_149 : Cond.methodLink "GuessFences$Machine" 149 ⟨"GuessFences$Machine", "fetch", "(I)V"⟩ ∈ gv_ws := gv_i3 216 rfl rfl
theorem ml_2_152 : Cond.methodLink "GuessFences$Machine" 152 ⟨"GuessFences$Machine", "keep", "(I)V"⟩ ∈ gv_ws := gv_i3 225 rfl rfl
theorem ml_2_112 : Cond.methodLink "GuessFences$Machine" 112 ⟨"GuessFences$Machine", "branchDestination", "(I)I"⟩ ∈ gv_ws := gv_i3 230 rfl rfl
theorem ml_2_155 : Cond.methodLink "GuessFences$Machine" 155 ⟨"GuessFences$Machine", "goTo", "(I)V"⟩ ∈ gv_ws := gv_i3 237 rfl rfl
theorem ml_2_161 : Cond.methodLink "GuessFences$Machine" 161 ⟨"GuessFences$Machine", "value", "(I)I"⟩ ∈ gv_ws := gv_i3 188 rfl rfl
theorem ml_2_167 : Cond.methodLink "GuessFences$Machine" 167 ⟨"GuessFences$Listing", "isDivision", "(I)Z"⟩ ∈ gv_ws := gv_i3 189 rfl rfl
theorem ml_2_123 : Cond.methodLink "GuessFences$Machine" 123 ⟨"GuessFences$Leaks", "add", "(II)V"⟩ ∈ gv_ws := gv_i3 196 rfl rfl
theorem ml_2_174 : Cond.methodLink "GuessFences$Machine" 174 ⟨"GuessFences$Arithmetic", "answer", "(III)I"⟩ ∈ gv_ws := gv_i3 201 rfl rfl
theorem ml_2_180 : Cond.methodLink "GuessFences$Machine" 180 ⟨"GuessFences$Machine", "addressOf", "(I)I"⟩ ∈ gv_ws := gv_i3 220 rfl rfl
theorem ml_2_183 : Cond.methodLink "GuessFences$Machine" 183 ⟨"GuessFences$Machine", "read", "(II)I"⟩ ∈ gv_ws := gv_i3 224 rfl rfl
theorem ml_2_187 : Cond.methodLink "GuessFences$Machine" 187 ⟨"GuessFences$Machine", "write", "(III)V"⟩ ∈ gv_ws := gv_i3 229 rfl rfl
theorem ml_2_191 : Cond.methodLink "GuessFences$Machine" 191 ⟨"GuessFences$Arithmetic", "holds", "(III)Z"⟩ ∈ gv_ws := gv_i3 234 rfl rfl
theorem ml_2_75 : Cond.methodLink "GuessFences$Machine" 75 ⟨"GuessFences$Machine", "runAhead", "()I"⟩ ∈ gv_ws := gv_i4 12 rfl rfl
theorem ml_2_78 : Cond.methodLink "GuessFences$Machine" 78 ⟨"GuessFences$Machine", "guess", "(Z)I"⟩ ∈ gv_ws := gv_i4 32 rfl rfl
theorem ml_2_82 : Cond.methodLink "GuessFences$Machine" 82 ⟨"GuessFences$Machine", "resolve", "()I"⟩ ∈ gv_ws := gv_i4 47 rfl rfl
theorem ml_2_96 : Cond.methodLink "GuessFences$Machine" 96 ⟨"GuessFences$Listing", "isAt", "(II)Z"⟩ ∈ gv_ws := gv_i4 16 rfl rfl
theorem ml_2_100 : Cond.methodLink "GuessFences$Machine" 100 ⟨"GuessFences$Machine", "windowIsFull", "()Z"⟩ ∈ gv_ws := gv_i4 20 rfl rfl
theorem ml_2_103 : Cond.methodLink "GuessFences$Machine" 103 ⟨"GuessFences$Guesses", "countStep", "()V"⟩ ∈ gv_ws := gv_i4 28 rfl rfl
theorem ml_2_62 : Cond.methodLink "GuessFences$Machine" 62 ⟨"GuessFences$Guesses", "distance", "()I"⟩ ∈ gv_ws := gv_i4 24 rfl rfl
theorem ml_2_106 : Cond.methodLink "GuessFences$Machine" 106 ⟨"GuessFences$Guesses", "isFull", "()Z"⟩ ∈ gv_ws := gv_i4 36 rfl rfl
theorem ml_2_116 : Cond.methodLink "GuessFences$Machine" 116 ⟨"GuessFences$Guesses", "add", "(II[I[B)V"⟩ ∈ gv_ws := gv_i4 40 rfl rfl
theorem ml_2_120 : Cond.methodLink "GuessFences$Machine" 120 ⟨"GuessFences$Guesses", "oldestOught", "()I"⟩ ∈ gv_ws := gv_i4 51 rfl rfl
theorem ml_2_126 : Cond.methodLink "GuessFences$Machine" 126 ⟨"GuessFences$Guesses", "oldestIsRight", "()Z"⟩ ∈ gv_ws := gv_i4 55 rfl rfl
theorem ml_2_129 : Cond.methodLink "GuessFences$Machine" 129 ⟨"GuessFences$Guesses", "closeOldest", "()V"⟩ ∈ gv_ws := gv_i4 59 rfl rfl
theorem ml_2_132 : Cond.methodLink "GuessFences$Machine" 132 ⟨"GuessFences$Guesses", "rollBack", "([I[B)V"⟩ ∈ gv_ws := gv_i4 63 rfl rfl
theorem ml_4_44 : Cond.methodLink "GuessFences$Guesses" 44 ⟨"GuessFences$Guesses", "drop", "()V"⟩ ∈ gv_ws := gv_i4 67 rfl rfl
theorem ml_5_33 : Cond.methodLink "GuessFences$Reach" 33 ⟨"java/util/Arrays", "fill", "([II)V"⟩ ∈ gv_ws := gv_i2 214 rfl rfl
theorem ml_5_39 : Cond.methodLink "GuessFences$Reach" 39 ⟨"java/util/Arrays", "fill", "([JIIJ)V"⟩ ∈ gv_ws := gv_i4 154 rfl rfl
theorem ml_5_47 : Cond.methodLink "GuessFences$Reach" 47 ⟨"GuessFences$Reach", "follow", "(II)V"⟩ ∈ gv_ws := gv_i5 193 rfl rfl
theorem ml_5_51 : Cond.methodLink "GuessFences$Reach" 51 ⟨"GuessFences$Reach", "addNexts", "(II)V"⟩ ∈ gv_ws := gv_i5 197 rfl rfl
theorem ml_5_54 : Cond.methodLink "GuessFences$Reach" 54 ⟨"GuessFences$Listing", "uses", "(II)Z"⟩ ∈ gv_ws := gv_i5 207 rfl rfl
theorem ml_5_61 : Cond.methodLink "GuessFences$Reach" 61 ⟨"GuessFences$Listing", "nextBehind", "(I)I"⟩ ∈ gv_ws := gv_i5 201 rfl rfl
theorem ml_5_65 : Cond.methodLink "GuessFences$Reach" 65 ⟨"GuessFences$Reach", "addOnce", "(II)V"⟩ ∈ gv_ws := gv_i5 202 rfl rfl
theorem ml_5_68 : Cond.methodLink "GuessFences$Reach" 68 ⟨"GuessFences$Listing", "nextAside", "(I)I"⟩ ∈ gv_ws := gv_i5 206 rfl rfl
theorem ml_5_74 : Cond.methodLink "GuessFences$Reach" 74 ⟨"java/lang/Long", "bitCount", "(J)I"⟩ ∈ gv_ws := gv_i5 215 rfl rfl
theorem ml_6_50 : Cond.methodLink "GuessFences$Taint" 50 ⟨"GuessFences$Taint", "prepare", "()V"⟩ ∈ gv_ws := gv_i4 109 rfl rfl
theorem ml_6_53 : Cond.methodLink "GuessFences$Taint" 53 ⟨"GuessFences$Taint", "markGuessed", "()V"⟩ ∈ gv_ws := gv_i4 122 rfl rfl
theorem ml_6_67 : Cond.methodLink "GuessFences$Taint" 67 ⟨"GuessFences$Taint", "addResult", "(I)V"⟩ ∈ gv_ws := gv_i4 142 rfl rfl
theorem ml_6_71 : Cond.methodLink "GuessFences$Taint" 71 ⟨"GuessFences$Taint", "passOn", "(I)V"⟩ ∈ gv_ws := gv_i4 146 rfl rfl
theorem ml_6_74 : Cond.methodLink "GuessFences$Taint" 74 ⟨"GuessFences$Taint", "expose", "(I)V"⟩ ∈ gv_ws := gv_i5 222 rfl rfl
theorem ml_6_77 : Cond.methodLink "GuessFences$Taint" 77 ⟨"java/util/Arrays", "fill", "([II)V"⟩ ∈ gv_ws := gv_i4 113 rfl rfl
theorem ml_6_83 : Cond.methodLink "GuessFences$Taint" 83 ⟨"java/util/Arrays", "fill", "([JJ)V"⟩ ∈ gv_ws := gv_i4 114 rfl rfl
theorem ml_6_86 : Cond.methodLink "GuessFences$Taint" 86 ⟨"GuessFences$Listing", "isDivision", "(I)Z"⟩ ∈ gv_ws := gv_i4 117 rfl rfl
theorem ml_6_90 : Cond.methodLink "GuessFences$Taint" 90 ⟨"GuessFences$Listing", "handsOn", "(I)Z"⟩ ∈ gv_ws := gv_i4 118 rfl rfl
theorem ml_6_93 : Cond.methodLink "GuessFences$Taint" 93 ⟨"GuessFences$Taint", "addGuessedNexts", "(I)V"⟩ ∈ gv_ws := gv_i4 126 rfl rfl
theorem ml_6_96 : Cond.methodLink "GuessFences$Taint" 96 ⟨"GuessFences$Listing", "nextBehind", "(I)I"⟩ ∈ gv_ws := gv_i4 130 rfl rfl
theorem ml_6_100 : Cond.methodLink "GuessFences$Taint" 100 ⟨"GuessFences$Taint", "addGuessed", "(I)V"⟩ ∈ gv_ws := gv_i4 134 rfl rfl
theorem ml_6_103 : Cond.methodLink "GuessFences$Taint" 103 ⟨"GuessFences$Listing", "nextAside", "(I)I"⟩ ∈ gv_ws := gv_i4 138 rfl rfl
theorem ml_6_106 : Cond.methodLink "GuessFences$Taint" 106 ⟨"GuessFences$Reach", "trace", "(I)V"⟩ ∈ gv_ws := gv_i4 150 rfl rfl
theorem ml_6_111 : Cond.methodLink "GuessFences$Taint" 111 ⟨"GuessFences$Reach", "nextAmong", "([JII)I"⟩ ∈ gv_ws := gv_i5 211 rfl rfl
theorem ml_6_117 : Cond.methodLink "GuessFences$Taint" 117 ⟨"GuessFences$Listing", "betrays", "(II)Z"⟩ ∈ gv_ws := gv_i5 226 rfl rfl
theorem ml_6_121 : Cond.methodLink "GuessFences$Taint" 121 ⟨"GuessFences$Taint", "addExposed", "(I)V"⟩ ∈ gv_ws := gv_i5 232 rfl rfl
theorem ml_7_49 : Cond.methodLink "GuessFences$Cut" 49 ⟨"GuessFences$Cut", "prepare", "()V"⟩ ∈ gv_ws := gv_i6 0 rfl rfl
theorem ml_7_62 : Cond.methodLink "GuessFences$Cut" 62 ⟨"GuessFences$Cut", "addPathFrom", "(I)V"⟩ ∈ gv_ws := gv_i6 10 rfl rfl
theorem ml_7_66 : Cond.methodLink "GuessFences$Cut" 66 ⟨"GuessFences$Cut", "markIfCut", "(I)V"⟩ ∈ gv_ws := gv_i6 40 rfl rfl
theorem ml_7_69 : Cond.methodLink "GuessFences$Cut" 69 ⟨"java/util/Arrays", "fill", "([II)V"⟩ ∈ gv_ws := gv_i6 4 rfl rfl
theorem ml_7_75 : Cond.methodLink "GuessFences$Cut" 75 ⟨"java/util/Arrays", "fill", "([JJ)V"⟩ ∈ gv_ws := gv_i6 5 rfl rfl
theorem ml_7_78 : Cond.methodLink "GuessFences$Cut" 78 ⟨"GuessFences$Cut", "openEntrance", "(I)V"⟩ ∈ gv_ws := gv_i6 6 rfl rfl
theorem ml_7_81 : Cond.methodLink "GuessFences$Cut" 81 ⟨"GuessFences$Cut", "search", "(I)I"⟩ ∈ gv_ws := gv_i6 14 rfl rfl
theorem ml_7_85 : Cond.methodLink "GuessFences$Cut" 85 ⟨"GuessFences$Cut", "layPath", "(II)V"⟩ ∈ gv_ws := gv_i6 32 rfl rfl
theorem ml_7_89 : Cond.methodLink "GuessFences$Cut" 89 ⟨"GuessFences$Cut", "forgetSearch", "()V"⟩ ∈ gv_ws := gv_i6 36 rfl rfl
theorem ml_7_92 : Cond.methodLink "GuessFences$Cut" 92 ⟨"GuessFences$Cut", "see", "(II)V"⟩ ∈ gv_ws := gv_i6 18 rfl rfl
theorem ml_7_99 : Cond.methodLink "GuessFences$Cut" 99 ⟨"GuessFences$Cut", "leaveExit", "(I)V"⟩ ∈ gv_ws := gv_i6 23 rfl rfl
theorem ml_7_102 : Cond.methodLink "GuessFences$Cut" 102 ⟨"GuessFences$Cut", "leaveEntrance", "(I)V"⟩ ∈ gv_ws := gv_i6 28 rfl rfl
theorem ml_7_105 : Cond.methodLink "GuessFences$Cut" 105 ⟨"GuessFences$Reach", "nextAmong", "([JII)I"⟩ ∈ gv_ws := gv_i6 27 rfl rfl
theorem ml_8_32 : Cond.methodLink "GuessFences$Rewriter" 32 ⟨"GuessFences$Rewriter", "isCut", "(I)Z"⟩ ∈ gv_ws := gv_i6 81 rfl rfl
theorem ml_8_39 : Cond.methodLink "GuessFences$Rewriter" 39 ⟨"GuessFences$Rewriter", "newOffset", "(I)I"⟩ ∈ gv_ws := gv_i6 85 rfl rfl
theorem ml_8_43 : Cond.methodLink "GuessFences$Rewriter" 43 ⟨"GuessFences$Word", "isBranchOffset", "(I)Z"⟩ ∈ gv_ws := gv_i6 89 rfl rfl
theorem ml_8_48 : Cond.methodLink "GuessFences$Rewriter" 48 ⟨"GuessFences$Rewriter", "newWord", "(II)I"⟩ ∈ gv_ws := gv_i6 96 rfl rfl
theorem ml_8_61 : Cond.methodLink "GuessFences$Rewriter" 61 ⟨"GuessFences$Word", "withBranchOffset", "(II)I"⟩ ∈ gv_ws := gv_i6 100 rfl rfl
theorem ml_8_64 : Cond.methodLink "GuessFences$Rewriter" 64 ⟨"GuessFences$Word", "withJumpOffset", "(II)I"⟩ ∈ gv_ws := gv_i6 104 rfl rfl
theorem ml_9_105 : Cond.methodLink "GuessFencesModel" 105 ⟨"GuessFencesModel", "changed", "()V"⟩ ∈ gv_ws := gv_i7 5 rfl rfl
theorem ml_9_157 : Cond.methodLink "GuessFencesModel" 157 ⟨"GuessFencesModel", "faultOf", "(I)I"⟩ ∈ gv_ws := gv_i7 28 rfl rfl
theorem ml_9_160 : Cond.methodLink "GuessFencesModel" 160 ⟨"GuessFencesModel", "begin", "()V"⟩ ∈ gv_ws := gv_i7 55 rfl rfl
theorem ml_9_121 : Cond.methodLink "GuessFencesModel" 121 ⟨"GuessFencesModel", "d", "(I)I"⟩ ∈ gv_ws := gv_i7 32 rfl rfl
theorem ml_9_130 : Cond.methodLink "GuessFencesModel" 130 ⟨"GuessFencesModel", "kind", "(I)I"⟩ ∈ gv_ws := gv_i7 35 rfl rfl
theorem ml_9_127 : Cond.methodLink "GuessFencesModel" 127 ⟨"GuessFencesModel", "offset", "(I)I"⟩ ∈ gv_ws := gv_i7 48 rfl rfl
theorem ml_9_133 : Cond.methodLink "GuessFencesModel" 133 ⟨"GuessFencesModel", "target", "(I)I"⟩ ∈ gv_ws := gv_i7 51 rfl rfl
theorem ml_9_124 : Cond.methodLink "GuessFencesModel" 124 ⟨"GuessFencesModel", "kindOf", "(I)I"⟩ ∈ gv_ws := gv_i7 39 rfl rfl
theorem ml_9_114 : Cond.methodLink "GuessFencesModel" 114 ⟨"GuessFencesModel", "f", "(I)I"⟩ ∈ gv_ws := gv_i7 42 rfl rfl
theorem ml_9_118 : Cond.methodLink "GuessFencesModel" 118 ⟨"GuessFencesModel", "g", "(I)I"⟩ ∈ gv_ws := gv_i7 45 rfl rfl
theorem ml_9_163 : Cond.methodLink "GuessFencesModel" 163 ⟨"GuessFencesModel", "isAt", "(I)Z"⟩ ∈ gv_ws := gv_i7 67 rfl rfl
theorem ml_9_167 : Cond.methodLink "GuessFencesModel" 167 ⟨"GuessFencesModel", "result", "(I)I"⟩ ∈ gv_ws := gv_i7 71 rfl rfl
theorem ml_9_170 : Cond.methodLink "GuessFencesModel" 170 ⟨"GuessFencesModel", "first", "(I)I"⟩ ∈ gv_ws := gv_i7 75 rfl rfl
theorem ml_9_173 : Cond.methodLink "GuessFencesModel" 173 ⟨"GuessFencesModel", "second", "(I)I"⟩ ∈ gv_ws := gv_i7 82 rfl rfl
theorem ml_9_176 : Cond.methodLink "GuessFencesModel" 176 ⟨"GuessFencesModel", "number", "(I)I"⟩ ∈ gv_ws := gv_i7 89 rfl rfl
theorem ml_9_136 : Cond.methodLink "GuessFencesModel" 136 ⟨"GuessFencesModel", "a", "(I)I"⟩ ∈ gv_ws := gv_i7 79 rfl rfl
theorem ml_9_139 : Cond.methodLink "GuessFencesModel" 139 ⟨"GuessFencesModel", "b", "(I)I"⟩ ∈ gv_ws := gv_i7 86 rfl rfl
theorem ml_9_179 : Cond.methodLink "GuessFencesModel" 179 ⟨"GuessFencesModel", "write", "(III)V"⟩ ∈ gv_ws := gv_i7 105 rfl rfl
theorem ml_9_183 : Cond.methodLink "GuessFencesModel" 183 ⟨"GuessFencesModel", "read", "(II)I"⟩ ∈ gv_ws := gv_i7 113 rfl rfl
theorem ml_9_217 : Cond.methodLink "GuessFencesModel" 217 ⟨"GuessFencesModel", "runOne", "()V"⟩ ∈ gv_ws := gv_i7 121 rfl rfl
theorem ml_9_208 : Cond.methodLink "GuessFencesModel" 208 ⟨"GuessFencesModel", "reg", "(I)I"⟩ ∈ gv_ws := gv_i7 125 rfl rfl
theorem ml_9_193 : Cond.methodLink "GuessFencesModel" 193 ⟨"GuessFencesModel", "made", "(IIIZ)I"⟩ ∈ gv_ws := gv_i7 129 rfl rfl
theorem ml_9_211 : Cond.methodLink "GuessFencesModel" 211 ⟨"GuessFencesModel", "loadedValue", "(II)I"⟩ ∈ gv_ws := gv_i7 146 rfl rfl
theorem ml_9_201 : Cond.methodLink "GuessFencesModel" 201 ⟨"GuessFencesModel", "tell", "(II)V"⟩ ∈ gv_ws := gv_i7 139 rfl rfl
theorem ml_9_214 : Cond.methodLink "GuessFencesModel" 214 ⟨"GuessFencesModel", "goal", "(III)I"⟩ ∈ gv_ws := gv_i7 150 rfl rfl
theorem ml_9_197 : Cond.methodLink "GuessFencesModel" 197 ⟨"GuessFencesModel", "multiplied", "(III)I"⟩ ∈ gv_ws := gv_i7 135 rfl rfl
theorem ml_9_205 : Cond.methodLink "GuessFencesModel" 205 ⟨"GuessFencesModel", "divided", "(III)I"⟩ ∈ gv_ws := gv_i7 143 rfl rfl
theorem ml_9_187 : Cond.methodLink "GuessFencesModel" 187 ⟨"GuessFencesModel", "less", "(IIZ)Z"⟩ ∈ gv_ws := gv_i7 132 rfl rfl
theorem ml_9_228 : Cond.methodLink "GuessFencesModel" 228 ⟨"GuessFencesModel", "resolve", "()I"⟩ ∈ gv_ws := gv_i7 158 rfl rfl
theorem ml_9_231 : Cond.methodLink "GuessFencesModel" 231 ⟨"GuessFencesModel", "guess", "(Z)I"⟩ ∈ gv_ws := gv_i7 162 rfl rfl
theorem ml_9_224 : Cond.methodLink "GuessFencesModel" 224 ⟨"GuessFencesModel", "goesTooFar", "()Z"⟩ ∈ gv_ws := gv_i7 166 rfl rfl
theorem ml_9_220 : Cond.methodLink "GuessFencesModel" 220 ⟨"GuessFencesModel", "distance", "()I"⟩ ∈ gv_ws := gv_i7 170 rfl rfl
theorem ml_9_296 : Cond.methodLink "GuessFencesModel" 296 ⟨"GuessFencesModel", "know", "()V"⟩ ∈ gv_ws := gv_i7 194 rfl rfl
theorem ml_9_281 : Cond.methodLink "GuessFencesModel" 281 ⟨"GuessFencesModel", "findGuessed", "()V"⟩ ∈ gv_ws := gv_i7 198 rfl rfl
theorem ml_9_284 : Cond.methodLink "GuessFencesModel" 284 ⟨"GuessFencesModel", "findReach", "(I)V"⟩ ∈ gv_ws := gv_i7 210 rfl rfl
theorem ml_9_287 : Cond.methodLink "GuessFencesModel" 287 ⟨"GuessFencesModel", "findTaint", "()V"⟩ ∈ gv_ws := gv_i7 218 rfl rfl
theorem ml_9_290 : Cond.methodLink "GuessFencesModel" 290 ⟨"GuessFencesModel", "findExposed", "()V"⟩ ∈ gv_ws := gv_i7 226 rfl rfl
theorem ml_9_293 : Cond.methodLink "GuessFencesModel" 293 ⟨"GuessFencesModel", "findCut", "()V"⟩ ∈ gv_ws := gv_i7 237 rfl rfl
theorem ml_9_242 : Cond.methodLink "GuessFencesModel" 242 ⟨"GuessFencesModel", "goOn", "(I)V"⟩ ∈ gv_ws := gv_i7 202 rfl rfl
theorem ml_9_238 : Cond.methodLink "GuessFencesModel" 238 ⟨"GuessFencesModel", "visit", "(I)V"⟩ ∈ gv_ws := gv_i7 206 rfl rfl
theorem ml_9_245 : Cond.methodLink "GuessFencesModel" 245 ⟨"GuessFencesModel", "turn", "([III)V"⟩ ∈ gv_ws := gv_i7 214 rfl rfl
theorem ml_9_252 : Cond.methodLink "GuessFencesModel" 252 ⟨"GuessFencesModel", "has", "([III)Z"⟩ ∈ gv_ws := gv_i7 222 rfl rfl
theorem ml_9_259 : Cond.methodLink "GuessFencesModel" 259 ⟨"GuessFencesModel", "betrays", "(II)Z"⟩ ∈ gv_ws := gv_i7 230 rfl rfl
theorem ml_9_249 : Cond.methodLink "GuessFencesModel" 249 ⟨"GuessFencesModel", "isDivision", "(I)Z"⟩ ∈ gv_ws := gv_i7 234 rfl rfl
theorem ml_9_272 : Cond.methodLink "GuessFencesModel" 272 ⟨"GuessFencesModel", "search", "()I"⟩ ∈ gv_ws := gv_i8 1 rfl rfl
theorem ml_9_275 : Cond.methodLink "GuessFencesModel" 275 ⟨"GuessFencesModel", "carry", "(I)V"⟩ ∈ gv_ws := gv_i8 17 rfl rfl
theorem ml_9_263 : Cond.methodLink "GuessFencesModel" 263 ⟨"GuessFencesModel", "find", "(II)V"⟩ ∈ gv_ws := gv_i8 5 rfl rfl
theorem ml_9_266 : Cond.methodLink "GuessFencesModel" 266 ⟨"GuessFencesModel", "findFromEntry", "(I)V"⟩ ∈ gv_ws := gv_i8 9 rfl rfl
theorem ml_9_269 : Cond.methodLink "GuessFencesModel" 269 ⟨"GuessFencesModel", "findFromExit", "(I)V"⟩ ∈ gv_ws := gv_i8 13 rfl rfl
theorem ml_9_300 : Cond.methodLink "GuessFencesModel" 300 ⟨"GuessFencesModel", "branchWith", "(II)I"⟩ ∈ gv_ws := gv_i8 37 rfl rfl
theorem ml_9_303 : Cond.methodLink "GuessFencesModel" 303 ⟨"GuessFencesModel", "jumpWith", "(II)I"⟩ ∈ gv_ws := gv_i8 41 rfl rfl
theorem ml_10_15 : Cond.methodLink "GuessFences$Word" 15 ⟨"GuessFences$Word", "code", "(I)I"⟩ ∈ gv_ws := gv_i2 131 rfl rfl
theorem ml_10_9 : Cond.methodLink "GuessFences$Word" 9 ⟨"GuessFences$Word", "d", "(I)I"⟩ ∈ gv_ws := gv_i2 134 rfl rfl
theorem ml_10_39 : Cond.methodLink "GuessFences$Word" 39 ⟨"GuessFences$Word", "kind", "(I)I"⟩ ∈ gv_ws := gv_i2 137 rfl rfl
theorem ml_10_42 : Cond.methodLink "GuessFences$Word" 42 ⟨"GuessFences$Word", "offset", "(I)I"⟩ ∈ gv_ws := gv_i2 152 rfl rfl
theorem ml_10_45 : Cond.methodLink "GuessFences$Word" 45 ⟨"GuessFences$Word", "goesInside", "(III)Z"⟩ ∈ gv_ws := gv_i2 162 rfl rfl
theorem ml_10_26 : Cond.methodLink "GuessFences$Word" 26 ⟨"GuessFences$Word", "f", "(I)I"⟩ ∈ gv_ws := gv_i2 140 rfl rfl
theorem ml_10_29 : Cond.methodLink "GuessFences$Word" 29 ⟨"GuessFences$Word", "g", "(I)I"⟩ ∈ gv_ws := gv_i2 143 rfl rfl
theorem ml_10_32 : Cond.methodLink "GuessFences$Word" 32 ⟨"GuessFences$Word", "isRegForm", "(II)Z"⟩ ∈ gv_ws := gv_i2 146 rfl rfl
theorem ml_10_36 : Cond.methodLink "GuessFences$Word" 36 ⟨"GuessFences$Word", "isImmForm", "(II)Z"⟩ ∈ gv_ws := gv_i2 149 rfl rfl
theorem ml_10_18 : Cond.methodLink "GuessFences$Word" 18 ⟨"GuessFences$Word", "branchOffset", "(I)I"⟩ ∈ gv_ws := gv_i2 155 rfl rfl
theorem ml_10_21 : Cond.methodLink "GuessFences$Word" 21 ⟨"GuessFences$Word", "jumpOffset", "(I)I"⟩ ∈ gv_ws := gv_i2 158 rfl rfl
theorem ml_11_11 : Cond.methodLink "GuessFences$Arithmetic" 11 ⟨"GuessFences$Arithmetic", "product", "(III)I"⟩ ∈ gv_ws := gv_i3 204 rfl rfl
theorem ml_11_15 : Cond.methodLink "GuessFences$Arithmetic" 15 ⟨"GuessFences$Arithmetic", "divides", "(I)Z"⟩ ∈ gv_ws := gv_i3 208 rfl rfl
theorem ml_11_19 : Cond.methodLink "GuessFences$Arithmetic" 19 ⟨"GuessFences$Arithmetic", "quotient", "(III)I"⟩ ∈ gv_ws := gv_i3 209 rfl rfl
theorem ml_11_22 : Cond.methodLink "GuessFences$Arithmetic" 22 ⟨"GuessFences$Arithmetic", "lessUnsigned", "(II)Z"⟩ ∈ gv_ws := gv_i3 212 rfl rfl
theorem ml_12_75 : Cond.methodLink "GuessFencesLaw" 75 ⟨"GuessFences", "word", "(I)I"⟩ ∈ gv_ws := gv_i2 98 rfl rfl
theorem ml_12_78 : Cond.methodLink "GuessFencesLaw" 78 ⟨"GuessFencesModel", "word", "(I)I"⟩ ∈ gv_ws := gv_i7 1 rfl rfl
theorem ml_12_79 : Cond.methodLink "GuessFencesLaw" 79 ⟨"GuessFencesLaw", "again", "(LGuessFences;II[J)I"⟩ ∈ gv_ws := gv_i2 228 rfl rfl
theorem ml_12_84 : Cond.methodLink "GuessFencesLaw" 84 ⟨"GuessFencesModel", "again", "(II)I"⟩ ∈ gv_ws := gv_i7 9 rfl rfl
theorem ml_12_85 : Cond.methodLink "GuessFencesLaw" 85 ⟨"GuessFencesModel", "thrown", "()I"⟩ ∈ gv_ws := gv_i6 237 rfl rfl
theorem ml_12_88 : Cond.methodLink "GuessFencesLaw" 88 ⟨"GuessFences", "clear", "()I"⟩ ∈ gv_ws := gv_i2 106 rfl rfl
theorem ml_12_91 : Cond.methodLink "GuessFencesLaw" 91 ⟨"GuessFencesModel", "clear", "()I"⟩ ∈ gv_ws := gv_i7 14 rfl rfl
theorem ml_12_92 : Cond.methodLink "GuessFencesLaw" 92 ⟨"GuessFences", "wordAt", "(I)J"⟩ ∈ gv_ws := gv_i2 110 rfl rfl
theorem ml_12_96 : Cond.methodLink "GuessFencesLaw" 96 ⟨"GuessFencesModel", "wordAt", "(I)J"⟩ ∈ gv_ws := gv_i7 18 rfl rfl
theorem ml_12_97 : Cond.methodLink "GuessFencesLaw" 97 ⟨"GuessFences", "load", "()I"⟩ ∈ gv_ws := gv_i2 120 rfl rfl
theorem ml_12_100 : Cond.methodLink "GuessFencesLaw" 100 ⟨"GuessFencesModel", "load", "()I"⟩ ∈ gv_ws := gv_i7 24 rfl rfl
theorem ml_12_101 : Cond.methodLink "GuessFencesLaw" 101 ⟨"GuessFences", "faultAt", "()I"⟩ ∈ gv_ws := gv_i2 215 rfl rfl
theorem ml_12_104 : Cond.methodLink "GuessFencesLaw" 104 ⟨"GuessFencesModel", "faultAt", "()I"⟩ ∈ gv_ws := gv_i7 59 rfl rfl
theorem ml_12_105 : Cond.methodLink "GuessFencesLaw" 105 ⟨"GuessFencesLaw", "decoded", "(LGuessFences;II[J)I"⟩ ∈ gv_ws := gv_i3 62 rfl rfl
theorem ml_12_107 : Cond.methodLink "GuessFencesLaw" 107 ⟨"GuessFencesModel", "decoded", "(II)I"⟩ ∈ gv_ws := gv_i7 63 rfl rfl
theorem ml_12_108 : Cond.methodLink "GuessFencesLaw" 108 ⟨"GuessFencesLaw", "set", "(LGuessFences;II)I"⟩ ∈ gv_ws := gv_i3 113 rfl rfl
theorem ml_12_111 : Cond.methodLink "GuessFencesLaw" 111 ⟨"GuessFencesModel", "set", "(II)V"⟩ ∈ gv_ws := gv_i7 93 rfl rfl
theorem ml_12_112 : Cond.methodLink "GuessFencesLaw" 112 ⟨"GuessFencesLaw", "register", "(LGuessFences;I[J)I"⟩ ∈ gv_ws := gv_i3 128 rfl rfl
theorem ml_12_115 : Cond.methodLink "GuessFencesLaw" 115 ⟨"GuessFencesModel", "register", "(I)I"⟩ ∈ gv_ws := gv_i7 97 rfl rfl
theorem ml_12_116 : Cond.methodLink "GuessFencesLaw" 116 ⟨"GuessFencesLaw", "poke", "(LGuessFences;II)I"⟩ ∈ gv_ws := gv_i3 139 rfl rfl
theorem ml_12_118 : Cond.methodLink "GuessFencesLaw" 118 ⟨"GuessFencesModel", "poke", "(II)V"⟩ ∈ gv_ws := gv_i7 101 rfl rfl
theorem ml_12_119 : Cond.methodLink "GuessFencesLaw" 119 ⟨"GuessFencesLaw", "peek", "(LGuessFences;I[J)I"⟩ ∈ gv_ws := gv_i3 150 rfl rfl
theorem ml_12_121 : Cond.methodLink "GuessFencesLaw" 121 ⟨"GuessFencesModel", "peek", "(I)I"⟩ ∈ gv_ws := gv_i7 109 rfl rfl
theorem ml_12_122 : Cond.methodLink "GuessFencesLaw" 122 ⟨"GuessFencesLaw", "run", "(LGuessFences;I[J)I"⟩ ∈ gv_ws := gv_i3 161 rfl rfl
theorem ml_12_124 : Cond.methodLink "GuessFencesLaw" 124 ⟨"GuessFencesModel", "run", "(I)I"⟩ ∈ gv_ws := gv_i7 117 rfl rfl
theorem ml_12_125 : Cond.methodLink "GuessFencesLaw" 125 ⟨"GuessFencesLaw", "order", "(LGuessFences;I[J)I"⟩ ∈ gv_ws := gv_i4 1 rfl rfl
theorem ml_12_127 : Cond.methodLink "GuessFencesLaw" 127 ⟨"GuessFencesModel", "order", "(I)I"⟩ ∈ gv_ws := gv_i7 154 rfl rfl
theorem ml_12_128 : Cond.methodLink "GuessFencesLaw" 128 ⟨"GuessFencesLaw", "window", "(LGuessFences;I[J)I"⟩ ∈ gv_ws := gv_i4 68 rfl rfl
theorem ml_12_130 : Cond.methodLink "GuessFencesLaw" 130 ⟨"GuessFencesModel", "window", "(I)I"⟩ ∈ gv_ws := gv_i7 174 rfl rfl
theorem ml_12_131 : Cond.methodLink "GuessFencesLaw" 131 ⟨"GuessFencesLaw", "state", "(LGuessFences;I[J)I"⟩ ∈ gv_ws := gv_i4 75 rfl rfl
theorem ml_12_133 : Cond.methodLink "GuessFencesLaw" 133 ⟨"GuessFencesModel", "state", "(I)I"⟩ ∈ gv_ws := gv_i7 178 rfl rfl
theorem ml_12_134 : Cond.methodLink "GuessFencesLaw" 134 ⟨"GuessFences", "leak", "(I)J"⟩ ∈ gv_ws := gv_i2 219 rfl rfl
theorem ml_12_137 : Cond.methodLink "GuessFencesLaw" 137 ⟨"GuessFencesModel", "leak", "(I)J"⟩ ∈ gv_ws := gv_i7 182 rfl rfl
theorem ml_12_138 : Cond.methodLink "GuessFencesLaw" 138 ⟨"GuessFencesLaw", "forget", "(LGuessFences;[J)I"⟩ ∈ gv_ws := gv_i4 86 rfl rfl
theorem ml_12_141 : Cond.methodLink "GuessFencesLaw" 141 ⟨"GuessFencesModel", "forget", "()I"⟩ ∈ gv_ws := gv_i7 186 rfl rfl
theorem ml_12_142 : Cond.methodLink "GuessFencesLaw" 142 ⟨"GuessFencesLaw", "check", "(LGuessFences;[J)I"⟩ ∈ gv_ws := gv_i4 94 rfl rfl
theorem ml_12_144 : Cond.methodLink "GuessFencesLaw" 144 ⟨"GuessFencesModel", "check", "()I"⟩ ∈ gv_ws := gv_i7 190 rfl rfl
theorem ml_12_145 : Cond.methodLink "GuessFencesLaw" 145 ⟨"GuessFencesLaw", "reaches", "(LGuessFences;II[J)I"⟩ ∈ gv_ws := gv_i6 44 rfl rfl
theorem ml_12_147 : Cond.methodLink "GuessFencesLaw" 147 ⟨"GuessFencesModel", "reaches", "(II)Z"⟩ ∈ gv_ws := gv_i8 21 rfl rfl
theorem ml_12_148 : Cond.methodLink "GuessFencesLaw" 148 ⟨"GuessFencesLaw", "mark", "(LGuessFences;I[J)I"⟩ ∈ gv_ws := gv_i6 56 rfl rfl
theorem ml_12_150 : Cond.methodLink "GuessFencesLaw" 150 ⟨"GuessFencesModel", "mark", "(I)I"⟩ ∈ gv_ws := gv_i8 25 rfl rfl
theorem ml_12_151 : Cond.methodLink "GuessFencesLaw" 151 ⟨"GuessFencesLaw", "cut", "(LGuessFences;[J)I"⟩ ∈ gv_ws := gv_i6 63 rfl rfl
theorem ml_12_153 : Cond.methodLink "GuessFencesLaw" 153 ⟨"GuessFencesModel", "cut", "()I"⟩ ∈ gv_ws := gv_i8 29 rfl rfl
theorem ml_12_154 : Cond.methodLink "GuessFencesLaw" 154 ⟨"GuessFencesLaw", "rewrite", "(LGuessFences;[J)I"⟩ ∈ gv_ws := gv_i6 70 rfl rfl
theorem ml_12_156 : Cond.methodLink "GuessFencesLaw" 156 ⟨"GuessFencesModel", "rewrite", "()I"⟩ ∈ gv_ws := gv_i8 33 rfl rfl
theorem ml_12_157 : Cond.methodLink "GuessFencesLaw" 157 ⟨"GuessFencesLaw", "home", "(LGuessFences;I[J)I"⟩ ∈ gv_ws := gv_i6 108 rfl rfl
theorem ml_12_159 : Cond.methodLink "GuessFencesLaw" 159 ⟨"GuessFencesModel", "home", "(I)I"⟩ ∈ gv_ws := gv_i8 45 rfl rfl
theorem ml_12_7 : Cond.methodLink "GuessFencesLaw" 7 ⟨"GuessFences", "again", "(II)I"⟩ ∈ gv_ws := gv_i2 232 rfl rfl
theorem ml_12_15 : Cond.methodLink "GuessFencesLaw" 15 ⟨"GuessFences", "decoded", "(II)I"⟩ ∈ gv_ws := gv_i3 67 rfl rfl
theorem ml_12_22 : Cond.methodLink "GuessFencesLaw" 22 ⟨"GuessFences", "set", "(II)V"⟩ ∈ gv_ws := gv_i3 116 rfl rfl
theorem ml_12_26 : Cond.methodLink "GuessFencesLaw" 26 ⟨"GuessFences", "register", "(I)I"⟩ ∈ gv_ws := gv_i3 131 rfl rfl
theorem ml_12_30 : Cond.methodLink "GuessFencesLaw" 30 ⟨"GuessFences", "poke", "(II)V"⟩ ∈ gv_ws := gv_i3 142 rfl rfl
theorem ml_12_33 : Cond.methodLink "GuessFencesLaw" 33 ⟨"GuessFences", "peek", "(I)I"⟩ ∈ gv_ws := gv_i3 153 rfl rfl
theorem ml_12_36 : Cond.methodLink "GuessFencesLaw" 36 ⟨"GuessFences", "run", "(I)I"⟩ ∈ gv_ws := gv_i3 164 rfl rfl
theorem ml_12_39 : Cond.methodLink "GuessFencesLaw" 39 ⟨"GuessFences", "order", "(I)I"⟩ ∈ gv_ws := gv_i4 4 rfl rfl
theorem ml_12_42 : Cond.methodLink "GuessFencesLaw" 42 ⟨"GuessFences", "window", "(I)I"⟩ ∈ gv_ws := gv_i4 71 rfl rfl
theorem ml_12_45 : Cond.methodLink "GuessFencesLaw" 45 ⟨"GuessFences", "state", "(I)I"⟩ ∈ gv_ws := gv_i4 78 rfl rfl
theorem ml_12_48 : Cond.methodLink "GuessFencesLaw" 48 ⟨"GuessFences", "forget", "()I"⟩ ∈ gv_ws := gv_i4 89 rfl rfl
theorem ml_12_52 : Cond.methodLink "GuessFencesLaw" 52 ⟨"GuessFences", "check", "()I"⟩ ∈ gv_ws := gv_i4 97 rfl rfl
theorem ml_12_55 : Cond.methodLink "GuessFencesLaw" 55 ⟨"GuessFences", "reaches", "(II)Z"⟩ ∈ gv_ws := gv_i6 47 rfl rfl
theorem ml_12_59 : Cond.methodLink "GuessFencesLaw" 59 ⟨"GuessFences", "mark", "(I)I"⟩ ∈ gv_ws := gv_i6 59 rfl rfl
theorem ml_12_62 : Cond.methodLink "GuessFencesLaw" 62 ⟨"GuessFences", "cut", "()I"⟩ ∈ gv_ws := gv_i6 66 rfl rfl
theorem ml_12_65 : Cond.methodLink "GuessFencesLaw" 65 ⟨"GuessFences", "rewrite", "()I"⟩ ∈ gv_ws := gv_i6 73 rfl rfl
theorem ml_12_68 : Cond.methodLink "GuessFencesLaw" 68 ⟨"GuessFences", "home", "(I)I"⟩ ∈ gv_ws := gv_i6 111 rfl rfl
theorem ml_13_13 : Cond.methodLink "java/util/Arrays" 13 ⟨"java/util/Arrays", "rangeCheck", "(III)V"⟩ ∈ gv_ws := gv_i4 157 rfl rfl
theorem cn_0_92 : Cond.constantLong "GuessFences" 92 (4294967295) ∈ gv_ws := gv_i2 118 rfl rfl
theorem cn_0_94 : Cond.constantLong "GuessFences" 94 (-1) ∈ gv_ws := gv_i2 119 rfl rfl
theorem cn_10_24 : Cond.constant "GuessFences$Word" 24 (1044480) ∈ gv_ws := gv_i2 161 rfl rfl
theorem cn_3_21 : Cond.constantLong "GuessFences$Leaks" 21 (-1) ∈ gv_ws := gv_i2 227 rfl rfl
theorem cn_0_86 : Cond.constantLong "GuessFences" 86 (520) ∈ gv_ws := gv_i3 61 rfl rfl
theorem cn_3_19 : Cond.constantLong "GuessFences$Leaks" 19 (4294967295) ∈ gv_ws := gv_i3 200 rfl rfl
theorem cn_11_26 : Cond.constantLong "GuessFences$Arithmetic" 26 (4294967295) ∈ gv_ws := gv_i3 207 rfl rfl
theorem cn_14_314 : Cond.constantLong "java/lang/Long" 314 (6148914691236517205) ∈ gv_ws := gv_i5 218 rfl rfl
theorem cn_14_316 : Cond.constantLong "java/lang/Long" 316 (3689348814741910323) ∈ gv_ws := gv_i5 219 rfl rfl
theorem cn_14_318 : Cond.constantLong "java/lang/Long" 318 (1085102592571150095) ∈ gv_ws := gv_i5 220 rfl rfl
theorem cn_6_115 : Cond.constantLong "GuessFences$Taint" 115 (-1) ∈ gv_ws := gv_i5 221 rfl rfl
theorem cn_7_114 : Cond.constantLong "GuessFences$Cut" 114 (-1) ∈ gv_ws := gv_i6 22 rfl rfl
theorem cn_10_25 : Cond.constant "GuessFences$Word" 25 (33550463) ∈ gv_ws := gv_i6 103 rfl rfl
theorem cn_8_52 : Cond.constant "GuessFences$Rewriter" 52 (267386895) ∈ gv_ws := gv_i6 107 rfl rfl
theorem cn_9_64 : Cond.constant "GuessFencesModel" 64 (34320) ∈ gv_ws := gv_i6 121 rfl rfl
theorem cn_9_108 : Cond.constantLong "GuessFencesModel" 108 (520) ∈ gv_ws := gv_i7 13 rfl rfl
theorem cn_9_110 : Cond.constantLong "GuessFencesModel" 110 (-1) ∈ gv_ws := gv_i7 22 rfl rfl
theorem cn_9_112 : Cond.constantLong "GuessFencesModel" 112 (4294967295) ∈ gv_ws := gv_i7 23 rfl rfl
theorem cn_9_191 : Cond.constantLong "GuessFencesModel" 191 (65535) ∈ gv_ws := gv_i7 138 rfl rfl
theorem cn_9_299 : Cond.constant "GuessFencesModel" 299 (33550463) ∈ gv_ws := gv_i8 40 rfl rfl
theorem cn_9_306 : Cond.constant "GuessFencesModel" 306 (267386895) ∈ gv_ws := gv_i8 44 rfl rfl
end
section
theorem gv_iincc {μ : gM} {k pc pc' : Nat} {w : Bool} {ls : List (Option Value)} {st : List Value} {σ : gS} {Q : gQ → gS → Prop} {i : Nat} {n : Int} {x c : Int32} (hd : decode μ.cc pc = .ok (.iinc i n, 3)) (hi : ls[i]? = some (some (.int x))) (hc : Int32.ofInt n = c) (hn : i < μ.nL) (hp : pc + 3 = pc')
    (h : gv_V μ k w pc' (gv_s1 ls i (.int (x + c))) st σ Q) : gv_V μ k w pc ls st σ Q := by
  subst hc
  exact gv_iinc hd hi rfl hn hp h
theorem gv_cvi {μ μ' : gM} {k pc pc' idx n : Nat} {w w' : Bool} {ls : List (Option Value)} {As st : List Value} {σ σ1 : gS} {Q : gQ → gS → Prop} {r : Int32} {q ci N : Nat} {fs : List (Option Nat)} {T0 : u_T} (hR : gv_K μ' (.ref q :: As) σ (gv_is (.inl (some (.int r))) σ1)) (h1 : gv_md μ') (h2 : gv_vd μ' n) (hl : gv_lkm μ μ' idx) (hd : decode μ.cc pc = .ok (.invokevirtual idx, 3)) (hF : μ'.F + 1 ≤ μ.F) (hsh : gv_sh[q]? = some (.inr (ci, fs))) (hcl : vwCl[ci]? = some (μ'.y.cls, T0, N)) (hn : As.length = n) (hent : (lg_sl (.ref q :: As)).length ≤ μ'.nL) (hw8 : (st.map fun v => v.category).sum ≤ 8) (hk : 1 ≤ k) (hc0 : μ'.c = 0) (hw' : w' = true → μ'.pu = true ∧ w = true) (hno : μ.hh.all (fun h => !(decide (h.1 ≤ pc) && decide (pc < h.2.1))) = true) (hp : pc + 3 = pc')
    (h : gv_V μ k w' pc' ls (.int r :: st) σ1 Q) : gv_V μ k w pc ls (As.reverse ++ .ref q :: st) σ Q := by
  refine gv_callV (gv_mkV hF h1 hl h2) hR hd hsh hcl hn hent hw8 hk (by rw [hc0]; rfl) hw' hno hp (fun n σ' z => by cases z.1) (fun v σ' z => ?_)
  obtain ⟨z1, rfl⟩ := z
  cases z1
  exact h
theorem gv_cvl {μ μ' : gM} {k pc pc' idx n : Nat} {w w' : Bool} {ls : List (Option Value)} {As st : List Value} {σ σ1 : gS} {Q : gQ → gS → Prop} {r : Int64} {q ci N : Nat} {fs : List (Option Nat)} {T0 : u_T} (hR : gv_K μ' (.ref q :: As) σ (gv_is (.inl (some (.long r))) σ1)) (h1 : gv_md μ') (h2 : gv_vd μ' n) (hl : gv_lkm μ μ' idx) (hd : decode μ.cc pc = .ok (.invokevirtual idx, 3)) (hF : μ'.F + 1 ≤ μ.F) (hsh : gv_sh[q]? = some (.inr (ci, fs))) (hcl : vwCl[ci]? = some (μ'.y.cls, T0, N)) (hn : As.length = n) (hent : (lg_sl (.ref q :: As)).length ≤ μ'.nL) (hw8 : (st.map fun v => v.category).sum ≤ 8) (hk : 1 ≤ k) (hc0 : μ'.c = 0) (hw' : w' = true → μ'.pu = true ∧ w = true) (hno : μ.hh.all (fun h => !(decide (h.1 ≤ pc) && decide (pc < h.2.1))) = true) (hp : pc + 3 = pc')
    (h : gv_V μ k w' pc' ls (.long r :: st) σ1 Q) : gv_V μ k w pc ls (As.reverse ++ .ref q :: st) σ Q := by
  refine gv_callV (gv_mkV hF h1 hl h2) hR hd hsh hcl hn hent hw8 hk (by rw [hc0]; rfl) hw' hno hp (fun n σ' z => by cases z.1) (fun v σ' z => ?_)
  obtain ⟨z1, rfl⟩ := z
  cases z1
  exact h
theorem gv_cv0 {μ μ' : gM} {k pc pc' idx n : Nat} {w w' : Bool} {ls : List (Option Value)} {As st : List Value} {σ σ1 : gS} {Q : gQ → gS → Prop} {q ci N : Nat} {fs : List (Option Nat)} {T0 : u_T} (hR : gv_K μ' (.ref q :: As) σ (gv_is (.inl none) σ1)) (h1 : gv_md μ') (h2 : gv_vd μ' n) (hl : gv_lkm μ μ' idx) (hd : decode μ.cc pc = .ok (.invokevirtual idx, 3)) (hF : μ'.F + 1 ≤ μ.F) (hsh : gv_sh[q]? = some (.inr (ci, fs))) (hcl : vwCl[ci]? = some (μ'.y.cls, T0, N)) (hn : As.length = n) (hent : (lg_sl (.ref q :: As)).length ≤ μ'.nL) (hw8 : (st.map fun v => v.category).sum ≤ 8) (hk : 1 ≤ k) (hc0 : μ'.c = 0) (hw' : w' = true → μ'.pu = true ∧ w = true) (hno : μ.hh.all (fun h => !(decide (h.1 ≤ pc) && decide (pc < h.2.1))) = true) (hp : pc + 3 = pc')
    (h : gv_V μ k w' pc' ls (st) σ1 Q) : gv_V μ k w pc ls (As.reverse ++ .ref q :: st) σ Q := by
  refine gv_callV (gv_mkV hF h1 hl h2) hR hd hsh hcl hn hent hw8 hk (by rw [hc0]; rfl) hw' hno hp (fun n σ' z => by cases z.1) (fun v σ' z => ?_)
  obtain ⟨z1, rfl⟩ := z
  cases z1
  exact h
theorem gv_cvt {μ μ' : gM} {k pc idx n m : Nat} {w : Bool} {ls : List (Option Value)} {As st : List Value} {σ σ1 : gS} {Q : gQ → gS → Prop} {q ci N : Nat} {fs : List (Option Nat)} {T0 : u_T} (hR : gv_K μ' (.ref q :: As) σ (gv_is (.inr m) σ1)) (h1 : gv_md μ') (h2 : gv_vd μ' n) (hl : gv_lkm μ μ' idx) (hd : decode μ.cc pc = .ok (.invokevirtual idx, 3)) (hF : μ'.F + 1 ≤ μ.F) (hsh : gv_sh[q]? = some (.inr (ci, fs))) (hcl : vwCl[ci]? = some (μ'.y.cls, T0, N)) (hn : As.length = n) (hent : (lg_sl (.ref q :: As)).length ≤ μ'.nL) (hw8 : (st.map fun v => v.category).sum ≤ 8) (hk : 1 ≤ k) (hc0 : μ'.c = 0) (hno : μ.hh.all (fun h => !(decide (h.1 ≤ pc) && decide (pc < h.2.1))) = true)
    (h : Q (.inr m) σ1) : gv_V μ k w pc ls (As.reverse ++ .ref q :: st) σ Q := by
  refine gv_callV (w' := false) (gv_mkV hF h1 hl h2) hR hd hsh hcl hn hent hw8 hk (by rw [hc0]; rfl) (fun z => by cases z) hno rfl (fun n σ' z => ?_) (fun v σ' z => by cases z.1)
  obtain ⟨z1, rfl⟩ := z
  cases z1
  exact h
theorem gv_csi {μ μ' : gM} {k pc pc' idx n : Nat} {w w' : Bool} {ls : List (Option Value)} {As st : List Value} {σ σ1 : gS} {Q : gQ → gS → Prop} {r : Int32} (hR : gv_K μ' As σ (gv_is (.inl (some (.int r))) σ1)) (h1 : gv_md μ') (h2 : gv_sd μ' n) (hl : gv_lkm μ μ' idx) (hd : decode μ.cc pc = .ok (.invokestatic idx, 3)) (hF : μ'.F + 1 ≤ μ.F) (hn : As.length = n) (hent : (lg_sl As).length ≤ μ'.nL) (hw8 : (st.map fun v => v.category).sum ≤ 8) (hk : 1 ≤ k) (hc0 : μ'.c = 0) (hw' : w' = true → μ'.pu = true ∧ w = true) (hno : μ.hh.all (fun h => !(decide (h.1 ≤ pc) && decide (pc < h.2.1))) = true) (hp : pc + 3 = pc')
    (h : gv_V μ k w' pc' ls (.int r :: st) σ1 Q) : gv_V μ k w pc ls (As.reverse ++ st) σ Q := by
  refine gv_callS (gv_mkS hF h1 hl h2) hR hd hn hent hw8 hk (by rw [hc0]; rfl) hw' hno hp (fun n σ' z => by cases z.1) (fun v σ' z => ?_)
  obtain ⟨z1, rfl⟩ := z
  cases z1
  exact h
theorem gv_csl {μ μ' : gM} {k pc pc' idx n : Nat} {w w' : Bool} {ls : List (Option Value)} {As st : List Value} {σ σ1 : gS} {Q : gQ → gS → Prop} {r : Int64} (hR : gv_K μ' As σ (gv_is (.inl (some (.long r))) σ1)) (h1 : gv_md μ') (h2 : gv_sd μ' n) (hl : gv_lkm μ μ' idx) (hd : decode μ.cc pc = .ok (.invokestatic idx, 3)) (hF : μ'.F + 1 ≤ μ.F) (hn : As.length = n) (hent : (lg_sl As).length ≤ μ'.nL) (hw8 : (st.map fun v => v.category).sum ≤ 8) (hk : 1 ≤ k) (hc0 : μ'.c = 0) (hw' : w' = true → μ'.pu = true ∧ w = true) (hno : μ.hh.all (fun h => !(decide (h.1 ≤ pc) && decide (pc < h.2.1))) = true) (hp : pc + 3 = pc')
    (h : gv_V μ k w' pc' ls (.long r :: st) σ1 Q) : gv_V μ k w pc ls (As.reverse ++ st) σ Q := by
  refine gv_callS (gv_mkS hF h1 hl h2) hR hd hn hent hw8 hk (by rw [hc0]; rfl) hw' hno hp (fun n σ' z => by cases z.1) (fun v σ' z => ?_)
  obtain ⟨z1, rfl⟩ := z
  cases z1
  exact h
theorem gv_cs0 {μ μ' : gM} {k pc pc' idx n : Nat} {w w' : Bool} {ls : List (Option Value)} {As st : List Value} {σ σ1 : gS} {Q : gQ → gS → Prop} (hR : gv_K μ' As σ (gv_is (.inl none) σ1)) (h1 : gv_md μ') (h2 : gv_sd μ' n) (hl : gv_lkm μ μ' idx) (hd : decode μ.cc pc = .ok (.invokestatic idx, 3)) (hF : μ'.F + 1 ≤ μ.F) (hn : As.length = n) (hent : (lg_sl As).length ≤ μ'.nL) (hw8 : (st.map fun v => v.category).sum ≤ 8) (hk : 1 ≤ k) (hc0 : μ'.c = 0) (hw' : w' = true → μ'.pu = true ∧ w = true) (hno : μ.hh.all (fun h => !(decide (h.1 ≤ pc) && decide (pc < h.2.1))) = true) (hp : pc + 3 = pc')
    (h : gv_V μ k w' pc' ls (st) σ1 Q) : gv_V μ k w pc ls (As.reverse ++ st) σ Q := by
  refine gv_callS (gv_mkS hF h1 hl h2) hR hd hn hent hw8 hk (by rw [hc0]; rfl) hw' hno hp (fun n σ' z => by cases z.1) (fun v σ' z => ?_)
  obtain ⟨z1, rfl⟩ := z
  cases z1
  exact h
theorem gv_cst {μ μ' : gM} {k pc idx n m : Nat} {w : Bool} {ls : List (Option Value)} {As st : List Value} {σ σ1 : gS} {Q : gQ → gS → Prop} (hR : gv_K μ' As σ (gv_is (.inr m) σ1)) (h1 : gv_md μ') (h2 : gv_sd μ' n) (hl : gv_lkm μ μ' idx) (hd : decode μ.cc pc = .ok (.invokestatic idx, 3)) (hF : μ'.F + 1 ≤ μ.F) (hn : As.length = n) (hent : (lg_sl As).length ≤ μ'.nL) (hw8 : (st.map fun v => v.category).sum ≤ 8) (hk : 1 ≤ k) (hc0 : μ'.c = 0) (hno : μ.hh.all (fun h => !(decide (h.1 ≤ pc) && decide (pc < h.2.1))) = true)
    (h : Q (.inr m) σ1) : gv_V μ k w pc ls (As.reverse ++ st) σ Q := by
  refine gv_callS (w' := false) (gv_mkS hF h1 hl h2) hR hd hn hent hw8 hk (by rw [hc0]; rfl) (fun z => by cases z) hno rfl (fun n σ' z => ?_) (fun v σ' z => by cases z.1)
  obtain ⟨z1, rfl⟩ := z
  cases z1
  exact h
end
section
theorem gv_isr (o : gQ) (σ : gS) : gv_is o σ o σ := And.intro rfl rfl
theorem gv_isv {o o' : gQ} {σ σ' : gS} (h1 : o' = o) (h2 : σ' = σ) : gv_is o σ o' σ' := And.intro h1 h2
abbrev gI (σ : gS) (p k : Nat) : Int32 := σ.1 p k
abbrev gA (σ : gS) (p j : Nat) : Int32 := σ.2.1 p j
abbrev gL (σ : gS) (p j : Nat) : Int64 := σ.2.2.1 p j
def gs_I (σ : gS) (p k : Nat) (v : Int32) : gS := (gv_up σ.1 p k v, σ.2)
def gs_A (σ : gS) (p j : Nat) (v : Int32) : gS := (σ.1, gv_up σ.2.1 p j v, σ.2.2)
def gs_L (σ : gS) (p j : Nat) (v : Int64) : gS := (σ.1, σ.2.1, gv_up σ.2.2.1 p j v, σ.2.2.2)
theorem gI_I (σ : gS) (p k : Nat) (v : Int32) (q j : Nat) : gI (gs_I σ p k v) q j = if q = p then (if j = k then v else gI σ q j) else gI σ q j := rfl
theorem gI_A (σ : gS) (p k : Nat) (v : Int32) (q j : Nat) : gI (gs_A σ p k v) q j = gI σ q j := rfl
theorem gI_L (σ : gS) (p k : Nat) (v : Int64) (q j : Nat) : gI (gs_L σ p k v) q j = gI σ q j := rfl
theorem gA_I (σ : gS) (p k : Nat) (v : Int32) (q j : Nat) : gA (gs_I σ p k v) q j = gA σ q j := rfl
theorem gA_A (σ : gS) (p k : Nat) (v : Int32) (q j : Nat) : gA (gs_A σ p k v) q j = if q = p then (if j = k then v else gA σ q j) else gA σ q j := rfl
theorem gA_L (σ : gS) (p k : Nat) (v : Int64) (q j : Nat) : gA (gs_L σ p k v) q j = gA σ q j := rfl
theorem gL_I (σ : gS) (p k : Nat) (v : Int32) (q j : Nat) : gL (gs_I σ p k v) q j = gL σ q j := rfl
theorem gL_A (σ : gS) (p k : Nat) (v : Int32) (q j : Nat) : gL (gs_A σ p k v) q j = gL σ q j := rfl
theorem gL_L (σ : gS) (p k : Nat) (v : Int64) (q j : Nat) : gL (gs_L σ p k v) q j = if q = p then (if j = k then v else gL σ q j) else gL σ q j := rfl
theorem gv_putj {μ : gM} {k pc pc' : Nat} {w : Bool} {ls : List (Option Value)} {st : List Value} {σ : gS} {Q : gQ → gS → Prop} {q ci kf idx : Nat} {fs : List (Option Nat)} {x : Int32} {ty : FieldType} (lk : gv_lkp μ.y.cls idx ci kf ty) (hd : decode μ.cc pc = .ok (.putfield idx, 3)) (hsh : gv_sh[q]? = some (.inr (ci, fs))) (hf : fs[kf]? = some none) (hn : narrow ty (.int x) = .int x) (hfit : fits ty (.int x) = true) (hp : pc + 3 = pc')
    (h : gv_V μ k false pc' ls st (gs_I σ q kf x) Q) : gv_V μ k w pc ls (.int x :: .ref q :: st) σ Q := gv_puti lk hd hsh hf hn hfit hp h
theorem gv_getj {μ : gM} {k pc pc' : Nat} {w : Bool} {ls : List (Option Value)} {st : List Value} {σ : gS} {Q : gQ → gS → Prop} {q ci kf idx : Nat} {fs : List (Option Nat)} (lk : gv_lk μ.y.cls idx ci kf) (hd : decode μ.cc pc = .ok (.getfield idx, 3)) (hsh : gv_sh[q]? = some (.inr (ci, fs))) (hf : fs[kf]? = some none) (hp : pc + 3 = pc')
    (h : gv_V μ k w pc' ls (.int (gI σ q kf) :: st) σ Q) : gv_V μ k w pc ls (.ref q :: st) σ Q := gv_geti lk hd hsh hf hp h
theorem gj_iald {μ : gM} {k pc pc' : Nat} {w : Bool} {ls : List (Option Value)} {st : List Value} {σ : gS} {Q : gQ → gS → Prop} {q n : Nat} {i : Int32} (j : Nat) (hd : decode μ.cc pc = .ok (.iaload, 1)) (hsh : gv_sh[q]? = some (.inl (.int, n))) (hin : vp_in i n) (hj : i.toNatClampNeg = j) (hp : pc + 1 = pc')
    (h : gv_V μ k w pc' ls (.int (gA σ q j) :: st) σ Q) : gv_V μ k w pc ls (.int i :: .ref q :: st) σ Q := gv_iald j hd hsh hin hj hp h
theorem gj_bald {μ : gM} {k pc pc' : Nat} {w : Bool} {ls : List (Option Value)} {st : List Value} {σ : gS} {Q : gQ → gS → Prop} {q n : Nat} {i : Int32} (j : Nat) (hd : decode μ.cc pc = .ok (.baload, 1)) (hsh : gv_sh[q]? = some (.inl (.byte, n))) (hin : vp_in i n) (hj : i.toNatClampNeg = j) (hp : pc + 1 = pc')
    (h : gv_V μ k w pc' ls (.int (gA σ q j) :: st) σ Q) : gv_V μ k w pc ls (.int i :: .ref q :: st) σ Q := gv_bald j hd hsh hin hj hp h
theorem gj_zald {μ : gM} {k pc pc' : Nat} {w : Bool} {ls : List (Option Value)} {st : List Value} {σ : gS} {Q : gQ → gS → Prop} {q n : Nat} {i : Int32} (j : Nat) (hd : decode μ.cc pc = .ok (.baload, 1)) (hsh : gv_sh[q]? = some (.inl (.boolean, n))) (hin : vp_in i n) (hj : i.toNatClampNeg = j) (hp : pc + 1 = pc')
    (h : gv_V μ k w pc' ls (.int (gA σ q j) :: st) σ Q) : gv_V μ k w pc ls (.int i :: .ref q :: st) σ Q := gv_zald j hd hsh hin hj hp h
theorem gj_lald {μ : gM} {k pc pc' : Nat} {w : Bool} {ls : List (Option Value)} {st : List Value} {σ : gS} {Q : gQ → gS → Prop} {q n : Nat} {i : Int32} (j : Nat) (hd : decode μ.cc pc = .ok (.laload, 1)) (hsh : gv_sh[q]? = some (.inl (.long, n))) (hin : vp_in i n) (hj : i.toNatClampNeg = j) (hp : pc + 1 = pc')
    (h : gv_V μ k w pc' ls (.long (gL σ q j) :: st) σ Q) : gv_V μ k w pc ls (.int i :: .ref q :: st) σ Q := gv_lald j hd hsh hin hj hp h
theorem gj_iast {μ : gM} {k pc pc' : Nat} {w : Bool} {ls : List (Option Value)} {st : List Value} {σ : gS} {Q : gQ → gS → Prop} {q n : Nat} {i : Int32} {x : Int32} (j : Nat) (hd : decode μ.cc pc = .ok (.iastore, 1)) (hsh : gv_sh[q]? = some (.inl (.int, n))) (hin : vp_in i n) (hj : i.toNatClampNeg = j) (hp : pc + 1 = pc')
    (h : gv_V μ k false pc' ls st (gs_A σ q j x) Q) : gv_V μ k w pc ls (.int x :: .int i :: .ref q :: st) σ Q := gv_iast j hd hsh hin hj hp h
theorem gj_bast {μ : gM} {k pc pc' : Nat} {w : Bool} {ls : List (Option Value)} {st : List Value} {σ : gS} {Q : gQ → gS → Prop} {q n : Nat} {i : Int32} {x : Int32} (j : Nat) (hd : decode μ.cc pc = .ok (.bastore, 1)) (hsh : gv_sh[q]? = some (.inl (.byte, n))) (hin : vp_in i n) (hj : i.toNatClampNeg = j) (hp : pc + 1 = pc')
    (h : gv_V μ k false pc' ls st (gs_A σ q j (vp_nar .byte x)) Q) : gv_V μ k w pc ls (.int x :: .int i :: .ref q :: st) σ Q := gv_bast j hd hsh hin hj hp h
theorem gj_zast {μ : gM} {k pc pc' : Nat} {w : Bool} {ls : List (Option Value)} {st : List Value} {σ : gS} {Q : gQ → gS → Prop} {q n : Nat} {i : Int32} {x : Int32} (j : Nat) (hd : decode μ.cc pc = .ok (.bastore, 1)) (hsh : gv_sh[q]? = some (.inl (.boolean, n))) (hin : vp_in i n) (hj : i.toNatClampNeg = j) (hp : pc + 1 = pc')
    (h : gv_V μ k false pc' ls st (gs_A σ q j (vp_nar .boolean x)) Q) : gv_V μ k w pc ls (.int x :: .int i :: .ref q :: st) σ Q := gv_zast j hd hsh hin hj hp h
theorem gj_last {μ : gM} {k pc pc' : Nat} {w : Bool} {ls : List (Option Value)} {st : List Value} {σ : gS} {Q : gQ → gS → Prop} {q n : Nat} {i : Int32} {x : Int64} (j : Nat) (hd : decode μ.cc pc = .ok (.lastore, 1)) (hsh : gv_sh[q]? = some (.inl (.long, n))) (hin : vp_in i n) (hj : i.toNatClampNeg = j) (hp : pc + 1 = pc')
    (h : gv_V μ k false pc' ls st (gs_L σ q j x) Q) : gv_V μ k w pc ls (.long x :: .int i :: .ref q :: st) σ Q := gv_last j hd hsh hin hj hp h
end
section
theorem gv_thall (own : String) (ic n : Nat) (h : ((Jvm.Bundle.ownAtoms0 own ic (gv_en n) gv_nm).all fun a => (decide (a = .isRef (.static "java/lang/Throwable" "UNASSIGNED_STACK" "[Ljava/lang/StackTraceElement;")) || decide (a = .laysStatic "java/lang/Throwable" "UNASSIGNED_STACK" "[Ljava/lang/StackTraceElement;")) || ((decide (a = .isRef (.static "java/lang/Throwable" "SUPPRESSED_SENTINEL" "Ljava/util/List;")) || decide (a = .laysStatic "java/lang/Throwable" "SUPPRESSED_SENTINEL" "Ljava/util/List;")) || (gv_good a && decide (a ∈ tables_1)))) = true) :
    ∀ a ∈ Jvm.Bundle.ownAtoms0 own ic (gv_en n) gv_nm, a ∈ gv_ws ∨ (a = .isRef (.static "java/lang/Throwable" "UNASSIGNED_STACK" "[Ljava/lang/StackTraceElement;") ∨ a = .laysStatic "java/lang/Throwable" "UNASSIGNED_STACK" "[Ljava/lang/StackTraceElement;") ∨ (a = .isRef (.static "java/lang/Throwable" "SUPPRESSED_SENTINEL" "Ljava/util/List;") ∨ a = .laysStatic "java/lang/Throwable" "SUPPRESSED_SENTINEL" "Ljava/util/List;") := by
  intro a ha
  have h1 := List.all_eq_true.mp h a ha
  simp only [Bool.or_eq_true, Bool.and_eq_true, decide_eq_true_eq] at h1
  rcases h1 with h1 | h1 | ⟨h1, h2⟩
  · exact Or.inr (Or.inl h1)
  · exact Or.inr (Or.inr h1)
  · exact Or.inl (List.mem_append_right _ (List.mem_filter.mpr ⟨List.mem_append_right _ h2, h1⟩))
theorem th_0_83 : gv_th "GuessFences" 83 85 3 := ⟨gv_i2 236 rfl rfl, gv_i2 237 rfl rfl, gv_i1 14 rfl rfl, by decide, gv_thall "GuessFences" 85 3 (by decide +kernel)⟩
theorem th_0_183 : gv_th "GuessFences" 183 185 2 := ⟨gv_i3 94 rfl rfl, gv_i3 95 rfl rfl, gv_i1 18 rfl rfl, by decide, gv_thall "GuessFences" 185 2 (by decide +kernel)⟩
theorem th_0_186 : gv_th "GuessFences" 186 188 1 := ⟨gv_i3 75 rfl rfl, gv_i3 76 rfl rfl, gv_i1 17 rfl rfl, by decide, gv_thall "GuessFences" 188 1 (by decide +kernel)⟩
end
section
def gc_rm (f c s : Nat) : Room := { frames := f, cells := c, slots := s, locals := 100 * f }
def gv_Tc (U : State) : Prop := (∀ w ∈ gv_ws, w.before #[] U = true) ∧ ∀ ty : FieldType, ty = .int ∨ ty = .byte ∨ ty = .long ∨ ty = .boolean → (Cond.arrayClass ty).before #[] U = true
theorem gv_Tcm {s U : State} (hW : s.WarmedH U.vm) (h : gv_Tc s) : gv_Tc U := ⟨fun w hw => gv_wm hW hw (h.1 w hw), fun ty hty => word_at hW (Or.inr ⟨ty, rfl⟩) (h.2 ty hty)⟩
theorem gc_hts {s : State} (h : gv_Tc s) (args : Array Value) : ∀ w ∈ gv_ws, w.before args s = true := fun w hw => gv_wt hw rfl (h.1 w hw)
theorem gc_arr {s : State} (h : gv_Tc s) (args : Array Value) {ty : FieldType} (hty : ty = .int ∨ ty = .byte ∨ ty = .long ∨ ty = .boolean) : (Cond.arrayClass ty).before args s = true := word_at (State.WarmedH.refl s) (Or.inr ⟨ty, rfl⟩) (h.2 ty hty)
def gc_P (dC : Nat → ClassId) (dI : Nat → Nat → Nat) (sz : Nat) (ws : va_W) (U : State) : Prop := U.heap.size = sz ∧ gv_Tc U ∧ va_P (dC, dI) vwCl ws U.heap ∧ va_K (dC, dI) vwCl [] U ∧ va_D (fun _ => True) ws
theorem gc_run {p : Program} {l : Launch} {e : Env} {R : Room} {s : State} {m : MethodId} {args : Array Value} {below : List Frame} {meth : Method} {c : Code} {H : Heap} {locs : List Loc} {cells slots : Nat} {y : MethodName} {bytes cc : ByteArray} {maxL nL mc ms n index F pc : Nat} {Qc : Array Value → State → Outcome → State → Prop} {own : String} {b : Addr} {As rest : List Value} {ls : Array Slot} {stk : List Value} {dC : Nat → ClassId} {dI : Nat → Nat → Nat} {wc : va_W} {A0 : Nat → Prop}
    (S : CallFix p m c cc nL s args [] own) (hM : Met l y [.code y bytes maxL none] (gc_rm F mc ms) (va_Pc (.ref b :: As) (gc_P dC dI H.size wc)) Qc mc ms (va_A wc H.size)) (hT : gv_Tc s) (h1 : Cond.code y bytes maxL none ∈ gv_ws) (h2 : Cond.initialized y.cls ∈ gv_ws) (h3 : Cond.instanceMethod y ∈ gv_ws) (hl : Cond.methodLink own index y ∈ gv_ws ∨ ∃ host, Cond.methodLinkNest own index y host ∈ gv_ws)
    (hy : y.name = "<init>" ∧ y.cls ≠ "java/lang/invoke/MethodHandle" ∧ y.cls ≠ "java/lang/invoke/VarHandle") (hn : (parseMethodDescriptor y.desc).map (fun d => d.parameters.length) = some As.length) (hP : va_P (dC, dI) vwCl wc H) (hK : va_K (dC, dI) vwCl [] s) (hD : va_D A0 wc)
    (hlen : As.length = n) (hsize : ls.size = nL) (hstack : stk = As.reverse ++ .ref b :: rest) (hW : (rest.map fun v => v.category).sum ≤ 8) (hdg : decode cc pc = .ok (.invokespecial index, 3)) (hR : F + 1 ≤ R.frames ∧ 8 + (maxL + 11) + 100 * F ≤ R.locals) (hf : cells + mc ≤ R.cells ∧ slots + ms ≤ R.slots) :
    va_Run p l e R s m args below meth c H locs cells slots mc ms (F0 m pc ls stk) rest (Qc (Value.ref b :: As).toArray) (va_A wc H.size) := by
  have hts := gc_hts hT args
  have hpar : ∀ sig, parseMethodDescriptor y.desc = some sig → n = sig.parameters.length := by
    intro sig h
    rw [h] at hn
    rw [← hlen]
    exact (Option.some.inj hn).symm
  have hws : ∀ w ∈ ([.code y bytes maxL none] : List Cond), ∀ (a' : Array Value) (U : State), s.WarmedH U.vm → w.before a' U = true := by
    intro w hw a' U hW'
    rcases List.mem_cons.mp hw with rfl | hw
    · exact gv_wt h1 rfl (gv_wm hW' h1 (hT.1 _ h1))
    · cases hw
  have hpre : PreS s H (va_Pc (.ref b :: As) (gc_P dC dI H.size wc)) (.ref b :: As) := by
    refine ⟨fun a U g mk q => ?_, fun U hU hW' => ?_⟩
    · obtain ⟨q0, q1, q2, q3, q4, q5⟩ := q
      exact ⟨q0, q1, gv_Tcm (State.WarmedH.refl U) q2, q3, va_K.moved (u := U) (U := U.calling g mk a) (Vm.Alike.refl U.vm) q4, q5⟩
    · exact ⟨rfl, by rw [hU], gv_Tcm hW' hT, by rw [hU]; exact hP, va_K.moved hW'.alike hK, hD.weaken (fun _ _ _ _ => trivial)⟩
  rcases hl with hl | ⟨host, hl⟩
  · exact va_runI (Ts := []) S hM ⟨⟨rfl, rfl, hR.1, hR.2, hws, List.mem_cons_self, hts _ h1, hts _ h2, hy.2, hpar, hts _ hl⟩, hy.1, hts _ h3⟩ hpre rfl hlen hsize hstack (lv_room hW) hdg hf
  · exact va_runIN (Ts := []) S hM ⟨⟨⟨rfl, rfl, hR.1, hR.2, hws, List.mem_cons_self⟩, hts _ h1, hts _ h2, hy.2, hpar, hts _ hl⟩, hy.1, hts _ h3⟩ hpre rfl hlen hsize hstack (lv_room hW) hdg hf
set_option maxHeartbeats 4000000 in
set_option maxRecDepth 100000 in
theorem k_Listing_init (l : Launch) (dC : Nat → ClassId) (dI : Nat → Nat → Nat) (h0 : Nat) (sz : Nat) : Met l ⟨"GuessFences$Listing", "<init>", "()V"⟩ [.code ⟨"GuessFences$Listing", "<init>", "()V"⟩ prog_6_method_1_code 1 none] (gc_rm 8 7 7280) (va_Pc [.ref h0] (gc_P dC dI sz [(h0, .inr (1, [.null, .null, .null, .null, .null, .null, .null, .int 0]))])) (va_Qv (fun _ : Unit => True) (fun _ t => ∃ (q1 q2 q3 q4 q5 q6 q7 : Nat) (c1 c2 c3 c4 c5 c6 c7 : ClassId), va_P (dC, dI) vwCl [(h0, .inr (1, [.ref q1, .ref q2, .ref q3, .ref q4, .ref q5, .ref q6, .ref q7, .int 0])), (q1, .inl (c1, 1040, .inl (fun _ => 0))), (q2, .inl (c2, 1040, .inl (fun _ => 0))), (q3, .inl (c3, 1040, .inl (fun _ => 0))), (q4, .inl (c4, 1040, .inl (fun _ => 0))), (q5, .inl (c5, 1040, .inl (fun _ => 0))), (q6, .inl (c6, 1040, .inl (fun _ => 0))), (q7, .inl (c7, 1040, .inl (fun _ => 0)))] t.heap ∧ va_K (dC, dI) vwCl [(c1, .int), (c2, .int), (c3, .int), (c4, .int), (c5, .int), (c6, .int), (c7, .int)] t ∧ va_D (va_A [(h0, .inr (1, [.null, .null, .null, .null, .null, .null, .null, .int 0]))] sz) [(h0, .inr (1, [.ref q1, .ref q2, .ref q3, .ref q4, .ref q5, .ref q6, .ref q7, .int 0])), (q1, .inl (c1, 1040, .inl (fun _ => 0))), (q2, .inl (c2, 1040, .inl (fun _ => 0))), (q3, .inl (c3, 1040, .inl (fun _ => 0))), (q4, .inl (c4, 1040, .inl (fun _ => 0))), (q5, .inl (c5, 1040, .inl (fun _ => 0))), (q6, .inl (c6, 1040, .inl (fun _ => 0))), (q7, .inl (c7, 1040, .inl (fun _ => 0)))]) (va_A [(h0, .inr (1, [.null, .null, .null, .null, .null, .null, .null, .int 0]))] sz)) 7 7280 (va_A [(h0, .inr (1, [.null, .null, .null, .null, .null, .null, .null, .int 0]))] sz) := by
  refine Met.ofW (cc := prog_6_method_1_code) (maxL := 1) (ret := none) (by decide) rfl ?_
  intro p e s m args below meth c s₁ B hml hv
  obtain ⟨rfl, hsz, hT, hP, hK, hD0⟩ := hv
  have hx := B.exec
  have hb := B.bytes
  have hr := B.returns
  have hown : s.vm.findClass "GuessFences$Listing" = some m.cls := findClass_of_methodNamed B.named
  have hlocks := B.notSynchronized
  have hin : meth.name = "<init>" := (name_of_methodNamed B.named B.method).1
  subst hsz
  generalize hargs : ([.ref h0] : List Value).toArray = args
  have hD := hD0.self (sz := s.heap.size)
  generalize hAe : va_A [(h0, .inr (1, [.null, .null, .null, .null, .null, .null, .null, .int 0]))] s.heap.size = A at hD ⊢
  have hA : ∀ q : Nat, s.heap.size ≤ q → A q := fun q h => by rw [← hAe]; exact Or.inr h
  have hS : va_S A s.heap s.heap [] := va_S.rf
  have hts := gc_hts hT args
  rw [← hargs]
  have hl := lv_entry ([.ref h0]) (n := 1) (Nat.le_of_ble_eq_true rfl)
  rw [lg_entry_eq]
  generalize (lg_sl ([.ref h0]) ++ List.replicate (1 - (lg_sl ([.ref h0])).length) Slot.unset).toArray = ls at hl ⊢
  rw [hargs]
  have hl : lv_has ls 1 [(0, .ref h0)] := hl
  refine lv_aload_n hx hb (show decode prog_6_method_1_code 0 = .ok (.aload_n 0, 1) from by decide +kernel) rfl (lv_at hl 0 rfl) ?_
  refine W.objInit hx hb hown (hts (.methodLink "GuessFences$Listing" 3 objectInit) (gv_i1 45 rfl rfl)) (hts (.instanceMethod objectInit) (gv_i1 38 rfl rfl)) (hts (.code objectInit ⟨#[0xb1]⟩ 1 none) (gv_i1 39 rfl rfl)) rfl (by rw [hml]; exact hl.1) rfl (show decode prog_6_method_1_code 1 = .ok (.invokespecial 3, 3) from by decide +kernel) (Nat.le_of_ble_eq_true rfl) (Nat.le_of_ble_eq_true rfl) ?_
  refine W.eq (g2 := F0 m 4 ls []) rfl ?_
  refine lv_aload_n hx hb (show decode prog_6_method_1_code 4 = .ok (.aload_n 0, 1) from by decide +kernel) rfl (lv_at hl 0 rfl) ?_
  refine lv_sipush (n := 1040) (v := 1040) hx hb (by decide +kernel) (by decide) ?_
  refine va_newa (atype := .int) (ty := .int) (a0 := (1040, .inl (fun _ => 0))) hx hb (gc_arr hT args (ty := .int) (by simp)) rfl hK hP hD hS hA (fun _ => rfl) (by decide) (N' := 1040) (by decide) (by decide) (Nat.le_of_ble_eq_true rfl) (Nat.le_of_ble_eq_true rfl) (show decode prog_6_method_1_code 8 = .ok (.newarray .int, 2) from by decide +kernel) (fun q1 c1 H hK hP hD hS => ?_)
  have hP : va_P (dC, dI) vwCl [(h0, .inr (1, [.null, .null, .null, .null, .null, .null, .null, .int 0])), (q1, .inl (c1, 1040, .inl (fun _ => 0)))] H := hP
  have hD : va_D A [(h0, .inr (1, [.null, .null, .null, .null, .null, .null, .null, .int 0])), (q1, .inl (c1, 1040, .inl (fun _ => 0)))] := hD
  have hK : va_K (dC, dI) vwCl [(c1, .int)] s := hK
  refine W.widen (k := 1) (n := 1040) (Nat.le_refl _) (Nat.le_refl _) ?_
  refine va_putF (D := (dC, dI)) (ci := 1) (v := .ref q1) (ty := .array .int) (C := "GuessFences$Listing") (T := gf_T1) (N := 8) hx hb hts lays_1 gf_y1 gf_ty1 gf_nm1 hown hK hP hD hS 0 rfl rfl 0 (by decide) (hts (.fieldLink "GuessFences$Listing" 9 "GuessFences$Listing" "kind" "[I") (gv_i1 46 rfl rfl)) (fun _ h9 => h9) rfl hin rfl (by decide +kernel) rfl rfl (Nat.le_of_ble_eq_true rfl) (by decide +kernel) (fun H locs hP hD hS => ?_)
  have hP : va_P (dC, dI) vwCl [(h0, .inr (1, [.ref q1, .null, .null, .null, .null, .null, .null, .int 0])), (q1, .inl (c1, 1040, .inl (fun _ => 0)))] H := hP
  have hD : va_D A [(h0, .inr (1, [.ref q1, .null, .null, .null, .null, .null, .null, .int 0])), (q1, .inl (c1, 1040, .inl (fun _ => 0)))] := hD
  refine lv_aload_n hx hb (show decode prog_6_method_1_code 13 = .ok (.aload_n 0, 1) from by decide +kernel) rfl (lv_at hl 0 rfl) ?_
  refine lv_sipush (n := 1040) (v := 1040) hx hb (by decide +kernel) (by decide) ?_
  refine va_newa (atype := .int) (ty := .int) (a0 := (1040, .inl (fun _ => 0))) hx hb (gc_arr hT args (ty := .int) (by simp)) rfl hK hP hD hS hA (fun _ => rfl) (by decide) (N' := 1040) (by decide) (by decide) (Nat.le_of_ble_eq_true rfl) (Nat.le_of_ble_eq_true rfl) (show decode prog_6_method_1_code 17 = .ok (.newarray .int, 2) from by decide +kernel) (fun q2 c2 H hK hP hD hS => ?_)
  have hP : va_P (dC, dI) vwCl [(h0, .inr (1, [.ref q1, .null, .null, .null, .null, .null, .null, .int 0])), (q1, .inl (c1, 1040, .inl (fun _ => 0))), (q2, .inl (c2, 1040, .inl (fun _ => 0)))] H := hP
  have hD : va_D A [(h0, .inr (1, [.ref q1, .null, .null, .null, .null, .null, .null, .int 0])), (q1, .inl (c1, 1040, .inl (fun _ => 0))), (q2, .inl (c2, 1040, .inl (fun _ => 0)))] := hD
  have hK : va_K (dC, dI) vwCl [(c1, .int), (c2, .int)] s := hK
  refine W.widen (k := 2) (n := 2080) (Nat.le_refl _) (Nat.le_refl _) ?_
  refine va_putF (D := (dC, dI)) (ci := 1) (v := .ref q2) (ty := .array .int) (C := "GuessFences$Listing") (T := gf_T1) (N := 8) hx hb hts lays_1 gf_y1 gf_ty1 gf_nm1 hown hK hP hD hS 0 rfl rfl 1 (by decide) (hts (.fieldLink "GuessFences$Listing" 15 "GuessFences$Listing" "operation" "[I") (gv_i1 52 rfl rfl)) (fun _ h9 => h9) rfl hin rfl (by decide +kernel) rfl rfl (Nat.le_of_ble_eq_true rfl) (by decide +kernel) (fun H locs hP hD hS => ?_)
  have hP : va_P (dC, dI) vwCl [(h0, .inr (1, [.ref q1, .ref q2, .null, .null, .null, .null, .null, .int 0])), (q1, .inl (c1, 1040, .inl (fun _ => 0))), (q2, .inl (c2, 1040, .inl (fun _ => 0)))] H := hP
  have hD : va_D A [(h0, .inr (1, [.ref q1, .ref q2, .null, .null, .null, .null, .null, .int 0])), (q1, .inl (c1, 1040, .inl (fun _ => 0))), (q2, .inl (c2, 1040, .inl (fun _ => 0)))] := hD
  refine lv_aload_n hx hb (show decode prog_6_method_1_code 22 = .ok (.aload_n 0, 1) from by decide +kernel) rfl (lv_at hl 0 rfl) ?_
  refine lv_sipush (n := 1040) (v := 1040) hx hb (by decide +kernel) (by decide) ?_
  refine va_newa (atype := .int) (ty := .int) (a0 := (1040, .inl (fun _ => 0))) hx hb (gc_arr hT args (ty := .int) (by simp)) rfl hK hP hD hS hA (fun _ => rfl) (by decide) (N' := 1040) (by decide) (by decide) (Nat.le_of_ble_eq_true rfl) (Nat.le_of_ble_eq_true rfl) (show decode prog_6_method_1_code 26 = .ok (.newarray .int, 2) from by decide +kernel) (fun q3 c3 H hK hP hD hS => ?_)
  have hP : va_P (dC, dI) vwCl [(h0, .inr (1, [.ref q1, .ref q2, .null, .null, .null, .null, .null, .int 0])), (q1, .inl (c1, 1040, .inl (fun _ => 0))), (q2, .inl (c2, 1040, .inl (fun _ => 0))), (q3, .inl (c3, 1040, .inl (fun _ => 0)))] H := hP
  have hD : va_D A [(h0, .inr (1, [.ref q1, .ref q2, .null, .null, .null, .null, .null, .int 0])), (q1, .inl (c1, 1040, .inl (fun _ => 0))), (q2, .inl (c2, 1040, .inl (fun _ => 0))), (q3, .inl (c3, 1040, .inl (fun _ => 0)))] := hD
  have hK : va_K (dC, dI) vwCl [(c1, .int), (c2, .int), (c3, .int)] s := hK
  refine W.widen (k := 3) (n := 3120) (Nat.le_refl _) (Nat.le_refl _) ?_
  refine va_putF (D := (dC, dI)) (ci := 1) (v := .ref q3) (ty := .array .int) (C := "GuessFences$Listing") (T := gf_T1) (N := 8) hx hb hts lays_1 gf_y1 gf_ty1 gf_nm1 hown hK hP hD hS 0 rfl rfl 2 (by decide) (hts (.fieldLink "GuessFences$Listing" 18 "GuessFences$Listing" "result" "[I") (gv_i1 54 rfl rfl)) (fun _ h9 => h9) rfl hin rfl (by decide +kernel) rfl rfl (Nat.le_of_ble_eq_true rfl) (by decide +kernel) (fun H locs hP hD hS => ?_)
  have hP : va_P (dC, dI) vwCl [(h0, .inr (1, [.ref q1, .ref q2, .ref q3, .null, .null, .null, .null, .int 0])), (q1, .inl (c1, 1040, .inl (fun _ => 0))), (q2, .inl (c2, 1040, .inl (fun _ => 0))), (q3, .inl (c3, 1040, .inl (fun _ => 0)))] H := hP
  have hD : va_D A [(h0, .inr (1, [.ref q1, .ref q2, .ref q3, .null, .null, .null, .null, .int 0])), (q1, .inl (c1, 1040, .inl (fun _ => 0))), (q2, .inl (c2, 1040, .inl (fun _ => 0))), (q3, .inl (c3, 1040, .inl (fun _ => 0)))] := hD
  refine lv_aload_n hx hb (show decode prog_6_method_1_code 31 = .ok (.aload_n 0, 1) from by decide +kernel) rfl (lv_at hl 0 rfl) ?_
  refine lv_sipush (n := 1040) (v := 1040) hx hb (by decide +kernel) (by decide) ?_
  refine va_newa (atype := .int) (ty := .int) (a0 := (1040, .inl (fun _ => 0))) hx hb (gc_arr hT args (ty := .int) (by simp)) rfl hK hP hD hS hA (fun _ => rfl) (by decide) (N' := 1040) (by decide) (by decide) (Nat.le_of_ble_eq_true rfl) (Nat.le_of_ble_eq_true rfl) (show decode prog_6_method_1_code 35 = .ok (.newarray .int, 2) from by decide +kernel) (fun q4 c4 H hK hP hD hS => ?_)
  have hP : va_P (dC, dI) vwCl [(h0, .inr (1, [.ref q1, .ref q2, .ref q3, .null, .null, .null, .null, .int 0])), (q1, .inl (c1, 1040, .inl (fun _ => 0))), (q2, .inl (c2, 1040, .inl (fun _ => 0))), (q3, .inl (c3, 1040, .inl (fun _ => 0))), (q4, .inl (c4, 1040, .inl (fun _ => 0)))] H := hP
  have hD : va_D A [(h0, .inr (1, [.ref q1, .ref q2, .ref q3, .null, .null, .null, .null, .int 0])), (q1, .inl (c1, 1040, .inl (fun _ => 0))), (q2, .inl (c2, 1040, .inl (fun _ => 0))), (q3, .inl (c3, 1040, .inl (fun _ => 0))), (q4, .inl (c4, 1040, .inl (fun _ => 0)))] := hD
  have hK : va_K (dC, dI) vwCl [(c1, .int), (c2, .int), (c3, .int), (c4, .int)] s := hK
  refine W.widen (k := 4) (n := 4160) (Nat.le_refl _) (Nat.le_refl _) ?_
  refine va_putF (D := (dC, dI)) (ci := 1) (v := .ref q4) (ty := .array .int) (C := "GuessFences$Listing") (T := gf_T1) (N := 8) hx hb hts lays_1 gf_y1 gf_ty1 gf_nm1 hown hK hP hD hS 0 rfl rfl 3 (by decide) (hts (.fieldLink "GuessFences$Listing" 21 "GuessFences$Listing" "first" "[I") (gv_i1 58 rfl rfl)) (fun _ h9 => h9) rfl hin rfl (by decide +kernel) rfl rfl (Nat.le_of_ble_eq_true rfl) (by decide +kernel) (fun H locs hP hD hS => ?_)
  have hP : va_P (dC, dI) vwCl [(h0, .inr (1, [.ref q1, .ref q2, .ref q3, .ref q4, .null, .null, .null, .int 0])), (q1, .inl (c1, 1040, .inl (fun _ => 0))), (q2, .inl (c2, 1040, .inl (fun _ => 0))), (q3, .inl (c3, 1040, .inl (fun _ => 0))), (q4, .inl (c4, 1040, .inl (fun _ => 0)))] H := hP
  have hD : va_D A [(h0, .inr (1, [.ref q1, .ref q2, .ref q3, .ref q4, .null, .null, .null, .int 0])), (q1, .inl (c1, 1040, .inl (fun _ => 0))), (q2, .inl (c2, 1040, .inl (fun _ => 0))), (q3, .inl (c3, 1040, .inl (fun _ => 0))), (q4, .inl (c4, 1040, .inl (fun _ => 0)))] := hD
  refine lv_aload_n hx hb (show decode prog_6_method_1_code 40 = .ok (.aload_n 0, 1) from by decide +kernel) rfl (lv_at hl 0 rfl) ?_
  refine lv_sipush (n := 1040) (v := 1040) hx hb (by decide +kernel) (by decide) ?_
  refine va_newa (atype := .int) (ty := .int) (a0 := (1040, .inl (fun _ => 0))) hx hb (gc_arr hT args (ty := .int) (by simp)) rfl hK hP hD hS hA (fun _ => rfl) (by decide) (N' := 1040) (by decide) (by decide) (Nat.le_of_ble_eq_true rfl) (Nat.le_of_ble_eq_true rfl) (show decode prog_6_method_1_code 44 = .ok (.newarray .int, 2) from by decide +kernel) (fun q5 c5 H hK hP hD hS => ?_)
  have hP : va_P (dC, dI) vwCl [(h0, .inr (1, [.ref q1, .ref q2, .ref q3, .ref q4, .null, .null, .null, .int 0])), (q1, .inl (c1, 1040, .inl (fun _ => 0))), (q2, .inl (c2, 1040, .inl (fun _ => 0))), (q3, .inl (c3, 1040, .inl (fun _ => 0))), (q4, .inl (c4, 1040, .inl (fun _ => 0))), (q5, .inl (c5, 1040, .inl (fun _ => 0)))] H := hP
  have hD : va_D A [(h0, .inr (1, [.ref q1, .ref q2, .ref q3, .ref q4, .null, .null, .null, .int 0])), (q1, .inl (c1, 1040, .inl (fun _ => 0))), (q2, .inl (c2, 1040, .inl (fun _ => 0))), (q3, .inl (c3, 1040, .inl (fun _ => 0))), (q4, .inl (c4, 1040, .inl (fun _ => 0))), (q5, .inl (c5, 1040, .inl (fun _ => 0)))] := hD
  have hK : va_K (dC, dI) vwCl [(c1, .int), (c2, .int), (c3, .int), (c4, .int), (c5, .int)] s := hK
  refine W.widen (k := 5) (n := 5200) (Nat.le_refl _) (Nat.le_refl _) ?_
  refine va_putF (D := (dC, dI)) (ci := 1) (v := .ref q5) (ty := .array .int) (C := "GuessFences$Listing") (T := gf_T1) (N := 8) hx hb hts lays_1 gf_y1 gf_ty1 gf_nm1 hown hK hP hD hS 0 rfl rfl 4 (by decide) (hts (.fieldLink "GuessFences$Listing" 24 "GuessFences$Listing" "second" "[I") (gv_i1 60 rfl rfl)) (fun _ h9 => h9) rfl hin rfl (by decide +kernel) rfl rfl (Nat.le_of_ble_eq_true rfl) (by decide +kernel) (fun H locs hP hD hS => ?_)
  have hP : va_P (dC, dI) vwCl [(h0, .inr (1, [.ref q1, .ref q2, .ref q3, .ref q4, .ref q5, .null, .null, .int 0])), (q1, .inl (c1, 1040, .inl (fun _ => 0))), (q2, .inl (c2, 1040, .inl (fun _ => 0))), (q3, .inl (c3, 1040, .inl (fun _ => 0))), (q4, .inl (c4, 1040, .inl (fun _ => 0))), (q5, .inl (c5, 1040, .inl (fun _ => 0)))] H := hP
  have hD : va_D A [(h0, .inr (1, [.ref q1, .ref q2, .ref q3, .ref q4, .ref q5, .null, .null, .int 0])), (q1, .inl (c1, 1040, .inl (fun _ => 0))), (q2, .inl (c2, 1040, .inl (fun _ => 0))), (q3, .inl (c3, 1040, .inl (fun _ => 0))), (q4, .inl (c4, 1040, .inl (fun _ => 0))), (q5, .inl (c5, 1040, .inl (fun _ => 0)))] := hD
  refine lv_aload_n hx hb (show decode prog_6_method_1_code 49 = .ok (.aload_n 0, 1) from by decide +kernel) rfl (lv_at hl 0 rfl) ?_
  refine lv_sipush (n := 1040) (v := 1040) hx hb (by decide +kernel) (by decide) ?_
  refine va_newa (atype := .int) (ty := .int) (a0 := (1040, .inl (fun _ => 0))) hx hb (gc_arr hT args (ty := .int) (by simp)) rfl hK hP hD hS hA (fun _ => rfl) (by decide) (N' := 1040) (by decide) (by decide) (Nat.le_of_ble_eq_true rfl) (Nat.le_of_ble_eq_true rfl) (show decode prog_6_method_1_code 53 = .ok (.newarray .int, 2) from by decide +kernel) (fun q6 c6 H hK hP hD hS => ?_)
  have hP : va_P (dC, dI) vwCl [(h0, .inr (1, [.ref q1, .ref q2, .ref q3, .ref q4, .ref q5, .null, .null, .int 0])), (q1, .inl (c1, 1040, .inl (fun _ => 0))), (q2, .inl (c2, 1040, .inl (fun _ => 0))), (q3, .inl (c3, 1040, .inl (fun _ => 0))), (q4, .inl (c4, 1040, .inl (fun _ => 0))), (q5, .inl (c5, 1040, .inl (fun _ => 0))), (q6, .inl (c6, 1040, .inl (fun _ => 0)))] H := hP
  have hD : va_D A [(h0, .inr (1, [.ref q1, .ref q2, .ref q3, .ref q4, .ref q5, .null, .null, .int 0])), (q1, .inl (c1, 1040, .inl (fun _ => 0))), (q2, .inl (c2, 1040, .inl (fun _ => 0))), (q3, .inl (c3, 1040, .inl (fun _ => 0))), (q4, .inl (c4, 1040, .inl (fun _ => 0))), (q5, .inl (c5, 1040, .inl (fun _ => 0))), (q6, .inl (c6, 1040, .inl (fun _ => 0)))] := hD
  have hK : va_K (dC, dI) vwCl [(c1, .int), (c2, .int), (c3, .int), (c4, .int), (c5, .int), (c6, .int)] s := hK
  refine W.widen (k := 6) (n := 6240) (Nat.le_refl _) (Nat.le_refl _) ?_
  refine va_putF (D := (dC, dI)) (ci := 1) (v := .ref q6) (ty := .array .int) (C := "GuessFences$Listing") (T := gf_T1) (N := 8) hx hb hts lays_1 gf_y1 gf_ty1 gf_nm1 hown hK hP hD hS 0 rfl rfl 5 (by decide) (hts (.fieldLink "GuessFences$Listing" 27 "GuessFences$Listing" "number" "[I") (gv_i1 62 rfl rfl)) (fun _ h9 => h9) rfl hin rfl (by decide +kernel) rfl rfl (Nat.le_of_ble_eq_true rfl) (by decide +kernel) (fun H locs hP hD hS => ?_)
  have hP : va_P (dC, dI) vwCl [(h0, .inr (1, [.ref q1, .ref q2, .ref q3, .ref q4, .ref q5, .ref q6, .null, .int 0])), (q1, .inl (c1, 1040, .inl (fun _ => 0))), (q2, .inl (c2, 1040, .inl (fun _ => 0))), (q3, .inl (c3, 1040, .inl (fun _ => 0))), (q4, .inl (c4, 1040, .inl (fun _ => 0))), (q5, .inl (c5, 1040, .inl (fun _ => 0))), (q6, .inl (c6, 1040, .inl (fun _ => 0)))] H := hP
  have hD : va_D A [(h0, .inr (1, [.ref q1, .ref q2, .ref q3, .ref q4, .ref q5, .ref q6, .null, .int 0])), (q1, .inl (c1, 1040, .inl (fun _ => 0))), (q2, .inl (c2, 1040, .inl (fun _ => 0))), (q3, .inl (c3, 1040, .inl (fun _ => 0))), (q4, .inl (c4, 1040, .inl (fun _ => 0))), (q5, .inl (c5, 1040, .inl (fun _ => 0))), (q6, .inl (c6, 1040, .inl (fun _ => 0)))] := hD
  refine lv_aload_n hx hb (show decode prog_6_method_1_code 58 = .ok (.aload_n 0, 1) from by decide +kernel) rfl (lv_at hl 0 rfl) ?_
  refine lv_sipush (n := 1040) (v := 1040) hx hb (by decide +kernel) (by decide) ?_
  refine va_newa (atype := .int) (ty := .int) (a0 := (1040, .inl (fun _ => 0))) hx hb (gc_arr hT args (ty := .int) (by simp)) rfl hK hP hD hS hA (fun _ => rfl) (by decide) (N' := 1040) (by decide) (by decide) (Nat.le_of_ble_eq_true rfl) (Nat.le_of_ble_eq_true rfl) (show decode prog_6_method_1_code 62 = .ok (.newarray .int, 2) from by decide +kernel) (fun q7 c7 H hK hP hD hS => ?_)
  have hP : va_P (dC, dI) vwCl [(h0, .inr (1, [.ref q1, .ref q2, .ref q3, .ref q4, .ref q5, .ref q6, .null, .int 0])), (q1, .inl (c1, 1040, .inl (fun _ => 0))), (q2, .inl (c2, 1040, .inl (fun _ => 0))), (q3, .inl (c3, 1040, .inl (fun _ => 0))), (q4, .inl (c4, 1040, .inl (fun _ => 0))), (q5, .inl (c5, 1040, .inl (fun _ => 0))), (q6, .inl (c6, 1040, .inl (fun _ => 0))), (q7, .inl (c7, 1040, .inl (fun _ => 0)))] H := hP
  have hD : va_D A [(h0, .inr (1, [.ref q1, .ref q2, .ref q3, .ref q4, .ref q5, .ref q6, .null, .int 0])), (q1, .inl (c1, 1040, .inl (fun _ => 0))), (q2, .inl (c2, 1040, .inl (fun _ => 0))), (q3, .inl (c3, 1040, .inl (fun _ => 0))), (q4, .inl (c4, 1040, .inl (fun _ => 0))), (q5, .inl (c5, 1040, .inl (fun _ => 0))), (q6, .inl (c6, 1040, .inl (fun _ => 0))), (q7, .inl (c7, 1040, .inl (fun _ => 0)))] := hD
  have hK : va_K (dC, dI) vwCl [(c1, .int), (c2, .int), (c3, .int), (c4, .int), (c5, .int), (c6, .int), (c7, .int)] s := hK
  refine W.widen (k := 7) (n := 7280) (Nat.le_refl _) (Nat.le_refl _) ?_
  refine va_putF (D := (dC, dI)) (ci := 1) (v := .ref q7) (ty := .array .int) (C := "GuessFences$Listing") (T := gf_T1) (N := 8) hx hb hts lays_1 gf_y1 gf_ty1 gf_nm1 hown hK hP hD hS 0 rfl rfl 6 (by decide) (hts (.fieldLink "GuessFences$Listing" 30 "GuessFences$Listing" "target" "[I") (gv_i1 64 rfl rfl)) (fun _ h9 => h9) rfl hin rfl (by decide +kernel) rfl rfl (Nat.le_of_ble_eq_true rfl) (by decide +kernel) (fun H locs hP hD hS => ?_)
  have hP : va_P (dC, dI) vwCl [(h0, .inr (1, [.ref q1, .ref q2, .ref q3, .ref q4, .ref q5, .ref q6, .ref q7, .int 0])), (q1, .inl (c1, 1040, .inl (fun _ => 0))), (q2, .inl (c2, 1040, .inl (fun _ => 0))), (q3, .inl (c3, 1040, .inl (fun _ => 0))), (q4, .inl (c4, 1040, .inl (fun _ => 0))), (q5, .inl (c5, 1040, .inl (fun _ => 0))), (q6, .inl (c6, 1040, .inl (fun _ => 0))), (q7, .inl (c7, 1040, .inl (fun _ => 0)))] H := hP
  have hD : va_D A [(h0, .inr (1, [.ref q1, .ref q2, .ref q3, .ref q4, .ref q5, .ref q6, .ref q7, .int 0])), (q1, .inl (c1, 1040, .inl (fun _ => 0))), (q2, .inl (c2, 1040, .inl (fun _ => 0))), (q3, .inl (c3, 1040, .inl (fun _ => 0))), (q4, .inl (c4, 1040, .inl (fun _ => 0))), (q5, .inl (c5, 1040, .inl (fun _ => 0))), (q6, .inl (c6, 1040, .inl (fun _ => 0))), (q7, .inl (c7, 1040, .inl (fun _ => 0)))] := hD
  refine lv_aload_n hx hb (show decode prog_6_method_1_code 67 = .ok (.aload_n 0, 1) from by decide +kernel) rfl (lv_at hl 0 rfl) ?_
  refine lv_iconst (n := 0) (v := 0) hx hb (by decide +kernel) (by decide) ?_
  refine va_put (D := (dC, dI)) (ci := 1) (v := .int 0) (ty := .int) (C := "GuessFences$Listing") (T := gf_T1) (N := 8) hx hb hts lays_1 gf_y1 gf_ty1 gf_nm1 hown hK hP hD hS 0 rfl rfl 7 (by decide) (hts (.fieldLink "GuessFences$Listing" 33 "GuessFences$Listing" "size" "I") (gv_i1 67 rfl rfl)) (fun _ h9 => h9) rfl (by decide +kernel) rfl rfl (Nat.le_of_ble_eq_true rfl) (by decide +kernel) (fun H locs hP hD hS => ?_)
  have hP : va_P (dC, dI) vwCl [(h0, .inr (1, [.ref q1, .ref q2, .ref q3, .ref q4, .ref q5, .ref q6, .ref q7, .int 0])), (q1, .inl (c1, 1040, .inl (fun _ => 0))), (q2, .inl (c2, 1040, .inl (fun _ => 0))), (q3, .inl (c3, 1040, .inl (fun _ => 0))), (q4, .inl (c4, 1040, .inl (fun _ => 0))), (q5, .inl (c5, 1040, .inl (fun _ => 0))), (q6, .inl (c6, 1040, .inl (fun _ => 0))), (q7, .inl (c7, 1040, .inl (fun _ => 0)))] H := hP
  have hD : va_D A [(h0, .inr (1, [.ref q1, .ref q2, .ref q3, .ref q4, .ref q5, .ref q6, .ref q7, .int 0])), (q1, .inl (c1, 1040, .inl (fun _ => 0))), (q2, .inl (c2, 1040, .inl (fun _ => 0))), (q3, .inl (c3, 1040, .inl (fun _ => 0))), (q4, .inl (c4, 1040, .inl (fun _ => 0))), (q5, .inl (c5, 1040, .inl (fun _ => 0))), (q6, .inl (c6, 1040, .inl (fun _ => 0))), (q7, .inl (c7, 1040, .inl (fun _ => 0)))] := hD
  exact W.vret hx hb hr (fun t ht hW => ⟨⟨(), rfl, trivial, q1, q2, q3, q4, q5, q6, q7, c1, c2, c3, c4, c5, c6, c7, by rw [ht]; exact hP, va_K.moved hW.alike hK, hD⟩, hS.F ht⟩) hS.2.2 (by decide +kernel)

set_option maxHeartbeats 4000000 in
set_option maxRecDepth 100000 in
theorem k_Leaks_init (l : Launch) (dC : Nat → ClassId) (dI : Nat → Nat → Nat) (h0 : Nat) (sz : Nat) : Met l ⟨"GuessFences$Leaks", "<init>", "()V"⟩ [.code ⟨"GuessFences$Leaks", "<init>", "()V"⟩ prog_5_method_1_code 1 none] (gc_rm 8 1 2048) (va_Pc [.ref h0] (gc_P dC dI sz [(h0, .inr (3, [.null, .int 0]))])) (va_Qv (fun _ : Unit => True) (fun _ t => ∃ (q1 : Nat) (c1 : ClassId), va_P (dC, dI) vwCl [(h0, .inr (3, [.ref q1, .int 0])), (q1, .inl (c1, 2048, .inr (.inl (fun _ => 0))))] t.heap ∧ va_K (dC, dI) vwCl [(c1, .long)] t ∧ va_D (va_A [(h0, .inr (3, [.null, .int 0]))] sz) [(h0, .inr (3, [.ref q1, .int 0])), (q1, .inl (c1, 2048, .inr (.inl (fun _ => 0))))]) (va_A [(h0, .inr (3, [.null, .int 0]))] sz)) 1 2048 (va_A [(h0, .inr (3, [.null, .int 0]))] sz) := by
  refine Met.ofW (cc := prog_5_method_1_code) (maxL := 1) (ret := none) (by decide) rfl ?_
  intro p e s m args below meth c s₁ B hml hv
  obtain ⟨rfl, hsz, hT, hP, hK, hD0⟩ := hv
  have hx := B.exec
  have hb := B.bytes
  have hr := B.returns
  have hown : s.vm.findClass "GuessFences$Leaks" = some m.cls := findClass_of_methodNamed B.named
  have hlocks := B.notSynchronized
  have hin : meth.name = "<init>" := (name_of_methodNamed B.named B.method).1
  subst hsz
  generalize hargs : ([.ref h0] : List Value).toArray = args
  have hD := hD0.self (sz := s.heap.size)
  generalize hAe : va_A [(h0, .inr (3, [.null, .int 0]))] s.heap.size = A at hD ⊢
  have hA : ∀ q : Nat, s.heap.size ≤ q → A q := fun q h => by rw [← hAe]; exact Or.inr h
  have hS : va_S A s.heap s.heap [] := va_S.rf
  have hts := gc_hts hT args
  rw [← hargs]
  have hl := lv_entry ([.ref h0]) (n := 1) (Nat.le_of_ble_eq_true rfl)
  rw [lg_entry_eq]
  generalize (lg_sl ([.ref h0]) ++ List.replicate (1 - (lg_sl ([.ref h0])).length) Slot.unset).toArray = ls at hl ⊢
  rw [hargs]
  have hl : lv_has ls 1 [(0, .ref h0)] := hl
  refine lv_aload_n hx hb (show decode prog_5_method_1_code 0 = .ok (.aload_n 0, 1) from by decide +kernel) rfl (lv_at hl 0 rfl) ?_
  refine W.objInit hx hb hown (hts (.methodLink "GuessFences$Leaks" 3 objectInit) (gv_i1 103 rfl rfl)) (hts (.instanceMethod objectInit) (gv_i1 38 rfl rfl)) (hts (.code objectInit ⟨#[0xb1]⟩ 1 none) (gv_i1 39 rfl rfl)) rfl (by rw [hml]; exact hl.1) rfl (show decode prog_5_method_1_code 1 = .ok (.invokespecial 3, 3) from by decide +kernel) (Nat.le_of_ble_eq_true rfl) (Nat.le_of_ble_eq_true rfl) ?_
  refine W.eq (g2 := F0 m 4 ls []) rfl ?_
  refine lv_aload_n hx hb (show decode prog_5_method_1_code 4 = .ok (.aload_n 0, 1) from by decide +kernel) rfl (lv_at hl 0 rfl) ?_
  refine lv_sipush (n := 2048) (v := 2048) hx hb (by decide +kernel) (by decide) ?_
  refine va_newa (atype := .long) (ty := .long) (a0 := (2048, .inr (.inl (fun _ => 0)))) hx hb (gc_arr hT args (ty := .long) (by simp)) rfl hK hP hD hS hA (fun _ => rfl) (by decide) (N' := 2048) (by decide) (by decide) (Nat.le_of_ble_eq_true rfl) (Nat.le_of_ble_eq_true rfl) (show decode prog_5_method_1_code 8 = .ok (.newarray .long, 2) from by decide +kernel) (fun q1 c1 H hK hP hD hS => ?_)
  have hP : va_P (dC, dI) vwCl [(h0, .inr (3, [.null, .int 0])), (q1, .inl (c1, 2048, .inr (.inl (fun _ => 0))))] H := hP
  have hD : va_D A [(h0, .inr (3, [.null, .int 0])), (q1, .inl (c1, 2048, .inr (.inl (fun _ => 0))))] := hD
  have hK : va_K (dC, dI) vwCl [(c1, .long)] s := hK
  refine W.widen (k := 1) (n := 2048) (Nat.le_refl _) (Nat.le_refl _) ?_
  refine va_putF (D := (dC, dI)) (ci := 3) (v := .ref q1) (ty := .array .long) (C := "GuessFences$Leaks") (T := gf_T3) (N := 2) hx hb hts lays_3 gf_y3 gf_ty3 gf_nm3 hown hK hP hD hS 0 rfl rfl 0 (by decide) (hts (.fieldLink "GuessFences$Leaks" 11 "GuessFences$Leaks" "pairs" "[J") (gv_i1 104 rfl rfl)) (fun _ h9 => h9) rfl hin rfl (by decide +kernel) rfl rfl (Nat.le_of_ble_eq_true rfl) (by decide +kernel) (fun H locs hP hD hS => ?_)
  have hP : va_P (dC, dI) vwCl [(h0, .inr (3, [.ref q1, .int 0])), (q1, .inl (c1, 2048, .inr (.inl (fun _ => 0))))] H := hP
  have hD : va_D A [(h0, .inr (3, [.ref q1, .int 0])), (q1, .inl (c1, 2048, .inr (.inl (fun _ => 0))))] := hD
  refine lv_aload_n hx hb (show decode prog_5_method_1_code 13 = .ok (.aload_n 0, 1) from by decide +kernel) rfl (lv_at hl 0 rfl) ?_
  refine lv_iconst (n := 0) (v := 0) hx hb (by decide +kernel) (by decide) ?_
  refine va_put (D := (dC, dI)) (ci := 3) (v := .int 0) (ty := .int) (C := "GuessFences$Leaks") (T := gf_T3) (N := 2) hx hb hts lays_3 gf_y3 gf_ty3 gf_nm3 hown hK hP hD hS 0 rfl rfl 1 (by decide) (hts (.fieldLink "GuessFences$Leaks" 15 "GuessFences$Leaks" "count" "I") (gv_i1 105 rfl rfl)) (fun _ h9 => h9) rfl (by decide +kernel) rfl rfl (Nat.le_of_ble_eq_true rfl) (by decide +kernel) (fun H locs hP hD hS => ?_)
  have hP : va_P (dC, dI) vwCl [(h0, .inr (3, [.ref q1, .int 0])), (q1, .inl (c1, 2048, .inr (.inl (fun _ => 0))))] H := hP
  have hD : va_D A [(h0, .inr (3, [.ref q1, .int 0])), (q1, .inl (c1, 2048, .inr (.inl (fun _ => 0))))] := hD
  exact W.vret hx hb hr (fun t ht hW => ⟨⟨(), rfl, trivial, q1, c1, by rw [ht]; exact hP, va_K.moved hW.alike hK, hD⟩, hS.F ht⟩) hS.2.2 (by decide +kernel)

set_option maxHeartbeats 4000000 in
set_option maxRecDepth 100000 in
theorem k_Guesses_init (l : Launch) (dC : Nat → ClassId) (dI : Nat → Nat → Nat) (h0 : Nat) (sz : Nat) : Met l ⟨"GuessFences$Guesses", "<init>", "()V"⟩ [.code ⟨"GuessFences$Guesses", "<init>", "()V"⟩ prog_4_method_1_code 1 none] (gc_rm 8 5 4656) (va_Pc [.ref h0] (gc_P dC dI sz [(h0, .inr (4, [.null, .null, .null, .null, .null, .int 0, .int 0, .int 0]))])) (va_Qv (fun _ : Unit => True) (fun _ t => ∃ (q1 q2 q3 q4 q5 : Nat) (c1 c2 c3 c4 c5 : ClassId), va_P (dC, dI) vwCl [(h0, .inr (4, [.ref q1, .ref q2, .ref q3, .ref q4, .ref q5, .int 0, .int 0, .int 0])), (q1, .inl (c1, 512, .inl (fun _ => 0))), (q2, .inl (c2, 4096, .inl (fun _ => 0))), (q3, .inl (c3, 16, .inl (fun _ => 0))), (q4, .inl (c4, 16, .inl (fun _ => 0))), (q5, .inl (c5, 16, .inl (fun _ => 0)))] t.heap ∧ va_K (dC, dI) vwCl [(c1, .int), (c2, .byte), (c3, .int), (c4, .int), (c5, .int)] t ∧ va_D (va_A [(h0, .inr (4, [.null, .null, .null, .null, .null, .int 0, .int 0, .int 0]))] sz) [(h0, .inr (4, [.ref q1, .ref q2, .ref q3, .ref q4, .ref q5, .int 0, .int 0, .int 0])), (q1, .inl (c1, 512, .inl (fun _ => 0))), (q2, .inl (c2, 4096, .inl (fun _ => 0))), (q3, .inl (c3, 16, .inl (fun _ => 0))), (q4, .inl (c4, 16, .inl (fun _ => 0))), (q5, .inl (c5, 16, .inl (fun _ => 0)))]) (va_A [(h0, .inr (4, [.null, .null, .null, .null, .null, .int 0, .int 0, .int 0]))] sz)) 5 4656 (va_A [(h0, .inr (4, [.null, .null, .null, .null, .null, .int 0, .int 0, .int 0]))] sz) := by
  refine Met.ofW (cc := prog_4_method_1_code) (maxL := 1) (ret := none) (by decide) rfl ?_
  intro p e s m args below meth c s₁ B hml hv
  obtain ⟨rfl, hsz, hT, hP, hK, hD0⟩ := hv
  have hx := B.exec
  have hb := B.bytes
  have hr := B.returns
  have hown : s.vm.findClass "GuessFences$Guesses" = some m.cls := findClass_of_methodNamed B.named
  have hlocks := B.notSynchronized
  have hin : meth.name = "<init>" := (name_of_methodNamed B.named B.method).1
  subst hsz
  generalize hargs : ([.ref h0] : List Value).toArray = args
  have hD := hD0.self (sz := s.heap.size)
  generalize hAe : va_A [(h0, .inr (4, [.null, .null, .null, .null, .null, .int 0, .int 0, .int 0]))] s.heap.size = A at hD ⊢
  have hA : ∀ q : Nat, s.heap.size ≤ q → A q := fun q h => by rw [← hAe]; exact Or.inr h
  have hS : va_S A s.heap s.heap [] := va_S.rf
  have hts := gc_hts hT args
  rw [← hargs]
  have hl := lv_entry ([.ref h0]) (n := 1) (Nat.le_of_ble_eq_true rfl)
  rw [lg_entry_eq]
  generalize (lg_sl ([.ref h0]) ++ List.replicate (1 - (lg_sl ([.ref h0])).length) Slot.unset).toArray = ls at hl ⊢
  rw [hargs]
  have hl : lv_has ls 1 [(0, .ref h0)] := hl
  refine lv_aload_n hx hb (show decode prog_4_method_1_code 0 = .ok (.aload_n 0, 1) from by decide +kernel) rfl (lv_at hl 0 rfl) ?_
  refine W.objInit hx hb hown (hts (.methodLink "GuessFences$Guesses" 3 objectInit) (gv_i1 119 rfl rfl)) (hts (.instanceMethod objectInit) (gv_i1 38 rfl rfl)) (hts (.code objectInit ⟨#[0xb1]⟩ 1 none) (gv_i1 39 rfl rfl)) rfl (by rw [hml]; exact hl.1) rfl (show decode prog_4_method_1_code 1 = .ok (.invokespecial 3, 3) from by decide +kernel) (Nat.le_of_ble_eq_true rfl) (Nat.le_of_ble_eq_true rfl) ?_
  refine W.eq (g2 := F0 m 4 ls []) rfl ?_
  refine lv_aload_n hx hb (show decode prog_4_method_1_code 4 = .ok (.aload_n 0, 1) from by decide +kernel) rfl (lv_at hl 0 rfl) ?_
  refine lv_sipush (n := 512) (v := 512) hx hb (by decide +kernel) (by decide) ?_
  refine va_newa (atype := .int) (ty := .int) (a0 := (512, .inl (fun _ => 0))) hx hb (gc_arr hT args (ty := .int) (by simp)) rfl hK hP hD hS hA (fun _ => rfl) (by decide) (N' := 512) (by decide) (by decide) (Nat.le_of_ble_eq_true rfl) (Nat.le_of_ble_eq_true rfl) (show decode prog_4_method_1_code 8 = .ok (.newarray .int, 2) from by decide +kernel) (fun q1 c1 H hK hP hD hS => ?_)
  have hP : va_P (dC, dI) vwCl [(h0, .inr (4, [.null, .null, .null, .null, .null, .int 0, .int 0, .int 0])), (q1, .inl (c1, 512, .inl (fun _ => 0)))] H := hP
  have hD : va_D A [(h0, .inr (4, [.null, .null, .null, .null, .null, .int 0, .int 0, .int 0])), (q1, .inl (c1, 512, .inl (fun _ => 0)))] := hD
  have hK : va_K (dC, dI) vwCl [(c1, .int)] s := hK
  refine W.widen (k := 1) (n := 512) (Nat.le_refl _) (Nat.le_refl _) ?_
  refine va_putF (D := (dC, dI)) (ci := 4) (v := .ref q1) (ty := .array .int) (C := "GuessFences$Guesses") (T := gf_T4) (N := 8) hx hb hts lays_4 gf_y4 gf_ty4 gf_nm4 hown hK hP hD hS 0 rfl rfl 0 (by decide) (hts (.fieldLink "GuessFences$Guesses" 11 "GuessFences$Guesses" "registers" "[I") (gv_i1 120 rfl rfl)) (fun _ h9 => h9) rfl hin rfl (by decide +kernel) rfl rfl (Nat.le_of_ble_eq_true rfl) (by decide +kernel) (fun H locs hP hD hS => ?_)
  have hP : va_P (dC, dI) vwCl [(h0, .inr (4, [.ref q1, .null, .null, .null, .null, .int 0, .int 0, .int 0])), (q1, .inl (c1, 512, .inl (fun _ => 0)))] H := hP
  have hD : va_D A [(h0, .inr (4, [.ref q1, .null, .null, .null, .null, .int 0, .int 0, .int 0])), (q1, .inl (c1, 512, .inl (fun _ => 0)))] := hD
  refine lv_aload_n hx hb (show decode prog_4_method_1_code 13 = .ok (.aload_n 0, 1) from by decide +kernel) rfl (lv_at hl 0 rfl) ?_
  refine lv_sipush (n := 4096) (v := 4096) hx hb (by decide +kernel) (by decide) ?_
  refine va_newa (atype := .byte) (ty := .byte) (a0 := (4096, .inl (fun _ => 0))) hx hb (gc_arr hT args (ty := .byte) (by simp)) rfl hK hP hD hS hA (fun _ => rfl) (by decide) (N' := 4096) (by decide) (by decide) (Nat.le_of_ble_eq_true rfl) (Nat.le_of_ble_eq_true rfl) (show decode prog_4_method_1_code 17 = .ok (.newarray .byte, 2) from by decide +kernel) (fun q2 c2 H hK hP hD hS => ?_)
  have hP : va_P (dC, dI) vwCl [(h0, .inr (4, [.ref q1, .null, .null, .null, .null, .int 0, .int 0, .int 0])), (q1, .inl (c1, 512, .inl (fun _ => 0))), (q2, .inl (c2, 4096, .inl (fun _ => 0)))] H := hP
  have hD : va_D A [(h0, .inr (4, [.ref q1, .null, .null, .null, .null, .int 0, .int 0, .int 0])), (q1, .inl (c1, 512, .inl (fun _ => 0))), (q2, .inl (c2, 4096, .inl (fun _ => 0)))] := hD
  have hK : va_K (dC, dI) vwCl [(c1, .int), (c2, .byte)] s := hK
  refine W.widen (k := 2) (n := 4608) (Nat.le_refl _) (Nat.le_refl _) ?_
  refine va_putF (D := (dC, dI)) (ci := 4) (v := .ref q2) (ty := .array .byte) (C := "GuessFences$Guesses") (T := gf_T4) (N := 8) hx hb hts lays_4 gf_y4 gf_ty4 gf_nm4 hown hK hP hD hS 0 rfl rfl 1 (by decide) (hts (.fieldLink "GuessFences$Guesses" 15 "GuessFences$Guesses" "memory" "[B") (gv_i1 121 rfl rfl)) (fun _ h9 => h9) rfl hin rfl (by decide +kernel) rfl rfl (Nat.le_of_ble_eq_true rfl) (by decide +kernel) (fun H locs hP hD hS => ?_)
  have hP : va_P (dC, dI) vwCl [(h0, .inr (4, [.ref q1, .ref q2, .null, .null, .null, .int 0, .int 0, .int 0])), (q1, .inl (c1, 512, .inl (fun _ => 0))), (q2, .inl (c2, 4096, .inl (fun _ => 0)))] H := hP
  have hD : va_D A [(h0, .inr (4, [.ref q1, .ref q2, .null, .null, .null, .int 0, .int 0, .int 0])), (q1, .inl (c1, 512, .inl (fun _ => 0))), (q2, .inl (c2, 4096, .inl (fun _ => 0)))] := hD
  refine lv_aload_n hx hb (show decode prog_4_method_1_code 22 = .ok (.aload_n 0, 1) from by decide +kernel) rfl (lv_at hl 0 rfl) ?_
  refine lv_bipush (n := 16) (v := 16) hx hb (by decide +kernel) (by decide) ?_
  refine va_newa (atype := .int) (ty := .int) (a0 := (16, .inl (fun _ => 0))) hx hb (gc_arr hT args (ty := .int) (by simp)) rfl hK hP hD hS hA (fun _ => rfl) (by decide) (N' := 16) (by decide) (by decide) (Nat.le_of_ble_eq_true rfl) (Nat.le_of_ble_eq_true rfl) (show decode prog_4_method_1_code 25 = .ok (.newarray .int, 2) from by decide +kernel) (fun q3 c3 H hK hP hD hS => ?_)
  have hP : va_P (dC, dI) vwCl [(h0, .inr (4, [.ref q1, .ref q2, .null, .null, .null, .int 0, .int 0, .int 0])), (q1, .inl (c1, 512, .inl (fun _ => 0))), (q2, .inl (c2, 4096, .inl (fun _ => 0))), (q3, .inl (c3, 16, .inl (fun _ => 0)))] H := hP
  have hD : va_D A [(h0, .inr (4, [.ref q1, .ref q2, .null, .null, .null, .int 0, .int 0, .int 0])), (q1, .inl (c1, 512, .inl (fun _ => 0))), (q2, .inl (c2, 4096, .inl (fun _ => 0))), (q3, .inl (c3, 16, .inl (fun _ => 0)))] := hD
  have hK : va_K (dC, dI) vwCl [(c1, .int), (c2, .byte), (c3, .int)] s := hK
  refine W.widen (k := 3) (n := 4624) (Nat.le_refl _) (Nat.le_refl _) ?_
  refine va_putF (D := (dC, dI)) (ci := 4) (v := .ref q3) (ty := .array .int) (C := "GuessFences$Guesses") (T := gf_T4) (N := 8) hx hb hts lays_4 gf_y4 gf_ty4 gf_nm4 hown hK hP hD hS 0 rfl rfl 2 (by decide) (hts (.fieldLink "GuessFences$Guesses" 19 "GuessFences$Guesses" "went" "[I") (gv_i1 122 rfl rfl)) (fun _ h9 => h9) rfl hin rfl (by decide +kernel) rfl rfl (Nat.le_of_ble_eq_true rfl) (by decide +kernel) (fun H locs hP hD hS => ?_)
  have hP : va_P (dC, dI) vwCl [(h0, .inr (4, [.ref q1, .ref q2, .ref q3, .null, .null, .int 0, .int 0, .int 0])), (q1, .inl (c1, 512, .inl (fun _ => 0))), (q2, .inl (c2, 4096, .inl (fun _ => 0))), (q3, .inl (c3, 16, .inl (fun _ => 0)))] H := hP
  have hD : va_D A [(h0, .inr (4, [.ref q1, .ref q2, .ref q3, .null, .null, .int 0, .int 0, .int 0])), (q1, .inl (c1, 512, .inl (fun _ => 0))), (q2, .inl (c2, 4096, .inl (fun _ => 0))), (q3, .inl (c3, 16, .inl (fun _ => 0)))] := hD
  refine lv_aload_n hx hb (show decode prog_4_method_1_code 30 = .ok (.aload_n 0, 1) from by decide +kernel) rfl (lv_at hl 0 rfl) ?_
  refine lv_bipush (n := 16) (v := 16) hx hb (by decide +kernel) (by decide) ?_
  refine va_newa (atype := .int) (ty := .int) (a0 := (16, .inl (fun _ => 0))) hx hb (gc_arr hT args (ty := .int) (by simp)) rfl hK hP hD hS hA (fun _ => rfl) (by decide) (N' := 16) (by decide) (by decide) (Nat.le_of_ble_eq_true rfl) (Nat.le_of_ble_eq_true rfl) (show decode prog_4_method_1_code 33 = .ok (.newarray .int, 2) from by decide +kernel) (fun q4 c4 H hK hP hD hS => ?_)
  have hP : va_P (dC, dI) vwCl [(h0, .inr (4, [.ref q1, .ref q2, .ref q3, .null, .null, .int 0, .int 0, .int 0])), (q1, .inl (c1, 512, .inl (fun _ => 0))), (q2, .inl (c2, 4096, .inl (fun _ => 0))), (q3, .inl (c3, 16, .inl (fun _ => 0))), (q4, .inl (c4, 16, .inl (fun _ => 0)))] H := hP
  have hD : va_D A [(h0, .inr (4, [.ref q1, .ref q2, .ref q3, .null, .null, .int 0, .int 0, .int 0])), (q1, .inl (c1, 512, .inl (fun _ => 0))), (q2, .inl (c2, 4096, .inl (fun _ => 0))), (q3, .inl (c3, 16, .inl (fun _ => 0))), (q4, .inl (c4, 16, .inl (fun _ => 0)))] := hD
  have hK : va_K (dC, dI) vwCl [(c1, .int), (c2, .byte), (c3, .int), (c4, .int)] s := hK
  refine W.widen (k := 4) (n := 4640) (Nat.le_refl _) (Nat.le_refl _) ?_
  refine va_putF (D := (dC, dI)) (ci := 4) (v := .ref q4) (ty := .array .int) (C := "GuessFences$Guesses") (T := gf_T4) (N := 8) hx hb hts lays_4 gf_y4 gf_ty4 gf_nm4 hown hK hP hD hS 0 rfl rfl 3 (by decide) (hts (.fieldLink "GuessFences$Guesses" 22 "GuessFences$Guesses" "ought" "[I") (gv_i1 123 rfl rfl)) (fun _ h9 => h9) rfl hin rfl (by decide +kernel) rfl rfl (Nat.le_of_ble_eq_true rfl) (by decide +kernel) (fun H locs hP hD hS => ?_)
  have hP : va_P (dC, dI) vwCl [(h0, .inr (4, [.ref q1, .ref q2, .ref q3, .ref q4, .null, .int 0, .int 0, .int 0])), (q1, .inl (c1, 512, .inl (fun _ => 0))), (q2, .inl (c2, 4096, .inl (fun _ => 0))), (q3, .inl (c3, 16, .inl (fun _ => 0))), (q4, .inl (c4, 16, .inl (fun _ => 0)))] H := hP
  have hD : va_D A [(h0, .inr (4, [.ref q1, .ref q2, .ref q3, .ref q4, .null, .int 0, .int 0, .int 0])), (q1, .inl (c1, 512, .inl (fun _ => 0))), (q2, .inl (c2, 4096, .inl (fun _ => 0))), (q3, .inl (c3, 16, .inl (fun _ => 0))), (q4, .inl (c4, 16, .inl (fun _ => 0)))] := hD
  refine lv_aload_n hx hb (show decode prog_4_method_1_code 38 = .ok (.aload_n 0, 1) from by decide +kernel) rfl (lv_at hl 0 rfl) ?_
  refine lv_bipush (n := 16) (v := 16) hx hb (by decide +kernel) (by decide) ?_
  refine va_newa (atype := .int) (ty := .int) (a0 := (16, .inl (fun _ => 0))) hx hb (gc_arr hT args (ty := .int) (by simp)) rfl hK hP hD hS hA (fun _ => rfl) (by decide) (N' := 16) (by decide) (by decide) (Nat.le_of_ble_eq_true rfl) (Nat.le_of_ble_eq_true rfl) (show decode prog_4_method_1_code 41 = .ok (.newarray .int, 2) from by decide +kernel) (fun q5 c5 H hK hP hD hS => ?_)
  have hP : va_P (dC, dI) vwCl [(h0, .inr (4, [.ref q1, .ref q2, .ref q3, .ref q4, .null, .int 0, .int 0, .int 0])), (q1, .inl (c1, 512, .inl (fun _ => 0))), (q2, .inl (c2, 4096, .inl (fun _ => 0))), (q3, .inl (c3, 16, .inl (fun _ => 0))), (q4, .inl (c4, 16, .inl (fun _ => 0))), (q5, .inl (c5, 16, .inl (fun _ => 0)))] H := hP
  have hD : va_D A [(h0, .inr (4, [.ref q1, .ref q2, .ref q3, .ref q4, .null, .int 0, .int 0, .int 0])), (q1, .inl (c1, 512, .inl (fun _ => 0))), (q2, .inl (c2, 4096, .inl (fun _ => 0))), (q3, .inl (c3, 16, .inl (fun _ => 0))), (q4, .inl (c4, 16, .inl (fun _ => 0))), (q5, .inl (c5, 16, .inl (fun _ => 0)))] := hD
  have hK : va_K (dC, dI) vwCl [(c1, .int), (c2, .byte), (c3, .int), (c4, .int), (c5, .int)] s := hK
  refine W.widen (k := 5) (n := 4656) (Nat.le_refl _) (Nat.le_refl _) ?_
  refine va_putF (D := (dC, dI)) (ci := 4) (v := .ref q5) (ty := .array .int) (C := "GuessFences$Guesses") (T := gf_T4) (N := 8) hx hb hts lays_4 gf_y4 gf_ty4 gf_nm4 hown hK hP hD hS 0 rfl rfl 4 (by decide) (hts (.fieldLink "GuessFences$Guesses" 25 "GuessFences$Guesses" "stepsThen" "[I") (gv_i1 124 rfl rfl)) (fun _ h9 => h9) rfl hin rfl (by decide +kernel) rfl rfl (Nat.le_of_ble_eq_true rfl) (by decide +kernel) (fun H locs hP hD hS => ?_)
  have hP : va_P (dC, dI) vwCl [(h0, .inr (4, [.ref q1, .ref q2, .ref q3, .ref q4, .ref q5, .int 0, .int 0, .int 0])), (q1, .inl (c1, 512, .inl (fun _ => 0))), (q2, .inl (c2, 4096, .inl (fun _ => 0))), (q3, .inl (c3, 16, .inl (fun _ => 0))), (q4, .inl (c4, 16, .inl (fun _ => 0))), (q5, .inl (c5, 16, .inl (fun _ => 0)))] H := hP
  have hD : va_D A [(h0, .inr (4, [.ref q1, .ref q2, .ref q3, .ref q4, .ref q5, .int 0, .int 0, .int 0])), (q1, .inl (c1, 512, .inl (fun _ => 0))), (q2, .inl (c2, 4096, .inl (fun _ => 0))), (q3, .inl (c3, 16, .inl (fun _ => 0))), (q4, .inl (c4, 16, .inl (fun _ => 0))), (q5, .inl (c5, 16, .inl (fun _ => 0)))] := hD
  refine lv_aload_n hx hb (show decode prog_4_method_1_code 46 = .ok (.aload_n 0, 1) from by decide +kernel) rfl (lv_at hl 0 rfl) ?_
  refine lv_iconst (n := 0) (v := 0) hx hb (by decide +kernel) (by decide) ?_
  refine va_put (D := (dC, dI)) (ci := 4) (v := .int 0) (ty := .int) (C := "GuessFences$Guesses") (T := gf_T4) (N := 8) hx hb hts lays_4 gf_y4 gf_ty4 gf_nm4 hown hK hP hD hS 0 rfl rfl 5 (by decide) (hts (.fieldLink "GuessFences$Guesses" 28 "GuessFences$Guesses" "oldest" "I") (gv_i1 125 rfl rfl)) (fun _ h9 => h9) rfl (by decide +kernel) rfl rfl (Nat.le_of_ble_eq_true rfl) (by decide +kernel) (fun H locs hP hD hS => ?_)
  have hP : va_P (dC, dI) vwCl [(h0, .inr (4, [.ref q1, .ref q2, .ref q3, .ref q4, .ref q5, .int 0, .int 0, .int 0])), (q1, .inl (c1, 512, .inl (fun _ => 0))), (q2, .inl (c2, 4096, .inl (fun _ => 0))), (q3, .inl (c3, 16, .inl (fun _ => 0))), (q4, .inl (c4, 16, .inl (fun _ => 0))), (q5, .inl (c5, 16, .inl (fun _ => 0)))] H := hP
  have hD : va_D A [(h0, .inr (4, [.ref q1, .ref q2, .ref q3, .ref q4, .ref q5, .int 0, .int 0, .int 0])), (q1, .inl (c1, 512, .inl (fun _ => 0))), (q2, .inl (c2, 4096, .inl (fun _ => 0))), (q3, .inl (c3, 16, .inl (fun _ => 0))), (q4, .inl (c4, 16, .inl (fun _ => 0))), (q5, .inl (c5, 16, .inl (fun _ => 0)))] := hD
  refine lv_aload_n hx hb (show decode prog_4_method_1_code 51 = .ok (.aload_n 0, 1) from by decide +kernel) rfl (lv_at hl 0 rfl) ?_
  refine lv_iconst (n := 0) (v := 0) hx hb (by decide +kernel) (by decide) ?_
  refine va_put (D := (dC, dI)) (ci := 4) (v := .int 0) (ty := .int) (C := "GuessFences$Guesses") (T := gf_T4) (N := 8) hx hb hts lays_4 gf_y4 gf_ty4 gf_nm4 hown hK hP hD hS 0 rfl rfl 6 (by decide) (hts (.fieldLink "GuessFences$Guesses" 32 "GuessFences$Guesses" "open" "I") (gv_i1 126 rfl rfl)) (fun _ h9 => h9) rfl (by decide +kernel) rfl rfl (Nat.le_of_ble_eq_true rfl) (by decide +kernel) (fun H locs hP hD hS => ?_)
  have hP : va_P (dC, dI) vwCl [(h0, .inr (4, [.ref q1, .ref q2, .ref q3, .ref q4, .ref q5, .int 0, .int 0, .int 0])), (q1, .inl (c1, 512, .inl (fun _ => 0))), (q2, .inl (c2, 4096, .inl (fun _ => 0))), (q3, .inl (c3, 16, .inl (fun _ => 0))), (q4, .inl (c4, 16, .inl (fun _ => 0))), (q5, .inl (c5, 16, .inl (fun _ => 0)))] H := hP
  have hD : va_D A [(h0, .inr (4, [.ref q1, .ref q2, .ref q3, .ref q4, .ref q5, .int 0, .int 0, .int 0])), (q1, .inl (c1, 512, .inl (fun _ => 0))), (q2, .inl (c2, 4096, .inl (fun _ => 0))), (q3, .inl (c3, 16, .inl (fun _ => 0))), (q4, .inl (c4, 16, .inl (fun _ => 0))), (q5, .inl (c5, 16, .inl (fun _ => 0)))] := hD
  refine lv_aload_n hx hb (show decode prog_4_method_1_code 56 = .ok (.aload_n 0, 1) from by decide +kernel) rfl (lv_at hl 0 rfl) ?_
  refine lv_iconst (n := 0) (v := 0) hx hb (by decide +kernel) (by decide) ?_
  refine va_put (D := (dC, dI)) (ci := 4) (v := .int 0) (ty := .int) (C := "GuessFences$Guesses") (T := gf_T4) (N := 8) hx hb hts lays_4 gf_y4 gf_ty4 gf_nm4 hown hK hP hD hS 0 rfl rfl 7 (by decide) (hts (.fieldLink "GuessFences$Guesses" 35 "GuessFences$Guesses" "steps" "I") (gv_i1 129 rfl rfl)) (fun _ h9 => h9) rfl (by decide +kernel) rfl rfl (Nat.le_of_ble_eq_true rfl) (by decide +kernel) (fun H locs hP hD hS => ?_)
  have hP : va_P (dC, dI) vwCl [(h0, .inr (4, [.ref q1, .ref q2, .ref q3, .ref q4, .ref q5, .int 0, .int 0, .int 0])), (q1, .inl (c1, 512, .inl (fun _ => 0))), (q2, .inl (c2, 4096, .inl (fun _ => 0))), (q3, .inl (c3, 16, .inl (fun _ => 0))), (q4, .inl (c4, 16, .inl (fun _ => 0))), (q5, .inl (c5, 16, .inl (fun _ => 0)))] H := hP
  have hD : va_D A [(h0, .inr (4, [.ref q1, .ref q2, .ref q3, .ref q4, .ref q5, .int 0, .int 0, .int 0])), (q1, .inl (c1, 512, .inl (fun _ => 0))), (q2, .inl (c2, 4096, .inl (fun _ => 0))), (q3, .inl (c3, 16, .inl (fun _ => 0))), (q4, .inl (c4, 16, .inl (fun _ => 0))), (q5, .inl (c5, 16, .inl (fun _ => 0)))] := hD
  exact W.vret hx hb hr (fun t ht hW => ⟨⟨(), rfl, trivial, q1, q2, q3, q4, q5, c1, c2, c3, c4, c5, by rw [ht]; exact hP, va_K.moved hW.alike hK, hD⟩, hS.F ht⟩) hS.2.2 (by decide +kernel)

set_option maxHeartbeats 4000000 in
set_option maxRecDepth 100000 in
theorem k_Machine_init (l : Launch) (dC : Nat → ClassId) (dI : Nat → Nat → Nat) (h0 a1 : Nat) (sz : Nat) : Met l ⟨"GuessFences$Machine", "<init>", "(LGuessFences$Listing;)V"⟩ [.code ⟨"GuessFences$Machine", "<init>", "(LGuessFences$Listing;)V"⟩ prog_7_method_1_code 2 none] (gc_rm 9 10 7002) (va_Pc [.ref h0, .ref a1] (gc_P dC dI sz [(h0, .inr (2, [.null, .null, .null, .null, .null, .int 0, .int 0]))])) (va_Qv (fun _ : Unit => True) (fun _ t => ∃ (q1 q2 q3 q4 q5 q6 q7 q8 q9 q10 : Nat) (c1 c2 c4 c6 c7 c8 c9 c10 : ClassId), va_P (dC, dI) vwCl [(h0, .inr (2, [.ref a1, .ref q1, .ref q2, .ref q3, .ref q5, .int 0, .int 16])), (q1, .inl (c1, 32, .inl (fun _ => 0))), (q2, .inl (c2, 256, .inl (fun _ => 0))), (q3, .inr (3, [.ref q4, .int 0])), (q4, .inl (c4, 2048, .inr (.inl (fun _ => 0)))), (q5, .inr (4, [.ref q6, .ref q7, .ref q8, .ref q9, .ref q10, .int 0, .int 0, .int 0])), (q6, .inl (c6, 512, .inl (fun _ => 0))), (q7, .inl (c7, 4096, .inl (fun _ => 0))), (q8, .inl (c8, 16, .inl (fun _ => 0))), (q9, .inl (c9, 16, .inl (fun _ => 0))), (q10, .inl (c10, 16, .inl (fun _ => 0)))] t.heap ∧ va_K (dC, dI) vwCl [(c1, .int), (c2, .byte), (c4, .long), (c6, .int), (c7, .byte), (c8, .int), (c9, .int), (c10, .int)] t ∧ va_D (va_A [(h0, .inr (2, [.null, .null, .null, .null, .null, .int 0, .int 0]))] sz) [(h0, .inr (2, [.ref a1, .ref q1, .ref q2, .ref q3, .ref q5, .int 0, .int 16])), (q1, .inl (c1, 32, .inl (fun _ => 0))), (q2, .inl (c2, 256, .inl (fun _ => 0))), (q3, .inr (3, [.ref q4, .int 0])), (q4, .inl (c4, 2048, .inr (.inl (fun _ => 0)))), (q5, .inr (4, [.ref q6, .ref q7, .ref q8, .ref q9, .ref q10, .int 0, .int 0, .int 0])), (q6, .inl (c6, 512, .inl (fun _ => 0))), (q7, .inl (c7, 4096, .inl (fun _ => 0))), (q8, .inl (c8, 16, .inl (fun _ => 0))), (q9, .inl (c9, 16, .inl (fun _ => 0))), (q10, .inl (c10, 16, .inl (fun _ => 0)))]) (va_A [(h0, .inr (2, [.null, .null, .null, .null, .null, .int 0, .int 0]))] sz)) 10 7002 (va_A [(h0, .inr (2, [.null, .null, .null, .null, .null, .int 0, .int 0]))] sz) := by
  refine Met.ofW (cc := prog_7_method_1_code) (maxL := 2) (ret := none) (by decide) rfl ?_
  intro p e s m args below meth c s₁ B hml hv
  obtain ⟨rfl, hsz, hT, hP, hK, hD0⟩ := hv
  have hx := B.exec
  have hb := B.bytes
  have hr := B.returns
  have hown : s.vm.findClass "GuessFences$Machine" = some m.cls := findClass_of_methodNamed B.named
  have hlocks := B.notSynchronized
  have hin : meth.name = "<init>" := (name_of_methodNamed B.named B.method).1
  subst hsz
  generalize hargs : ([.ref h0, .ref a1] : List Value).toArray = args
  have hD := hD0.self (sz := s.heap.size)
  generalize hAe : va_A [(h0, .inr (2, [.null, .null, .null, .null, .null, .int 0, .int 0]))] s.heap.size = A at hD ⊢
  have hA : ∀ q : Nat, s.heap.size ≤ q → A q := fun q h => by rw [← hAe]; exact Or.inr h
  have hS : va_S A s.heap s.heap [] := va_S.rf
  have hts := gc_hts hT args
  rw [← hargs]
  have hl := lv_entry ([.ref h0, .ref a1]) (n := 2) (Nat.le_of_ble_eq_true rfl)
  rw [lg_entry_eq]
  generalize (lg_sl ([.ref h0, .ref a1]) ++ List.replicate (2 - (lg_sl ([.ref h0, .ref a1])).length) Slot.unset).toArray = ls at hl ⊢
  rw [hargs]
  have hl : lv_has ls 2 [(0, .ref h0), (1, .ref a1)] := hl
  refine lv_aload_n hx hb (show decode prog_7_method_1_code 0 = .ok (.aload_n 0, 1) from by decide +kernel) rfl (lv_at hl 0 rfl) ?_
  refine W.objInit hx hb hown (hts (.methodLink "GuessFences$Machine" 3 objectInit) (gv_i1 97 rfl rfl)) (hts (.instanceMethod objectInit) (gv_i1 38 rfl rfl)) (hts (.code objectInit ⟨#[0xb1]⟩ 1 none) (gv_i1 39 rfl rfl)) rfl (by rw [hml]; exact hl.1) rfl (show decode prog_7_method_1_code 1 = .ok (.invokespecial 3, 3) from by decide +kernel) (Nat.le_of_ble_eq_true rfl) (Nat.le_of_ble_eq_true rfl) ?_
  refine W.eq (g2 := F0 m 4 ls []) rfl ?_
  refine lv_aload_n hx hb (show decode prog_7_method_1_code 4 = .ok (.aload_n 0, 1) from by decide +kernel) rfl (lv_at hl 0 rfl) ?_
  refine lv_bipush (n := 32) (v := 32) hx hb (by decide +kernel) (by decide) ?_
  refine va_newa (atype := .int) (ty := .int) (a0 := (32, .inl (fun _ => 0))) hx hb (gc_arr hT args (ty := .int) (by simp)) rfl hK hP hD hS hA (fun _ => rfl) (by decide) (N' := 32) (by decide) (by decide) (Nat.le_of_ble_eq_true rfl) (Nat.le_of_ble_eq_true rfl) (show decode prog_7_method_1_code 7 = .ok (.newarray .int, 2) from by decide +kernel) (fun q1 c1 H hK hP hD hS => ?_)
  have hP : va_P (dC, dI) vwCl [(h0, .inr (2, [.null, .null, .null, .null, .null, .int 0, .int 0])), (q1, .inl (c1, 32, .inl (fun _ => 0)))] H := hP
  have hD : va_D A [(h0, .inr (2, [.null, .null, .null, .null, .null, .int 0, .int 0])), (q1, .inl (c1, 32, .inl (fun _ => 0)))] := hD
  have hK : va_K (dC, dI) vwCl [(c1, .int)] s := hK
  refine W.widen (k := 1) (n := 32) (Nat.le_refl _) (Nat.le_refl _) ?_
  refine va_putF (D := (dC, dI)) (ci := 2) (v := .ref q1) (ty := .array .int) (C := "GuessFences$Machine") (T := gf_T2) (N := 7) hx hb hts lays_2 gf_y2 gf_ty2 gf_nm2 hown hK hP hD hS 0 rfl rfl 1 (by decide) (hts (.fieldLink "GuessFences$Machine" 9 "GuessFences$Machine" "registers" "[I") (gv_i1 148 rfl rfl)) (fun _ h9 => h9) rfl hin rfl (by decide +kernel) rfl rfl (Nat.le_of_ble_eq_true rfl) (by decide +kernel) (fun H locs hP hD hS => ?_)
  have hP : va_P (dC, dI) vwCl [(h0, .inr (2, [.null, .ref q1, .null, .null, .null, .int 0, .int 0])), (q1, .inl (c1, 32, .inl (fun _ => 0)))] H := hP
  have hD : va_D A [(h0, .inr (2, [.null, .ref q1, .null, .null, .null, .int 0, .int 0])), (q1, .inl (c1, 32, .inl (fun _ => 0)))] := hD
  refine lv_aload_n hx hb (show decode prog_7_method_1_code 12 = .ok (.aload_n 0, 1) from by decide +kernel) rfl (lv_at hl 0 rfl) ?_
  refine lv_sipush (n := 256) (v := 256) hx hb (by decide +kernel) (by decide) ?_
  refine va_newa (atype := .byte) (ty := .byte) (a0 := (256, .inl (fun _ => 0))) hx hb (gc_arr hT args (ty := .byte) (by simp)) rfl hK hP hD hS hA (fun _ => rfl) (by decide) (N' := 256) (by decide) (by decide) (Nat.le_of_ble_eq_true rfl) (Nat.le_of_ble_eq_true rfl) (show decode prog_7_method_1_code 16 = .ok (.newarray .byte, 2) from by decide +kernel) (fun q2 c2 H hK hP hD hS => ?_)
  have hP : va_P (dC, dI) vwCl [(h0, .inr (2, [.null, .ref q1, .null, .null, .null, .int 0, .int 0])), (q1, .inl (c1, 32, .inl (fun _ => 0))), (q2, .inl (c2, 256, .inl (fun _ => 0)))] H := hP
  have hD : va_D A [(h0, .inr (2, [.null, .ref q1, .null, .null, .null, .int 0, .int 0])), (q1, .inl (c1, 32, .inl (fun _ => 0))), (q2, .inl (c2, 256, .inl (fun _ => 0)))] := hD
  have hK : va_K (dC, dI) vwCl [(c1, .int), (c2, .byte)] s := hK
  refine W.widen (k := 2) (n := 288) (Nat.le_refl _) (Nat.le_refl _) ?_
  refine va_putF (D := (dC, dI)) (ci := 2) (v := .ref q2) (ty := .array .byte) (C := "GuessFences$Machine") (T := gf_T2) (N := 7) hx hb hts lays_2 gf_y2 gf_ty2 gf_nm2 hown hK hP hD hS 0 rfl rfl 2 (by decide) (hts (.fieldLink "GuessFences$Machine" 15 "GuessFences$Machine" "memory" "[B") (gv_i1 149 rfl rfl)) (fun _ h9 => h9) rfl hin rfl (by decide +kernel) rfl rfl (Nat.le_of_ble_eq_true rfl) (by decide +kernel) (fun H locs hP hD hS => ?_)
  have hP : va_P (dC, dI) vwCl [(h0, .inr (2, [.null, .ref q1, .ref q2, .null, .null, .int 0, .int 0])), (q1, .inl (c1, 32, .inl (fun _ => 0))), (q2, .inl (c2, 256, .inl (fun _ => 0)))] H := hP
  have hD : va_D A [(h0, .inr (2, [.null, .ref q1, .ref q2, .null, .null, .int 0, .int 0])), (q1, .inl (c1, 32, .inl (fun _ => 0))), (q2, .inl (c2, 256, .inl (fun _ => 0)))] := hD
  refine lv_aload_n hx hb (show decode prog_7_method_1_code 21 = .ok (.aload_n 0, 1) from by decide +kernel) rfl (lv_at hl 0 rfl) ?_
  refine va_new (ci := 3) (fs := [.null, .int 0]) (C := "GuessFences$Leaks") (T := gf_T3) (N := 2) hx hb hts lays_3 gf_y3 gf_ty3 hown (hts (.classLink "GuessFences$Machine" 19 "GuessFences$Leaks") (gv_i1 98 rfl rfl)) (hts (.instantiable "GuessFences$Leaks" 2) (gv_i1 99 rfl rfl)) (hts (.initialized "GuessFences$Leaks") (gv_i1 4 rfl rfl)) hK hP hD hS hA rfl (by decide +kernel) (Nat.le_of_ble_eq_true rfl) (Nat.le_of_ble_eq_true rfl) (by decide +kernel) (fun q3 H hP hD hS => ?_)
  have hP : va_P (dC, dI) vwCl [(h0, .inr (2, [.null, .ref q1, .ref q2, .null, .null, .int 0, .int 0])), (q1, .inl (c1, 32, .inl (fun _ => 0))), (q2, .inl (c2, 256, .inl (fun _ => 0))), (q3, .inr (3, [.null, .int 0]))] H := hP
  have hD : va_D A [(h0, .inr (2, [.null, .ref q1, .ref q2, .null, .null, .int 0, .int 0])), (q1, .inl (c1, 32, .inl (fun _ => 0))), (q2, .inl (c2, 256, .inl (fun _ => 0))), (q3, .inr (3, [.null, .int 0]))] := hD
  refine W.widen (k := 3) (n := 290) (Nat.le_refl _) (Nat.le_refl _) ?_
  refine lv_dup hx hb (by decide +kernel) rfl ?_
  have hPc := hP.sub (ws' := [(q3, .inr (3, [.null, .int 0]))]) [3] rfl
  have hDc := hD.sub (ws' := [(q3, .inr (3, [.null, .int 0]))]) [3] (by decide) rfl
  have hKc := hK.sub (tys' := []) [] rfl
  have hFc := va_free (wc := [(q3, .inr (3, [.null, .int 0]))]) hD hS hA [3] rfl
  refine va_callv (gc_run (As := []) (rest := [.ref q3, .ref h0]) ⟨hx, hb, hml, hown, fun _ h => by cases h⟩ (k_Leaks_init l dC dI q3 H.size) hT (gv_i1 102 rfl rfl) (gv_i1 4 rfl rfl) (gv_i1 101 rfl rfl) (Or.inr ⟨_, gv_i1 100 rfl rfl⟩) (by decide) (show (parseMethodDescriptor "()V").map (fun d => d.parameters.length) = some 0 from by decide +kernel) hPc hKc hDc rfl hl.1 rfl (Nat.le_of_ble_eq_true rfl) (by decide +kernel) ⟨(Nat.le_of_ble_eq_true rfl), (Nat.le_of_ble_eq_true rfl)⟩ ⟨(Nat.le_of_ble_eq_true rfl), (Nat.le_of_ble_eq_true rfl)⟩) hS (fun q _ h => hFc q h) hFc (fun u t H1 locs ht hvm _ hB hz1 hk1 hS => ?_)
  obtain ⟨q4, c4, hP1, hK1, hD1⟩ := hB
  rw [ht] at hP1
  have hK1 := va_K.moved hvm.symm hK1
  obtain ⟨hP, hD⟩ := va_join (wr := [(h0, .inr (2, [.null, .ref q1, .ref q2, .null, .null, .int 0, .int 0])), (q1, .inl (c1, 32, .inl (fun _ => 0))), (q2, .inl (c2, 256, .inl (fun _ => 0)))]) (w1 := [(q3, .inr (3, [.ref q4, .int 0])), (q4, .inl (c4, 2048, .inr (.inl (fun _ => 0))))]) hP hD [3] [0, 1, 2] rfl rfl (by decide) (by decide) hk1 hFc hP1 hD1
  have hK := hK.app hK1
  generalize H1 = H at hP hS ⊢
  have hP : va_P (dC, dI) vwCl [(h0, .inr (2, [.null, .ref q1, .ref q2, .null, .null, .int 0, .int 0])), (q1, .inl (c1, 32, .inl (fun _ => 0))), (q2, .inl (c2, 256, .inl (fun _ => 0))), (q3, .inr (3, [.ref q4, .int 0])), (q4, .inl (c4, 2048, .inr (.inl (fun _ => 0))))] H := hP
  have hD : va_D A [(h0, .inr (2, [.null, .ref q1, .ref q2, .null, .null, .int 0, .int 0])), (q1, .inl (c1, 32, .inl (fun _ => 0))), (q2, .inl (c2, 256, .inl (fun _ => 0))), (q3, .inr (3, [.ref q4, .int 0])), (q4, .inl (c4, 2048, .inr (.inl (fun _ => 0))))] := hD
  have hK : va_K (dC, dI) vwCl [(c1, .int), (c2, .byte), (c4, .long)] s := hK
  refine W.widen (k := 4) (n := 2338) (Nat.le_refl _) (Nat.le_refl _) ?_
  refine va_putF (D := (dC, dI)) (ci := 2) (v := .ref q3) (ty := .object "GuessFences$Leaks") (C := "GuessFences$Machine") (T := gf_T2) (N := 7) hx hb hts lays_2 gf_y2 gf_ty2 gf_nm2 hown hK hP hD hS 0 rfl rfl 3 (by decide) (hts (.fieldLink "GuessFences$Machine" 22 "GuessFences$Machine" "leaks" "LGuessFences$Leaks;") (gv_i1 150 rfl rfl)) (fun _ h9 => h9) rfl hin rfl (by decide +kernel) rfl rfl (Nat.le_of_ble_eq_true rfl) (by decide +kernel) (fun H locs hP hD hS => ?_)
  have hP : va_P (dC, dI) vwCl [(h0, .inr (2, [.null, .ref q1, .ref q2, .ref q3, .null, .int 0, .int 0])), (q1, .inl (c1, 32, .inl (fun _ => 0))), (q2, .inl (c2, 256, .inl (fun _ => 0))), (q3, .inr (3, [.ref q4, .int 0])), (q4, .inl (c4, 2048, .inr (.inl (fun _ => 0))))] H := hP
  have hD : va_D A [(h0, .inr (2, [.null, .ref q1, .ref q2, .ref q3, .null, .int 0, .int 0])), (q1, .inl (c1, 32, .inl (fun _ => 0))), (q2, .inl (c2, 256, .inl (fun _ => 0))), (q3, .inr (3, [.ref q4, .int 0])), (q4, .inl (c4, 2048, .inr (.inl (fun _ => 0))))] := hD
  refine lv_aload_n hx hb (show decode prog_7_method_1_code 32 = .ok (.aload_n 0, 1) from by decide +kernel) rfl (lv_at hl 0 rfl) ?_
  refine va_new (ci := 4) (fs := [.null, .null, .null, .null, .null, .int 0, .int 0, .int 0]) (C := "GuessFences$Guesses") (T := gf_T4) (N := 8) hx hb hts lays_4 gf_y4 gf_ty4 hown (hts (.classLink "GuessFences$Machine" 26 "GuessFences$Guesses") (gv_i1 114 rfl rfl)) (hts (.instantiable "GuessFences$Guesses" 8) (gv_i1 115 rfl rfl)) (hts (.initialized "GuessFences$Guesses") (gv_i1 5 rfl rfl)) hK hP hD hS hA rfl (by decide +kernel) (Nat.le_of_ble_eq_true rfl) (Nat.le_of_ble_eq_true rfl) (by decide +kernel) (fun q5 H hP hD hS => ?_)
  have hP : va_P (dC, dI) vwCl [(h0, .inr (2, [.null, .ref q1, .ref q2, .ref q3, .null, .int 0, .int 0])), (q1, .inl (c1, 32, .inl (fun _ => 0))), (q2, .inl (c2, 256, .inl (fun _ => 0))), (q3, .inr (3, [.ref q4, .int 0])), (q4, .inl (c4, 2048, .inr (.inl (fun _ => 0)))), (q5, .inr (4, [.null, .null, .null, .null, .null, .int 0, .int 0, .int 0]))] H := hP
  have hD : va_D A [(h0, .inr (2, [.null, .ref q1, .ref q2, .ref q3, .null, .int 0, .int 0])), (q1, .inl (c1, 32, .inl (fun _ => 0))), (q2, .inl (c2, 256, .inl (fun _ => 0))), (q3, .inr (3, [.ref q4, .int 0])), (q4, .inl (c4, 2048, .inr (.inl (fun _ => 0)))), (q5, .inr (4, [.null, .null, .null, .null, .null, .int 0, .int 0, .int 0]))] := hD
  refine W.widen (k := 5) (n := 2346) (Nat.le_refl _) (Nat.le_refl _) ?_
  refine lv_dup hx hb (by decide +kernel) rfl ?_
  have hPc := hP.sub (ws' := [(q5, .inr (4, [.null, .null, .null, .null, .null, .int 0, .int 0, .int 0]))]) [5] rfl
  have hDc := hD.sub (ws' := [(q5, .inr (4, [.null, .null, .null, .null, .null, .int 0, .int 0, .int 0]))]) [5] (by decide) rfl
  have hKc := hK.sub (tys' := []) [] rfl
  have hFc := va_free (wc := [(q5, .inr (4, [.null, .null, .null, .null, .null, .int 0, .int 0, .int 0]))]) hD hS hA [5] rfl
  refine va_callv (gc_run (As := []) (rest := [.ref q5, .ref h0]) ⟨hx, hb, hml, hown, fun _ h => by cases h⟩ (k_Guesses_init l dC dI q5 H.size) hT (gv_i1 118 rfl rfl) (gv_i1 5 rfl rfl) (gv_i1 117 rfl rfl) (Or.inr ⟨_, gv_i1 116 rfl rfl⟩) (by decide) (show (parseMethodDescriptor "()V").map (fun d => d.parameters.length) = some 0 from by decide +kernel) hPc hKc hDc rfl hl.1 rfl (Nat.le_of_ble_eq_true rfl) (by decide +kernel) ⟨(Nat.le_of_ble_eq_true rfl), (Nat.le_of_ble_eq_true rfl)⟩ ⟨(Nat.le_of_ble_eq_true rfl), (Nat.le_of_ble_eq_true rfl)⟩) hS (fun q _ h => hFc q h) hFc (fun u t H1 locs ht hvm _ hB hz1 hk1 hS => ?_)
  obtain ⟨q6, q7, q8, q9, q10, c6, c7, c8, c9, c10, hP1, hK1, hD1⟩ := hB
  rw [ht] at hP1
  have hK1 := va_K.moved hvm.symm hK1
  obtain ⟨hP, hD⟩ := va_join (wr := [(h0, .inr (2, [.null, .ref q1, .ref q2, .ref q3, .null, .int 0, .int 0])), (q1, .inl (c1, 32, .inl (fun _ => 0))), (q2, .inl (c2, 256, .inl (fun _ => 0))), (q3, .inr (3, [.ref q4, .int 0])), (q4, .inl (c4, 2048, .inr (.inl (fun _ => 0))))]) (w1 := [(q5, .inr (4, [.ref q6, .ref q7, .ref q8, .ref q9, .ref q10, .int 0, .int 0, .int 0])), (q6, .inl (c6, 512, .inl (fun _ => 0))), (q7, .inl (c7, 4096, .inl (fun _ => 0))), (q8, .inl (c8, 16, .inl (fun _ => 0))), (q9, .inl (c9, 16, .inl (fun _ => 0))), (q10, .inl (c10, 16, .inl (fun _ => 0)))]) hP hD [5] [0, 1, 2, 3, 4] rfl rfl (by decide) (by decide) hk1 hFc hP1 hD1
  have hK := hK.app hK1
  generalize H1 = H at hP hS ⊢
  have hP : va_P (dC, dI) vwCl [(h0, .inr (2, [.null, .ref q1, .ref q2, .ref q3, .null, .int 0, .int 0])), (q1, .inl (c1, 32, .inl (fun _ => 0))), (q2, .inl (c2, 256, .inl (fun _ => 0))), (q3, .inr (3, [.ref q4, .int 0])), (q4, .inl (c4, 2048, .inr (.inl (fun _ => 0)))), (q5, .inr (4, [.ref q6, .ref q7, .ref q8, .ref q9, .ref q10, .int 0, .int 0, .int 0])), (q6, .inl (c6, 512, .inl (fun _ => 0))), (q7, .inl (c7, 4096, .inl (fun _ => 0))), (q8, .inl (c8, 16, .inl (fun _ => 0))), (q9, .inl (c9, 16, .inl (fun _ => 0))), (q10, .inl (c10, 16, .inl (fun _ => 0)))] H := hP
  have hD : va_D A [(h0, .inr (2, [.null, .ref q1, .ref q2, .ref q3, .null, .int 0, .int 0])), (q1, .inl (c1, 32, .inl (fun _ => 0))), (q2, .inl (c2, 256, .inl (fun _ => 0))), (q3, .inr (3, [.ref q4, .int 0])), (q4, .inl (c4, 2048, .inr (.inl (fun _ => 0)))), (q5, .inr (4, [.ref q6, .ref q7, .ref q8, .ref q9, .ref q10, .int 0, .int 0, .int 0])), (q6, .inl (c6, 512, .inl (fun _ => 0))), (q7, .inl (c7, 4096, .inl (fun _ => 0))), (q8, .inl (c8, 16, .inl (fun _ => 0))), (q9, .inl (c9, 16, .inl (fun _ => 0))), (q10, .inl (c10, 16, .inl (fun _ => 0)))] := hD
  have hK : va_K (dC, dI) vwCl [(c1, .int), (c2, .byte), (c4, .long), (c6, .int), (c7, .byte), (c8, .int), (c9, .int), (c10, .int)] s := hK
  refine W.widen (k := 10) (n := 7002) (Nat.le_refl _) (Nat.le_refl _) ?_
  refine va_putF (D := (dC, dI)) (ci := 2) (v := .ref q5) (ty := .object "GuessFences$Guesses") (C := "GuessFences$Machine") (T := gf_T2) (N := 7) hx hb hts lays_2 gf_y2 gf_ty2 gf_nm2 hown hK hP hD hS 0 rfl rfl 4 (by decide) (hts (.fieldLink "GuessFences$Machine" 29 "GuessFences$Machine" "guesses" "LGuessFences$Guesses;") (gv_i1 152 rfl rfl)) (fun _ h9 => h9) rfl hin rfl (by decide +kernel) rfl rfl (Nat.le_of_ble_eq_true rfl) (by decide +kernel) (fun H locs hP hD hS => ?_)
  have hP : va_P (dC, dI) vwCl [(h0, .inr (2, [.null, .ref q1, .ref q2, .ref q3, .ref q5, .int 0, .int 0])), (q1, .inl (c1, 32, .inl (fun _ => 0))), (q2, .inl (c2, 256, .inl (fun _ => 0))), (q3, .inr (3, [.ref q4, .int 0])), (q4, .inl (c4, 2048, .inr (.inl (fun _ => 0)))), (q5, .inr (4, [.ref q6, .ref q7, .ref q8, .ref q9, .ref q10, .int 0, .int 0, .int 0])), (q6, .inl (c6, 512, .inl (fun _ => 0))), (q7, .inl (c7, 4096, .inl (fun _ => 0))), (q8, .inl (c8, 16, .inl (fun _ => 0))), (q9, .inl (c9, 16, .inl (fun _ => 0))), (q10, .inl (c10, 16, .inl (fun _ => 0)))] H := hP
  have hD : va_D A [(h0, .inr (2, [.null, .ref q1, .ref q2, .ref q3, .ref q5, .int 0, .int 0])), (q1, .inl (c1, 32, .inl (fun _ => 0))), (q2, .inl (c2, 256, .inl (fun _ => 0))), (q3, .inr (3, [.ref q4, .int 0])), (q4, .inl (c4, 2048, .inr (.inl (fun _ => 0)))), (q5, .inr (4, [.ref q6, .ref q7, .ref q8, .ref q9, .ref q10, .int 0, .int 0, .int 0])), (q6, .inl (c6, 512, .inl (fun _ => 0))), (q7, .inl (c7, 4096, .inl (fun _ => 0))), (q8, .inl (c8, 16, .inl (fun _ => 0))), (q9, .inl (c9, 16, .inl (fun _ => 0))), (q10, .inl (c10, 16, .inl (fun _ => 0)))] := hD
  refine lv_aload_n hx hb (show decode prog_7_method_1_code 43 = .ok (.aload_n 0, 1) from by decide +kernel) rfl (lv_at hl 0 rfl) ?_
  refine lv_iconst (n := 0) (v := 0) hx hb (by decide +kernel) (by decide) ?_
  refine va_put (D := (dC, dI)) (ci := 2) (v := .int 0) (ty := .int) (C := "GuessFences$Machine") (T := gf_T2) (N := 7) hx hb hts lays_2 gf_y2 gf_ty2 gf_nm2 hown hK hP hD hS 0 rfl rfl 5 (by decide) (hts (.fieldLink "GuessFences$Machine" 33 "GuessFences$Machine" "place" "I") (gv_i1 154 rfl rfl)) (fun _ h9 => h9) rfl (by decide +kernel) rfl rfl (Nat.le_of_ble_eq_true rfl) (by decide +kernel) (fun H locs hP hD hS => ?_)
  have hP : va_P (dC, dI) vwCl [(h0, .inr (2, [.null, .ref q1, .ref q2, .ref q3, .ref q5, .int 0, .int 0])), (q1, .inl (c1, 32, .inl (fun _ => 0))), (q2, .inl (c2, 256, .inl (fun _ => 0))), (q3, .inr (3, [.ref q4, .int 0])), (q4, .inl (c4, 2048, .inr (.inl (fun _ => 0)))), (q5, .inr (4, [.ref q6, .ref q7, .ref q8, .ref q9, .ref q10, .int 0, .int 0, .int 0])), (q6, .inl (c6, 512, .inl (fun _ => 0))), (q7, .inl (c7, 4096, .inl (fun _ => 0))), (q8, .inl (c8, 16, .inl (fun _ => 0))), (q9, .inl (c9, 16, .inl (fun _ => 0))), (q10, .inl (c10, 16, .inl (fun _ => 0)))] H := hP
  have hD : va_D A [(h0, .inr (2, [.null, .ref q1, .ref q2, .ref q3, .ref q5, .int 0, .int 0])), (q1, .inl (c1, 32, .inl (fun _ => 0))), (q2, .inl (c2, 256, .inl (fun _ => 0))), (q3, .inr (3, [.ref q4, .int 0])), (q4, .inl (c4, 2048, .inr (.inl (fun _ => 0)))), (q5, .inr (4, [.ref q6, .ref q7, .ref q8, .ref q9, .ref q10, .int 0, .int 0, .int 0])), (q6, .inl (c6, 512, .inl (fun _ => 0))), (q7, .inl (c7, 4096, .inl (fun _ => 0))), (q8, .inl (c8, 16, .inl (fun _ => 0))), (q9, .inl (c9, 16, .inl (fun _ => 0))), (q10, .inl (c10, 16, .inl (fun _ => 0)))] := hD
  refine lv_aload_n hx hb (show decode prog_7_method_1_code 48 = .ok (.aload_n 0, 1) from by decide +kernel) rfl (lv_at hl 0 rfl) ?_
  refine lv_bipush (n := 16) (v := 16) hx hb (by decide +kernel) (by decide) ?_
  refine va_put (D := (dC, dI)) (ci := 2) (v := .int 16) (ty := .int) (C := "GuessFences$Machine") (T := gf_T2) (N := 7) hx hb hts lays_2 gf_y2 gf_ty2 gf_nm2 hown hK hP hD hS 0 rfl rfl 6 (by decide) (hts (.fieldLink "GuessFences$Machine" 37 "GuessFences$Machine" "window" "I") (gv_i1 155 rfl rfl)) (fun _ h9 => h9) rfl (by decide +kernel) rfl rfl (Nat.le_of_ble_eq_true rfl) (by decide +kernel) (fun H locs hP hD hS => ?_)
  have hP : va_P (dC, dI) vwCl [(h0, .inr (2, [.null, .ref q1, .ref q2, .ref q3, .ref q5, .int 0, .int 16])), (q1, .inl (c1, 32, .inl (fun _ => 0))), (q2, .inl (c2, 256, .inl (fun _ => 0))), (q3, .inr (3, [.ref q4, .int 0])), (q4, .inl (c4, 2048, .inr (.inl (fun _ => 0)))), (q5, .inr (4, [.ref q6, .ref q7, .ref q8, .ref q9, .ref q10, .int 0, .int 0, .int 0])), (q6, .inl (c6, 512, .inl (fun _ => 0))), (q7, .inl (c7, 4096, .inl (fun _ => 0))), (q8, .inl (c8, 16, .inl (fun _ => 0))), (q9, .inl (c9, 16, .inl (fun _ => 0))), (q10, .inl (c10, 16, .inl (fun _ => 0)))] H := hP
  have hD : va_D A [(h0, .inr (2, [.null, .ref q1, .ref q2, .ref q3, .ref q5, .int 0, .int 16])), (q1, .inl (c1, 32, .inl (fun _ => 0))), (q2, .inl (c2, 256, .inl (fun _ => 0))), (q3, .inr (3, [.ref q4, .int 0])), (q4, .inl (c4, 2048, .inr (.inl (fun _ => 0)))), (q5, .inr (4, [.ref q6, .ref q7, .ref q8, .ref q9, .ref q10, .int 0, .int 0, .int 0])), (q6, .inl (c6, 512, .inl (fun _ => 0))), (q7, .inl (c7, 4096, .inl (fun _ => 0))), (q8, .inl (c8, 16, .inl (fun _ => 0))), (q9, .inl (c9, 16, .inl (fun _ => 0))), (q10, .inl (c10, 16, .inl (fun _ => 0)))] := hD
  refine lv_aload_n hx hb (show decode prog_7_method_1_code 54 = .ok (.aload_n 0, 1) from by decide +kernel) rfl (lv_at hl 0 rfl) ?_
  refine lv_aload_n hx hb (show decode prog_7_method_1_code 55 = .ok (.aload_n 1, 1) from by decide +kernel) rfl (lv_at hl 1 rfl) ?_
  refine va_putF (D := (dC, dI)) (ci := 2) (v := .ref a1) (ty := .object "GuessFences$Listing") (C := "GuessFences$Machine") (T := gf_T2) (N := 7) hx hb hts lays_2 gf_y2 gf_ty2 gf_nm2 hown hK hP hD hS 0 rfl rfl 0 (by decide) (hts (.fieldLink "GuessFences$Machine" 40 "GuessFences$Machine" "listing" "LGuessFences$Listing;") (gv_i1 147 rfl rfl)) (fun _ h9 => h9) rfl hin rfl (by decide +kernel) rfl rfl (Nat.le_of_ble_eq_true rfl) (by decide +kernel) (fun H locs hP hD hS => ?_)
  have hP : va_P (dC, dI) vwCl [(h0, .inr (2, [.ref a1, .ref q1, .ref q2, .ref q3, .ref q5, .int 0, .int 16])), (q1, .inl (c1, 32, .inl (fun _ => 0))), (q2, .inl (c2, 256, .inl (fun _ => 0))), (q3, .inr (3, [.ref q4, .int 0])), (q4, .inl (c4, 2048, .inr (.inl (fun _ => 0)))), (q5, .inr (4, [.ref q6, .ref q7, .ref q8, .ref q9, .ref q10, .int 0, .int 0, .int 0])), (q6, .inl (c6, 512, .inl (fun _ => 0))), (q7, .inl (c7, 4096, .inl (fun _ => 0))), (q8, .inl (c8, 16, .inl (fun _ => 0))), (q9, .inl (c9, 16, .inl (fun _ => 0))), (q10, .inl (c10, 16, .inl (fun _ => 0)))] H := hP
  have hD : va_D A [(h0, .inr (2, [.ref a1, .ref q1, .ref q2, .ref q3, .ref q5, .int 0, .int 16])), (q1, .inl (c1, 32, .inl (fun _ => 0))), (q2, .inl (c2, 256, .inl (fun _ => 0))), (q3, .inr (3, [.ref q4, .int 0])), (q4, .inl (c4, 2048, .inr (.inl (fun _ => 0)))), (q5, .inr (4, [.ref q6, .ref q7, .ref q8, .ref q9, .ref q10, .int 0, .int 0, .int 0])), (q6, .inl (c6, 512, .inl (fun _ => 0))), (q7, .inl (c7, 4096, .inl (fun _ => 0))), (q8, .inl (c8, 16, .inl (fun _ => 0))), (q9, .inl (c9, 16, .inl (fun _ => 0))), (q10, .inl (c10, 16, .inl (fun _ => 0)))] := hD
  exact W.vret hx hb hr (fun t ht hW => ⟨⟨(), rfl, trivial, q1, q2, q3, q4, q5, q6, q7, q8, q9, q10, c1, c2, c4, c6, c7, c8, c9, c10, by rw [ht]; exact hP, va_K.moved hW.alike hK, hD⟩, hS.F ht⟩) hS.2.2 (by decide +kernel)
end
section
set_option maxHeartbeats 4000000 in
set_option maxRecDepth 100000 in
theorem k_Reach_init (l : Launch) (dC : Nat → ClassId) (dI : Nat → Nat → Nat) (h0 a1 : Nat) (sz : Nat) : Met l ⟨"GuessFences$Reach", "<init>", "(LGuessFences$Listing;)V"⟩ [.code ⟨"GuessFences$Reach", "<init>", "(LGuessFences$Listing;)V"⟩ prog_8_method_1_code 2 none] (gc_rm 8 4 20800) (va_Pc [.ref h0, .ref a1] (gc_P dC dI sz [(h0, .inr (5, [.null, .null, .null, .null, .null, .int 0]))])) (va_Qv (fun _ : Unit => True) (fun _ t => ∃ (q1 q2 q3 q4 : Nat) (c1 c2 c3 c4 : ClassId), va_P (dC, dI) vwCl [(h0, .inr (5, [.ref a1, .ref q1, .ref q2, .ref q3, .ref q4, .int 0])), (q1, .inl (c1, 17680, .inr (.inl (fun _ => 0)))), (q2, .inl (c2, 1040, .inl (fun _ => 0))), (q3, .inl (c3, 1040, .inl (fun _ => 0))), (q4, .inl (c4, 1040, .inl (fun _ => 0)))] t.heap ∧ va_K (dC, dI) vwCl [(c1, .long), (c2, .int), (c3, .int), (c4, .int)] t ∧ va_D (va_A [(h0, .inr (5, [.null, .null, .null, .null, .null, .int 0]))] sz) [(h0, .inr (5, [.ref a1, .ref q1, .ref q2, .ref q3, .ref q4, .int 0])), (q1, .inl (c1, 17680, .inr (.inl (fun _ => 0)))), (q2, .inl (c2, 1040, .inl (fun _ => 0))), (q3, .inl (c3, 1040, .inl (fun _ => 0))), (q4, .inl (c4, 1040, .inl (fun _ => 0)))]) (va_A [(h0, .inr (5, [.null, .null, .null, .null, .null, .int 0]))] sz)) 4 20800 (va_A [(h0, .inr (5, [.null, .null, .null, .null, .null, .int 0]))] sz) := by
  refine Met.ofW (cc := prog_8_method_1_code) (maxL := 2) (ret := none) (by decide) rfl ?_
  intro p e s m args below meth c s₁ B hml hv
  obtain ⟨rfl, hsz, hT, hP, hK, hD0⟩ := hv
  have hx := B.exec
  have hb := B.bytes
  have hr := B.returns
  have hown : s.vm.findClass "GuessFences$Reach" = some m.cls := findClass_of_methodNamed B.named
  have hlocks := B.notSynchronized
  have hin : meth.name = "<init>" := (name_of_methodNamed B.named B.method).1
  subst hsz
  generalize hargs : ([.ref h0, .ref a1] : List Value).toArray = args
  have hD := hD0.self (sz := s.heap.size)
  generalize hAe : va_A [(h0, .inr (5, [.null, .null, .null, .null, .null, .int 0]))] s.heap.size = A at hD ⊢
  have hA : ∀ q : Nat, s.heap.size ≤ q → A q := fun q h => by rw [← hAe]; exact Or.inr h
  have hS : va_S A s.heap s.heap [] := va_S.rf
  have hts := gc_hts hT args
  rw [← hargs]
  have hl := lv_entry ([.ref h0, .ref a1]) (n := 2) (Nat.le_of_ble_eq_true rfl)
  rw [lg_entry_eq]
  generalize (lg_sl ([.ref h0, .ref a1]) ++ List.replicate (2 - (lg_sl ([.ref h0, .ref a1])).length) Slot.unset).toArray = ls at hl ⊢
  rw [hargs]
  have hl : lv_has ls 2 [(0, .ref h0), (1, .ref a1)] := hl
  refine lv_aload_n hx hb (show decode prog_8_method_1_code 0 = .ok (.aload_n 0, 1) from by decide +kernel) rfl (lv_at hl 0 rfl) ?_
  refine W.objInit hx hb hown (hts (.methodLink "GuessFences$Reach" 3 objectInit) (gv_i1 177 rfl rfl)) (hts (.instanceMethod objectInit) (gv_i1 38 rfl rfl)) (hts (.code objectInit ⟨#[0xb1]⟩ 1 none) (gv_i1 39 rfl rfl)) rfl (by rw [hml]; exact hl.1) rfl (show decode prog_8_method_1_code 1 = .ok (.invokespecial 3, 3) from by decide +kernel) (Nat.le_of_ble_eq_true rfl) (Nat.le_of_ble_eq_true rfl) ?_
  refine W.eq (g2 := F0 m 4 ls []) rfl ?_
  refine lv_aload_n hx hb (show decode prog_8_method_1_code 4 = .ok (.aload_n 0, 1) from by decide +kernel) rfl (lv_at hl 0 rfl) ?_
  refine lv_sipush (n := 17680) (v := 17680) hx hb (by decide +kernel) (by decide) ?_
  refine va_newa (atype := .long) (ty := .long) (a0 := (17680, .inr (.inl (fun _ => 0)))) hx hb (gc_arr hT args (ty := .long) (by simp)) rfl hK hP hD hS hA (fun _ => rfl) (by decide) (N' := 17680) (by decide) (by decide) (Nat.le_of_ble_eq_true rfl) (Nat.le_of_ble_eq_true rfl) (show decode prog_8_method_1_code 8 = .ok (.newarray .long, 2) from by decide +kernel) (fun q1 c1 H hK hP hD hS => ?_)
  have hP : va_P (dC, dI) vwCl [(h0, .inr (5, [.null, .null, .null, .null, .null, .int 0])), (q1, .inl (c1, 17680, .inr (.inl (fun _ => 0))))] H := hP
  have hD : va_D A [(h0, .inr (5, [.null, .null, .null, .null, .null, .int 0])), (q1, .inl (c1, 17680, .inr (.inl (fun _ => 0))))] := hD
  have hK : va_K (dC, dI) vwCl [(c1, .long)] s := hK
  refine W.widen (k := 1) (n := 17680) (Nat.le_refl _) (Nat.le_refl _) ?_
  refine va_putF (D := (dC, dI)) (ci := 5) (v := .ref q1) (ty := .array .long) (C := "GuessFences$Reach") (T := gf_T5) (N := 6) hx hb hts lays_5 gf_y5 gf_ty5 gf_nm5 hown hK hP hD hS 0 rfl rfl 1 (by decide) (hts (.fieldLink "GuessFences$Reach" 9 "GuessFences$Reach" "rows" "[J") (gv_i1 179 rfl rfl)) (fun _ h9 => h9) rfl hin rfl (by decide +kernel) rfl rfl (Nat.le_of_ble_eq_true rfl) (by decide +kernel) (fun H locs hP hD hS => ?_)
  have hP : va_P (dC, dI) vwCl [(h0, .inr (5, [.null, .ref q1, .null, .null, .null, .int 0])), (q1, .inl (c1, 17680, .inr (.inl (fun _ => 0))))] H := hP
  have hD : va_D A [(h0, .inr (5, [.null, .ref q1, .null, .null, .null, .int 0])), (q1, .inl (c1, 17680, .inr (.inl (fun _ => 0))))] := hD
  refine lv_aload_n hx hb (show decode prog_8_method_1_code 13 = .ok (.aload_n 0, 1) from by decide +kernel) rfl (lv_at hl 0 rfl) ?_
  refine lv_sipush (n := 1040) (v := 1040) hx hb (by decide +kernel) (by decide) ?_
  refine va_newa (atype := .int) (ty := .int) (a0 := (1040, .inl (fun _ => 0))) hx hb (gc_arr hT args (ty := .int) (by simp)) rfl hK hP hD hS hA (fun _ => rfl) (by decide) (N' := 1040) (by decide) (by decide) (Nat.le_of_ble_eq_true rfl) (Nat.le_of_ble_eq_true rfl) (show decode prog_8_method_1_code 17 = .ok (.newarray .int, 2) from by decide +kernel) (fun q2 c2 H hK hP hD hS => ?_)
  have hP : va_P (dC, dI) vwCl [(h0, .inr (5, [.null, .ref q1, .null, .null, .null, .int 0])), (q1, .inl (c1, 17680, .inr (.inl (fun _ => 0)))), (q2, .inl (c2, 1040, .inl (fun _ => 0)))] H := hP
  have hD : va_D A [(h0, .inr (5, [.null, .ref q1, .null, .null, .null, .int 0])), (q1, .inl (c1, 17680, .inr (.inl (fun _ => 0)))), (q2, .inl (c2, 1040, .inl (fun _ => 0)))] := hD
  have hK : va_K (dC, dI) vwCl [(c1, .long), (c2, .int)] s := hK
  refine W.widen (k := 2) (n := 18720) (Nat.le_refl _) (Nat.le_refl _) ?_
  refine va_putF (D := (dC, dI)) (ci := 5) (v := .ref q2) (ty := .array .int) (C := "GuessFences$Reach") (T := gf_T5) (N := 6) hx hb hts lays_5 gf_y5 gf_ty5 gf_nm5 hown hK hP hD hS 0 rfl rfl 2 (by decide) (hts (.fieldLink "GuessFences$Reach" 15 "GuessFences$Reach" "traced" "[I") (gv_i1 180 rfl rfl)) (fun _ h9 => h9) rfl hin rfl (by decide +kernel) rfl rfl (Nat.le_of_ble_eq_true rfl) (by decide +kernel) (fun H locs hP hD hS => ?_)
  have hP : va_P (dC, dI) vwCl [(h0, .inr (5, [.null, .ref q1, .ref q2, .null, .null, .int 0])), (q1, .inl (c1, 17680, .inr (.inl (fun _ => 0)))), (q2, .inl (c2, 1040, .inl (fun _ => 0)))] H := hP
  have hD : va_D A [(h0, .inr (5, [.null, .ref q1, .ref q2, .null, .null, .int 0])), (q1, .inl (c1, 17680, .inr (.inl (fun _ => 0)))), (q2, .inl (c2, 1040, .inl (fun _ => 0)))] := hD
  refine lv_aload_n hx hb (show decode prog_8_method_1_code 22 = .ok (.aload_n 0, 1) from by decide +kernel) rfl (lv_at hl 0 rfl) ?_
  refine lv_sipush (n := 1040) (v := 1040) hx hb (by decide +kernel) (by decide) ?_
  refine va_newa (atype := .int) (ty := .int) (a0 := (1040, .inl (fun _ => 0))) hx hb (gc_arr hT args (ty := .int) (by simp)) rfl hK hP hD hS hA (fun _ => rfl) (by decide) (N' := 1040) (by decide) (by decide) (Nat.le_of_ble_eq_true rfl) (Nat.le_of_ble_eq_true rfl) (show decode prog_8_method_1_code 26 = .ok (.newarray .int, 2) from by decide +kernel) (fun q3 c3 H hK hP hD hS => ?_)
  have hP : va_P (dC, dI) vwCl [(h0, .inr (5, [.null, .ref q1, .ref q2, .null, .null, .int 0])), (q1, .inl (c1, 17680, .inr (.inl (fun _ => 0)))), (q2, .inl (c2, 1040, .inl (fun _ => 0))), (q3, .inl (c3, 1040, .inl (fun _ => 0)))] H := hP
  have hD : va_D A [(h0, .inr (5, [.null, .ref q1, .ref q2, .null, .null, .int 0])), (q1, .inl (c1, 17680, .inr (.inl (fun _ => 0)))), (q2, .inl (c2, 1040, .inl (fun _ => 0))), (q3, .inl (c3, 1040, .inl (fun _ => 0)))] := hD
  have hK : va_K (dC, dI) vwCl [(c1, .long), (c2, .int), (c3, .int)] s := hK
  refine W.widen (k := 3) (n := 19760) (Nat.le_refl _) (Nat.le_refl _) ?_
  refine va_putF (D := (dC, dI)) (ci := 5) (v := .ref q3) (ty := .array .int) (C := "GuessFences$Reach") (T := gf_T5) (N := 6) hx hb hts lays_5 gf_y5 gf_ty5 gf_nm5 hown hK hP hD hS 0 rfl rfl 3 (by decide) (hts (.fieldLink "GuessFences$Reach" 19 "GuessFences$Reach" "seenFor" "[I") (gv_i1 181 rfl rfl)) (fun _ h9 => h9) rfl hin rfl (by decide +kernel) rfl rfl (Nat.le_of_ble_eq_true rfl) (by decide +kernel) (fun H locs hP hD hS => ?_)
  have hP : va_P (dC, dI) vwCl [(h0, .inr (5, [.null, .ref q1, .ref q2, .ref q3, .null, .int 0])), (q1, .inl (c1, 17680, .inr (.inl (fun _ => 0)))), (q2, .inl (c2, 1040, .inl (fun _ => 0))), (q3, .inl (c3, 1040, .inl (fun _ => 0)))] H := hP
  have hD : va_D A [(h0, .inr (5, [.null, .ref q1, .ref q2, .ref q3, .null, .int 0])), (q1, .inl (c1, 17680, .inr (.inl (fun _ => 0)))), (q2, .inl (c2, 1040, .inl (fun _ => 0))), (q3, .inl (c3, 1040, .inl (fun _ => 0)))] := hD
  refine lv_aload_n hx hb (show decode prog_8_method_1_code 31 = .ok (.aload_n 0, 1) from by decide +kernel) rfl (lv_at hl 0 rfl) ?_
  refine lv_sipush (n := 1040) (v := 1040) hx hb (by decide +kernel) (by decide) ?_
  refine va_newa (atype := .int) (ty := .int) (a0 := (1040, .inl (fun _ => 0))) hx hb (gc_arr hT args (ty := .int) (by simp)) rfl hK hP hD hS hA (fun _ => rfl) (by decide) (N' := 1040) (by decide) (by decide) (Nat.le_of_ble_eq_true rfl) (Nat.le_of_ble_eq_true rfl) (show decode prog_8_method_1_code 35 = .ok (.newarray .int, 2) from by decide +kernel) (fun q4 c4 H hK hP hD hS => ?_)
  have hP : va_P (dC, dI) vwCl [(h0, .inr (5, [.null, .ref q1, .ref q2, .ref q3, .null, .int 0])), (q1, .inl (c1, 17680, .inr (.inl (fun _ => 0)))), (q2, .inl (c2, 1040, .inl (fun _ => 0))), (q3, .inl (c3, 1040, .inl (fun _ => 0))), (q4, .inl (c4, 1040, .inl (fun _ => 0)))] H := hP
  have hD : va_D A [(h0, .inr (5, [.null, .ref q1, .ref q2, .ref q3, .null, .int 0])), (q1, .inl (c1, 17680, .inr (.inl (fun _ => 0)))), (q2, .inl (c2, 1040, .inl (fun _ => 0))), (q3, .inl (c3, 1040, .inl (fun _ => 0))), (q4, .inl (c4, 1040, .inl (fun _ => 0)))] := hD
  have hK : va_K (dC, dI) vwCl [(c1, .long), (c2, .int), (c3, .int), (c4, .int)] s := hK
  refine W.widen (k := 4) (n := 20800) (Nat.le_refl _) (Nat.le_refl _) ?_
  refine va_putF (D := (dC, dI)) (ci := 5) (v := .ref q4) (ty := .array .int) (C := "GuessFences$Reach") (T := gf_T5) (N := 6) hx hb hts lays_5 gf_y5 gf_ty5 gf_nm5 hown hK hP hD hS 0 rfl rfl 4 (by decide) (hts (.fieldLink "GuessFences$Reach" 22 "GuessFences$Reach" "queue" "[I") (gv_i1 182 rfl rfl)) (fun _ h9 => h9) rfl hin rfl (by decide +kernel) rfl rfl (Nat.le_of_ble_eq_true rfl) (by decide +kernel) (fun H locs hP hD hS => ?_)
  have hP : va_P (dC, dI) vwCl [(h0, .inr (5, [.null, .ref q1, .ref q2, .ref q3, .ref q4, .int 0])), (q1, .inl (c1, 17680, .inr (.inl (fun _ => 0)))), (q2, .inl (c2, 1040, .inl (fun _ => 0))), (q3, .inl (c3, 1040, .inl (fun _ => 0))), (q4, .inl (c4, 1040, .inl (fun _ => 0)))] H := hP
  have hD : va_D A [(h0, .inr (5, [.null, .ref q1, .ref q2, .ref q3, .ref q4, .int 0])), (q1, .inl (c1, 17680, .inr (.inl (fun _ => 0)))), (q2, .inl (c2, 1040, .inl (fun _ => 0))), (q3, .inl (c3, 1040, .inl (fun _ => 0))), (q4, .inl (c4, 1040, .inl (fun _ => 0)))] := hD
  refine lv_aload_n hx hb (show decode prog_8_method_1_code 40 = .ok (.aload_n 0, 1) from by decide +kernel) rfl (lv_at hl 0 rfl) ?_
  refine lv_iconst (n := 0) (v := 0) hx hb (by decide +kernel) (by decide) ?_
  refine va_put (D := (dC, dI)) (ci := 5) (v := .int 0) (ty := .int) (C := "GuessFences$Reach") (T := gf_T5) (N := 6) hx hb hts lays_5 gf_y5 gf_ty5 gf_nm5 hown hK hP hD hS 0 rfl rfl 5 (by decide) (hts (.fieldLink "GuessFences$Reach" 25 "GuessFences$Reach" "tail" "I") (gv_i1 183 rfl rfl)) (fun _ h9 => h9) rfl (by decide +kernel) rfl rfl (Nat.le_of_ble_eq_true rfl) (by decide +kernel) (fun H locs hP hD hS => ?_)
  have hP : va_P (dC, dI) vwCl [(h0, .inr (5, [.null, .ref q1, .ref q2, .ref q3, .ref q4, .int 0])), (q1, .inl (c1, 17680, .inr (.inl (fun _ => 0)))), (q2, .inl (c2, 1040, .inl (fun _ => 0))), (q3, .inl (c3, 1040, .inl (fun _ => 0))), (q4, .inl (c4, 1040, .inl (fun _ => 0)))] H := hP
  have hD : va_D A [(h0, .inr (5, [.null, .ref q1, .ref q2, .ref q3, .ref q4, .int 0])), (q1, .inl (c1, 17680, .inr (.inl (fun _ => 0)))), (q2, .inl (c2, 1040, .inl (fun _ => 0))), (q3, .inl (c3, 1040, .inl (fun _ => 0))), (q4, .inl (c4, 1040, .inl (fun _ => 0)))] := hD
  refine lv_aload_n hx hb (show decode prog_8_method_1_code 45 = .ok (.aload_n 0, 1) from by decide +kernel) rfl (lv_at hl 0 rfl) ?_
  refine lv_aload_n hx hb (show decode prog_8_method_1_code 46 = .ok (.aload_n 1, 1) from by decide +kernel) rfl (lv_at hl 1 rfl) ?_
  refine va_putF (D := (dC, dI)) (ci := 5) (v := .ref a1) (ty := .object "GuessFences$Listing") (C := "GuessFences$Reach") (T := gf_T5) (N := 6) hx hb hts lays_5 gf_y5 gf_ty5 gf_nm5 hown hK hP hD hS 0 rfl rfl 0 (by decide) (hts (.fieldLink "GuessFences$Reach" 29 "GuessFences$Reach" "listing" "LGuessFences$Listing;") (gv_i1 178 rfl rfl)) (fun _ h9 => h9) rfl hin rfl (by decide +kernel) rfl rfl (Nat.le_of_ble_eq_true rfl) (by decide +kernel) (fun H locs hP hD hS => ?_)
  have hP : va_P (dC, dI) vwCl [(h0, .inr (5, [.ref a1, .ref q1, .ref q2, .ref q3, .ref q4, .int 0])), (q1, .inl (c1, 17680, .inr (.inl (fun _ => 0)))), (q2, .inl (c2, 1040, .inl (fun _ => 0))), (q3, .inl (c3, 1040, .inl (fun _ => 0))), (q4, .inl (c4, 1040, .inl (fun _ => 0)))] H := hP
  have hD : va_D A [(h0, .inr (5, [.ref a1, .ref q1, .ref q2, .ref q3, .ref q4, .int 0])), (q1, .inl (c1, 17680, .inr (.inl (fun _ => 0)))), (q2, .inl (c2, 1040, .inl (fun _ => 0))), (q3, .inl (c3, 1040, .inl (fun _ => 0))), (q4, .inl (c4, 1040, .inl (fun _ => 0)))] := hD
  exact W.vret hx hb hr (fun t ht hW => ⟨⟨(), rfl, trivial, q1, q2, q3, q4, c1, c2, c3, c4, by rw [ht]; exact hP, va_K.moved hW.alike hK, hD⟩, hS.F ht⟩) hS.2.2 (by decide +kernel)

set_option maxHeartbeats 4000000 in
set_option maxRecDepth 100000 in
theorem k_Taint_init (l : Launch) (dC : Nat → ClassId) (dI : Nat → Nat → Nat) (h0 a1 a2 : Nat) (sz : Nat) : Met l ⟨"GuessFences$Taint", "<init>", "(LGuessFences$Listing;LGuessFences$Reach;)V"⟩ [.code ⟨"GuessFences$Taint", "<init>", "(LGuessFences$Listing;LGuessFences$Reach;)V"⟩ prog_10_method_1_code 3 none] (gc_rm 8 6 4194) (va_Pc [.ref h0, .ref a1, .ref a2] (gc_P dC dI sz [(h0, .inr (6, [.null, .null, .null, .null, .null, .null, .null, .null, .int 0, .int 0, .int 0]))])) (va_Qv (fun _ : Unit => True) (fun _ t => ∃ (q1 q2 q3 q4 q5 q6 : Nat) (c1 c2 c3 c4 c5 c6 : ClassId), va_P (dC, dI) vwCl [(h0, .inr (6, [.ref a1, .ref a2, .ref q1, .ref q2, .ref q3, .ref q4, .ref q5, .ref q6, .int 0, .int 0, .int 0])), (q1, .inl (c1, 1040, .inl (fun _ => 0))), (q2, .inl (c2, 1040, .inl (fun _ => 0))), (q3, .inl (c3, 1040, .inl (fun _ => 0))), (q4, .inl (c4, 1040, .inl (fun _ => 0))), (q5, .inl (c5, 17, .inr (.inl (fun _ => 0)))), (q6, .inl (c6, 17, .inr (.inl (fun _ => 0))))] t.heap ∧ va_K (dC, dI) vwCl [(c1, .int), (c2, .int), (c3, .int), (c4, .boolean), (c5, .long), (c6, .long)] t ∧ va_D (va_A [(h0, .inr (6, [.null, .null, .null, .null, .null, .null, .null, .null, .int 0, .int 0, .int 0]))] sz) [(h0, .inr (6, [.ref a1, .ref a2, .ref q1, .ref q2, .ref q3, .ref q4, .ref q5, .ref q6, .int 0, .int 0, .int 0])), (q1, .inl (c1, 1040, .inl (fun _ => 0))), (q2, .inl (c2, 1040, .inl (fun _ => 0))), (q3, .inl (c3, 1040, .inl (fun _ => 0))), (q4, .inl (c4, 1040, .inl (fun _ => 0))), (q5, .inl (c5, 17, .inr (.inl (fun _ => 0)))), (q6, .inl (c6, 17, .inr (.inl (fun _ => 0))))]) (va_A [(h0, .inr (6, [.null, .null, .null, .null, .null, .null, .null, .null, .int 0, .int 0, .int 0]))] sz)) 6 4194 (va_A [(h0, .inr (6, [.null, .null, .null, .null, .null, .null, .null, .null, .int 0, .int 0, .int 0]))] sz) := by
  refine Met.ofW (cc := prog_10_method_1_code) (maxL := 3) (ret := none) (by decide) rfl ?_
  intro p e s m args below meth c s₁ B hml hv
  obtain ⟨rfl, hsz, hT, hP, hK, hD0⟩ := hv
  have hx := B.exec
  have hb := B.bytes
  have hr := B.returns
  have hown : s.vm.findClass "GuessFences$Taint" = some m.cls := findClass_of_methodNamed B.named
  have hlocks := B.notSynchronized
  have hin : meth.name = "<init>" := (name_of_methodNamed B.named B.method).1
  subst hsz
  generalize hargs : ([.ref h0, .ref a1, .ref a2] : List Value).toArray = args
  have hD := hD0.self (sz := s.heap.size)
  generalize hAe : va_A [(h0, .inr (6, [.null, .null, .null, .null, .null, .null, .null, .null, .int 0, .int 0, .int 0]))] s.heap.size = A at hD ⊢
  have hA : ∀ q : Nat, s.heap.size ≤ q → A q := fun q h => by rw [← hAe]; exact Or.inr h
  have hS : va_S A s.heap s.heap [] := va_S.rf
  have hts := gc_hts hT args
  rw [← hargs]
  have hl := lv_entry ([.ref h0, .ref a1, .ref a2]) (n := 3) (Nat.le_of_ble_eq_true rfl)
  rw [lg_entry_eq]
  generalize (lg_sl ([.ref h0, .ref a1, .ref a2]) ++ List.replicate (3 - (lg_sl ([.ref h0, .ref a1, .ref a2])).length) Slot.unset).toArray = ls at hl ⊢
  rw [hargs]
  have hl : lv_has ls 3 [(0, .ref h0), (1, .ref a1), (2, .ref a2)] := hl
  refine lv_aload_n hx hb (show decode prog_10_method_1_code 0 = .ok (.aload_n 0, 1) from by decide +kernel) rfl (lv_at hl 0 rfl) ?_
  refine W.objInit hx hb hown (hts (.methodLink "GuessFences$Taint" 3 objectInit) (gv_i1 202 rfl rfl)) (hts (.instanceMethod objectInit) (gv_i1 38 rfl rfl)) (hts (.code objectInit ⟨#[0xb1]⟩ 1 none) (gv_i1 39 rfl rfl)) rfl (by rw [hml]; exact hl.1) rfl (show decode prog_10_method_1_code 1 = .ok (.invokespecial 3, 3) from by decide +kernel) (Nat.le_of_ble_eq_true rfl) (Nat.le_of_ble_eq_true rfl) ?_
  refine W.eq (g2 := F0 m 4 ls []) rfl ?_
  refine lv_aload_n hx hb (show decode prog_10_method_1_code 4 = .ok (.aload_n 0, 1) from by decide +kernel) rfl (lv_at hl 0 rfl) ?_
  refine lv_sipush (n := 1040) (v := 1040) hx hb (by decide +kernel) (by decide) ?_
  refine va_newa (atype := .int) (ty := .int) (a0 := (1040, .inl (fun _ => 0))) hx hb (gc_arr hT args (ty := .int) (by simp)) rfl hK hP hD hS hA (fun _ => rfl) (by decide) (N' := 1040) (by decide) (by decide) (Nat.le_of_ble_eq_true rfl) (Nat.le_of_ble_eq_true rfl) (show decode prog_10_method_1_code 8 = .ok (.newarray .int, 2) from by decide +kernel) (fun q1 c1 H hK hP hD hS => ?_)
  have hP : va_P (dC, dI) vwCl [(h0, .inr (6, [.null, .null, .null, .null, .null, .null, .null, .null, .int 0, .int 0, .int 0])), (q1, .inl (c1, 1040, .inl (fun _ => 0)))] H := hP
  have hD : va_D A [(h0, .inr (6, [.null, .null, .null, .null, .null, .null, .null, .null, .int 0, .int 0, .int 0])), (q1, .inl (c1, 1040, .inl (fun _ => 0)))] := hD
  have hK : va_K (dC, dI) vwCl [(c1, .int)] s := hK
  refine W.widen (k := 1) (n := 1040) (Nat.le_refl _) (Nat.le_refl _) ?_
  refine va_putF (D := (dC, dI)) (ci := 6) (v := .ref q1) (ty := .array .int) (C := "GuessFences$Taint") (T := gf_T6) (N := 11) hx hb hts lays_6 gf_y6 gf_ty6 gf_nm6 hown hK hP hD hS 0 rfl rfl 2 (by decide) (hts (.fieldLink "GuessFences$Taint" 9 "GuessFences$Taint" "marks" "[I") (gv_i1 205 rfl rfl)) (fun _ h9 => h9) rfl hin rfl (by decide +kernel) rfl rfl (Nat.le_of_ble_eq_true rfl) (by decide +kernel) (fun H locs hP hD hS => ?_)
  have hP : va_P (dC, dI) vwCl [(h0, .inr (6, [.null, .null, .ref q1, .null, .null, .null, .null, .null, .int 0, .int 0, .int 0])), (q1, .inl (c1, 1040, .inl (fun _ => 0)))] H := hP
  have hD : va_D A [(h0, .inr (6, [.null, .null, .ref q1, .null, .null, .null, .null, .null, .int 0, .int 0, .int 0])), (q1, .inl (c1, 1040, .inl (fun _ => 0)))] := hD
  refine lv_aload_n hx hb (show decode prog_10_method_1_code 13 = .ok (.aload_n 0, 1) from by decide +kernel) rfl (lv_at hl 0 rfl) ?_
  refine lv_sipush (n := 1040) (v := 1040) hx hb (by decide +kernel) (by decide) ?_
  refine va_newa (atype := .int) (ty := .int) (a0 := (1040, .inl (fun _ => 0))) hx hb (gc_arr hT args (ty := .int) (by simp)) rfl hK hP hD hS hA (fun _ => rfl) (by decide) (N' := 1040) (by decide) (by decide) (Nat.le_of_ble_eq_true rfl) (Nat.le_of_ble_eq_true rfl) (show decode prog_10_method_1_code 17 = .ok (.newarray .int, 2) from by decide +kernel) (fun q2 c2 H hK hP hD hS => ?_)
  have hP : va_P (dC, dI) vwCl [(h0, .inr (6, [.null, .null, .ref q1, .null, .null, .null, .null, .null, .int 0, .int 0, .int 0])), (q1, .inl (c1, 1040, .inl (fun _ => 0))), (q2, .inl (c2, 1040, .inl (fun _ => 0)))] H := hP
  have hD : va_D A [(h0, .inr (6, [.null, .null, .ref q1, .null, .null, .null, .null, .null, .int 0, .int 0, .int 0])), (q1, .inl (c1, 1040, .inl (fun _ => 0))), (q2, .inl (c2, 1040, .inl (fun _ => 0)))] := hD
  have hK : va_K (dC, dI) vwCl [(c1, .int), (c2, .int)] s := hK
  refine W.widen (k := 2) (n := 2080) (Nat.le_refl _) (Nat.le_refl _) ?_
  refine va_putF (D := (dC, dI)) (ci := 6) (v := .ref q2) (ty := .array .int) (C := "GuessFences$Taint") (T := gf_T6) (N := 11) hx hb hts lays_6 gf_y6 gf_ty6 gf_nm6 hown hK hP hD hS 0 rfl rfl 3 (by decide) (hts (.fieldLink "GuessFences$Taint" 15 "GuessFences$Taint" "guessed" "[I") (gv_i1 209 rfl rfl)) (fun _ h9 => h9) rfl hin rfl (by decide +kernel) rfl rfl (Nat.le_of_ble_eq_true rfl) (by decide +kernel) (fun H locs hP hD hS => ?_)
  have hP : va_P (dC, dI) vwCl [(h0, .inr (6, [.null, .null, .ref q1, .ref q2, .null, .null, .null, .null, .int 0, .int 0, .int 0])), (q1, .inl (c1, 1040, .inl (fun _ => 0))), (q2, .inl (c2, 1040, .inl (fun _ => 0)))] H := hP
  have hD : va_D A [(h0, .inr (6, [.null, .null, .ref q1, .ref q2, .null, .null, .null, .null, .int 0, .int 0, .int 0])), (q1, .inl (c1, 1040, .inl (fun _ => 0))), (q2, .inl (c2, 1040, .inl (fun _ => 0)))] := hD
  refine lv_aload_n hx hb (show decode prog_10_method_1_code 22 = .ok (.aload_n 0, 1) from by decide +kernel) rfl (lv_at hl 0 rfl) ?_
  refine lv_sipush (n := 1040) (v := 1040) hx hb (by decide +kernel) (by decide) ?_
  refine va_newa (atype := .int) (ty := .int) (a0 := (1040, .inl (fun _ => 0))) hx hb (gc_arr hT args (ty := .int) (by simp)) rfl hK hP hD hS hA (fun _ => rfl) (by decide) (N' := 1040) (by decide) (by decide) (Nat.le_of_ble_eq_true rfl) (Nat.le_of_ble_eq_true rfl) (show decode prog_10_method_1_code 26 = .ok (.newarray .int, 2) from by decide +kernel) (fun q3 c3 H hK hP hD hS => ?_)
  have hP : va_P (dC, dI) vwCl [(h0, .inr (6, [.null, .null, .ref q1, .ref q2, .null, .null, .null, .null, .int 0, .int 0, .int 0])), (q1, .inl (c1, 1040, .inl (fun _ => 0))), (q2, .inl (c2, 1040, .inl (fun _ => 0))), (q3, .inl (c3, 1040, .inl (fun _ => 0)))] H := hP
  have hD : va_D A [(h0, .inr (6, [.null, .null, .ref q1, .ref q2, .null, .null, .null, .null, .int 0, .int 0, .int 0])), (q1, .inl (c1, 1040, .inl (fun _ => 0))), (q2, .inl (c2, 1040, .inl (fun _ => 0))), (q3, .inl (c3, 1040, .inl (fun _ => 0)))] := hD
  have hK : va_K (dC, dI) vwCl [(c1, .int), (c2, .int), (c3, .int)] s := hK
  refine W.widen (k := 3) (n := 3120) (Nat.le_refl _) (Nat.le_refl _) ?_
  refine va_putF (D := (dC, dI)) (ci := 6) (v := .ref q3) (ty := .array .int) (C := "GuessFences$Taint") (T := gf_T6) (N := 11) hx hb hts lays_6 gf_y6 gf_ty6 gf_nm6 hown hK hP hD hS 0 rfl rfl 4 (by decide) (hts (.fieldLink "GuessFences$Taint" 18 "GuessFences$Taint" "results" "[I") (gv_i1 210 rfl rfl)) (fun _ h9 => h9) rfl hin rfl (by decide +kernel) rfl rfl (Nat.le_of_ble_eq_true rfl) (by decide +kernel) (fun H locs hP hD hS => ?_)
  have hP : va_P (dC, dI) vwCl [(h0, .inr (6, [.null, .null, .ref q1, .ref q2, .ref q3, .null, .null, .null, .int 0, .int 0, .int 0])), (q1, .inl (c1, 1040, .inl (fun _ => 0))), (q2, .inl (c2, 1040, .inl (fun _ => 0))), (q3, .inl (c3, 1040, .inl (fun _ => 0)))] H := hP
  have hD : va_D A [(h0, .inr (6, [.null, .null, .ref q1, .ref q2, .ref q3, .null, .null, .null, .int 0, .int 0, .int 0])), (q1, .inl (c1, 1040, .inl (fun _ => 0))), (q2, .inl (c2, 1040, .inl (fun _ => 0))), (q3, .inl (c3, 1040, .inl (fun _ => 0)))] := hD
  refine lv_aload_n hx hb (show decode prog_10_method_1_code 31 = .ok (.aload_n 0, 1) from by decide +kernel) rfl (lv_at hl 0 rfl) ?_
  refine lv_sipush (n := 1040) (v := 1040) hx hb (by decide +kernel) (by decide) ?_
  refine va_newa (atype := .boolean) (ty := .boolean) (a0 := (1040, .inl (fun _ => 0))) hx hb (gc_arr hT args (ty := .boolean) (by simp)) rfl hK hP hD hS hA (fun _ => rfl) (by decide) (N' := 1040) (by decide) (by decide) (Nat.le_of_ble_eq_true rfl) (Nat.le_of_ble_eq_true rfl) (show decode prog_10_method_1_code 35 = .ok (.newarray .boolean, 2) from by decide +kernel) (fun q4 c4 H hK hP hD hS => ?_)
  have hP : va_P (dC, dI) vwCl [(h0, .inr (6, [.null, .null, .ref q1, .ref q2, .ref q3, .null, .null, .null, .int 0, .int 0, .int 0])), (q1, .inl (c1, 1040, .inl (fun _ => 0))), (q2, .inl (c2, 1040, .inl (fun _ => 0))), (q3, .inl (c3, 1040, .inl (fun _ => 0))), (q4, .inl (c4, 1040, .inl (fun _ => 0)))] H := hP
  have hD : va_D A [(h0, .inr (6, [.null, .null, .ref q1, .ref q2, .ref q3, .null, .null, .null, .int 0, .int 0, .int 0])), (q1, .inl (c1, 1040, .inl (fun _ => 0))), (q2, .inl (c2, 1040, .inl (fun _ => 0))), (q3, .inl (c3, 1040, .inl (fun _ => 0))), (q4, .inl (c4, 1040, .inl (fun _ => 0)))] := hD
  have hK : va_K (dC, dI) vwCl [(c1, .int), (c2, .int), (c3, .int), (c4, .boolean)] s := hK
  refine W.widen (k := 4) (n := 4160) (Nat.le_refl _) (Nat.le_refl _) ?_
  refine va_putF (D := (dC, dI)) (ci := 6) (v := .ref q4) (ty := .array .boolean) (C := "GuessFences$Taint") (T := gf_T6) (N := 11) hx hb hts lays_6 gf_y6 gf_ty6 gf_nm6 hown hK hP hD hS 0 rfl rfl 5 (by decide) (hts (.fieldLink "GuessFences$Taint" 21 "GuessFences$Taint" "givesAway" "[Z") (gv_i1 212 rfl rfl)) (fun _ h9 => h9) rfl hin rfl (by decide +kernel) rfl rfl (Nat.le_of_ble_eq_true rfl) (by decide +kernel) (fun H locs hP hD hS => ?_)
  have hP : va_P (dC, dI) vwCl [(h0, .inr (6, [.null, .null, .ref q1, .ref q2, .ref q3, .ref q4, .null, .null, .int 0, .int 0, .int 0])), (q1, .inl (c1, 1040, .inl (fun _ => 0))), (q2, .inl (c2, 1040, .inl (fun _ => 0))), (q3, .inl (c3, 1040, .inl (fun _ => 0))), (q4, .inl (c4, 1040, .inl (fun _ => 0)))] H := hP
  have hD : va_D A [(h0, .inr (6, [.null, .null, .ref q1, .ref q2, .ref q3, .ref q4, .null, .null, .int 0, .int 0, .int 0])), (q1, .inl (c1, 1040, .inl (fun _ => 0))), (q2, .inl (c2, 1040, .inl (fun _ => 0))), (q3, .inl (c3, 1040, .inl (fun _ => 0))), (q4, .inl (c4, 1040, .inl (fun _ => 0)))] := hD
  refine lv_aload_n hx hb (show decode prog_10_method_1_code 40 = .ok (.aload_n 0, 1) from by decide +kernel) rfl (lv_at hl 0 rfl) ?_
  refine lv_bipush (n := 17) (v := 17) hx hb (by decide +kernel) (by decide) ?_
  refine va_newa (atype := .long) (ty := .long) (a0 := (17, .inr (.inl (fun _ => 0)))) hx hb (gc_arr hT args (ty := .long) (by simp)) rfl hK hP hD hS hA (fun _ => rfl) (by decide) (N' := 17) (by decide) (by decide) (Nat.le_of_ble_eq_true rfl) (Nat.le_of_ble_eq_true rfl) (show decode prog_10_method_1_code 43 = .ok (.newarray .long, 2) from by decide +kernel) (fun q5 c5 H hK hP hD hS => ?_)
  have hP : va_P (dC, dI) vwCl [(h0, .inr (6, [.null, .null, .ref q1, .ref q2, .ref q3, .ref q4, .null, .null, .int 0, .int 0, .int 0])), (q1, .inl (c1, 1040, .inl (fun _ => 0))), (q2, .inl (c2, 1040, .inl (fun _ => 0))), (q3, .inl (c3, 1040, .inl (fun _ => 0))), (q4, .inl (c4, 1040, .inl (fun _ => 0))), (q5, .inl (c5, 17, .inr (.inl (fun _ => 0))))] H := hP
  have hD : va_D A [(h0, .inr (6, [.null, .null, .ref q1, .ref q2, .ref q3, .ref q4, .null, .null, .int 0, .int 0, .int 0])), (q1, .inl (c1, 1040, .inl (fun _ => 0))), (q2, .inl (c2, 1040, .inl (fun _ => 0))), (q3, .inl (c3, 1040, .inl (fun _ => 0))), (q4, .inl (c4, 1040, .inl (fun _ => 0))), (q5, .inl (c5, 17, .inr (.inl (fun _ => 0))))] := hD
  have hK : va_K (dC, dI) vwCl [(c1, .int), (c2, .int), (c3, .int), (c4, .boolean), (c5, .long)] s := hK
  refine W.widen (k := 5) (n := 4177) (Nat.le_refl _) (Nat.le_refl _) ?_
  refine va_putF (D := (dC, dI)) (ci := 6) (v := .ref q5) (ty := .array .long) (C := "GuessFences$Taint") (T := gf_T6) (N := 11) hx hb hts lays_6 gf_y6 gf_ty6 gf_nm6 hown hK hP hD hS 0 rfl rfl 6 (by decide) (hts (.fieldLink "GuessFences$Taint" 25 "GuessFences$Taint" "clean" "[J") (gv_i1 214 rfl rfl)) (fun _ h9 => h9) rfl hin rfl (by decide +kernel) rfl rfl (Nat.le_of_ble_eq_true rfl) (by decide +kernel) (fun H locs hP hD hS => ?_)
  have hP : va_P (dC, dI) vwCl [(h0, .inr (6, [.null, .null, .ref q1, .ref q2, .ref q3, .ref q4, .ref q5, .null, .int 0, .int 0, .int 0])), (q1, .inl (c1, 1040, .inl (fun _ => 0))), (q2, .inl (c2, 1040, .inl (fun _ => 0))), (q3, .inl (c3, 1040, .inl (fun _ => 0))), (q4, .inl (c4, 1040, .inl (fun _ => 0))), (q5, .inl (c5, 17, .inr (.inl (fun _ => 0))))] H := hP
  have hD : va_D A [(h0, .inr (6, [.null, .null, .ref q1, .ref q2, .ref q3, .ref q4, .ref q5, .null, .int 0, .int 0, .int 0])), (q1, .inl (c1, 1040, .inl (fun _ => 0))), (q2, .inl (c2, 1040, .inl (fun _ => 0))), (q3, .inl (c3, 1040, .inl (fun _ => 0))), (q4, .inl (c4, 1040, .inl (fun _ => 0))), (q5, .inl (c5, 17, .inr (.inl (fun _ => 0))))] := hD
  refine lv_aload_n hx hb (show decode prog_10_method_1_code 48 = .ok (.aload_n 0, 1) from by decide +kernel) rfl (lv_at hl 0 rfl) ?_
  refine lv_bipush (n := 17) (v := 17) hx hb (by decide +kernel) (by decide) ?_
  refine va_newa (atype := .long) (ty := .long) (a0 := (17, .inr (.inl (fun _ => 0)))) hx hb (gc_arr hT args (ty := .long) (by simp)) rfl hK hP hD hS hA (fun _ => rfl) (by decide) (N' := 17) (by decide) (by decide) (Nat.le_of_ble_eq_true rfl) (Nat.le_of_ble_eq_true rfl) (show decode prog_10_method_1_code 51 = .ok (.newarray .long, 2) from by decide +kernel) (fun q6 c6 H hK hP hD hS => ?_)
  have hP : va_P (dC, dI) vwCl [(h0, .inr (6, [.null, .null, .ref q1, .ref q2, .ref q3, .ref q4, .ref q5, .null, .int 0, .int 0, .int 0])), (q1, .inl (c1, 1040, .inl (fun _ => 0))), (q2, .inl (c2, 1040, .inl (fun _ => 0))), (q3, .inl (c3, 1040, .inl (fun _ => 0))), (q4, .inl (c4, 1040, .inl (fun _ => 0))), (q5, .inl (c5, 17, .inr (.inl (fun _ => 0)))), (q6, .inl (c6, 17, .inr (.inl (fun _ => 0))))] H := hP
  have hD : va_D A [(h0, .inr (6, [.null, .null, .ref q1, .ref q2, .ref q3, .ref q4, .ref q5, .null, .int 0, .int 0, .int 0])), (q1, .inl (c1, 1040, .inl (fun _ => 0))), (q2, .inl (c2, 1040, .inl (fun _ => 0))), (q3, .inl (c3, 1040, .inl (fun _ => 0))), (q4, .inl (c4, 1040, .inl (fun _ => 0))), (q5, .inl (c5, 17, .inr (.inl (fun _ => 0)))), (q6, .inl (c6, 17, .inr (.inl (fun _ => 0))))] := hD
  have hK : va_K (dC, dI) vwCl [(c1, .int), (c2, .int), (c3, .int), (c4, .boolean), (c5, .long), (c6, .long)] s := hK
  refine W.widen (k := 6) (n := 4194) (Nat.le_refl _) (Nat.le_refl _) ?_
  refine va_putF (D := (dC, dI)) (ci := 6) (v := .ref q6) (ty := .array .long) (C := "GuessFences$Taint") (T := gf_T6) (N := 11) hx hb hts lays_6 gf_y6 gf_ty6 gf_nm6 hown hK hP hD hS 0 rfl rfl 7 (by decide) (hts (.fieldLink "GuessFences$Taint" 29 "GuessFences$Taint" "betrayers" "[J") (gv_i1 215 rfl rfl)) (fun _ h9 => h9) rfl hin rfl (by decide +kernel) rfl rfl (Nat.le_of_ble_eq_true rfl) (by decide +kernel) (fun H locs hP hD hS => ?_)
  have hP : va_P (dC, dI) vwCl [(h0, .inr (6, [.null, .null, .ref q1, .ref q2, .ref q3, .ref q4, .ref q5, .ref q6, .int 0, .int 0, .int 0])), (q1, .inl (c1, 1040, .inl (fun _ => 0))), (q2, .inl (c2, 1040, .inl (fun _ => 0))), (q3, .inl (c3, 1040, .inl (fun _ => 0))), (q4, .inl (c4, 1040, .inl (fun _ => 0))), (q5, .inl (c5, 17, .inr (.inl (fun _ => 0)))), (q6, .inl (c6, 17, .inr (.inl (fun _ => 0))))] H := hP
  have hD : va_D A [(h0, .inr (6, [.null, .null, .ref q1, .ref q2, .ref q3, .ref q4, .ref q5, .ref q6, .int 0, .int 0, .int 0])), (q1, .inl (c1, 1040, .inl (fun _ => 0))), (q2, .inl (c2, 1040, .inl (fun _ => 0))), (q3, .inl (c3, 1040, .inl (fun _ => 0))), (q4, .inl (c4, 1040, .inl (fun _ => 0))), (q5, .inl (c5, 17, .inr (.inl (fun _ => 0)))), (q6, .inl (c6, 17, .inr (.inl (fun _ => 0))))] := hD
  refine lv_aload_n hx hb (show decode prog_10_method_1_code 56 = .ok (.aload_n 0, 1) from by decide +kernel) rfl (lv_at hl 0 rfl) ?_
  refine lv_iconst (n := 0) (v := 0) hx hb (by decide +kernel) (by decide) ?_
  refine va_put (D := (dC, dI)) (ci := 6) (v := .int 0) (ty := .int) (C := "GuessFences$Taint") (T := gf_T6) (N := 11) hx hb hts lays_6 gf_y6 gf_ty6 gf_nm6 hown hK hP hD hS 0 rfl rfl 8 (by decide) (hts (.fieldLink "GuessFences$Taint" 32 "GuessFences$Taint" "guessedCount" "I") (gv_i1 216 rfl rfl)) (fun _ h9 => h9) rfl (by decide +kernel) rfl rfl (Nat.le_of_ble_eq_true rfl) (by decide +kernel) (fun H locs hP hD hS => ?_)
  have hP : va_P (dC, dI) vwCl [(h0, .inr (6, [.null, .null, .ref q1, .ref q2, .ref q3, .ref q4, .ref q5, .ref q6, .int 0, .int 0, .int 0])), (q1, .inl (c1, 1040, .inl (fun _ => 0))), (q2, .inl (c2, 1040, .inl (fun _ => 0))), (q3, .inl (c3, 1040, .inl (fun _ => 0))), (q4, .inl (c4, 1040, .inl (fun _ => 0))), (q5, .inl (c5, 17, .inr (.inl (fun _ => 0)))), (q6, .inl (c6, 17, .inr (.inl (fun _ => 0))))] H := hP
  have hD : va_D A [(h0, .inr (6, [.null, .null, .ref q1, .ref q2, .ref q3, .ref q4, .ref q5, .ref q6, .int 0, .int 0, .int 0])), (q1, .inl (c1, 1040, .inl (fun _ => 0))), (q2, .inl (c2, 1040, .inl (fun _ => 0))), (q3, .inl (c3, 1040, .inl (fun _ => 0))), (q4, .inl (c4, 1040, .inl (fun _ => 0))), (q5, .inl (c5, 17, .inr (.inl (fun _ => 0)))), (q6, .inl (c6, 17, .inr (.inl (fun _ => 0))))] := hD
  refine lv_aload_n hx hb (show decode prog_10_method_1_code 61 = .ok (.aload_n 0, 1) from by decide +kernel) rfl (lv_at hl 0 rfl) ?_
  refine lv_iconst (n := 0) (v := 0) hx hb (by decide +kernel) (by decide) ?_
  refine va_put (D := (dC, dI)) (ci := 6) (v := .int 0) (ty := .int) (C := "GuessFences$Taint") (T := gf_T6) (N := 11) hx hb hts lays_6 gf_y6 gf_ty6 gf_nm6 hown hK hP hD hS 0 rfl rfl 9 (by decide) (hts (.fieldLink "GuessFences$Taint" 36 "GuessFences$Taint" "resultCount" "I") (gv_i1 217 rfl rfl)) (fun _ h9 => h9) rfl (by decide +kernel) rfl rfl (Nat.le_of_ble_eq_true rfl) (by decide +kernel) (fun H locs hP hD hS => ?_)
  have hP : va_P (dC, dI) vwCl [(h0, .inr (6, [.null, .null, .ref q1, .ref q2, .ref q3, .ref q4, .ref q5, .ref q6, .int 0, .int 0, .int 0])), (q1, .inl (c1, 1040, .inl (fun _ => 0))), (q2, .inl (c2, 1040, .inl (fun _ => 0))), (q3, .inl (c3, 1040, .inl (fun _ => 0))), (q4, .inl (c4, 1040, .inl (fun _ => 0))), (q5, .inl (c5, 17, .inr (.inl (fun _ => 0)))), (q6, .inl (c6, 17, .inr (.inl (fun _ => 0))))] H := hP
  have hD : va_D A [(h0, .inr (6, [.null, .null, .ref q1, .ref q2, .ref q3, .ref q4, .ref q5, .ref q6, .int 0, .int 0, .int 0])), (q1, .inl (c1, 1040, .inl (fun _ => 0))), (q2, .inl (c2, 1040, .inl (fun _ => 0))), (q3, .inl (c3, 1040, .inl (fun _ => 0))), (q4, .inl (c4, 1040, .inl (fun _ => 0))), (q5, .inl (c5, 17, .inr (.inl (fun _ => 0)))), (q6, .inl (c6, 17, .inr (.inl (fun _ => 0))))] := hD
  refine lv_aload_n hx hb (show decode prog_10_method_1_code 66 = .ok (.aload_n 0, 1) from by decide +kernel) rfl (lv_at hl 0 rfl) ?_
  refine lv_iconst (n := 0) (v := 0) hx hb (by decide +kernel) (by decide) ?_
  refine va_put (D := (dC, dI)) (ci := 6) (v := .int 0) (ty := .int) (C := "GuessFences$Taint") (T := gf_T6) (N := 11) hx hb hts lays_6 gf_y6 gf_ty6 gf_nm6 hown hK hP hD hS 0 rfl rfl 10 (by decide) (hts (.fieldLink "GuessFences$Taint" 39 "GuessFences$Taint" "exposed" "I") (gv_i1 219 rfl rfl)) (fun _ h9 => h9) rfl (by decide +kernel) rfl rfl (Nat.le_of_ble_eq_true rfl) (by decide +kernel) (fun H locs hP hD hS => ?_)
  have hP : va_P (dC, dI) vwCl [(h0, .inr (6, [.null, .null, .ref q1, .ref q2, .ref q3, .ref q4, .ref q5, .ref q6, .int 0, .int 0, .int 0])), (q1, .inl (c1, 1040, .inl (fun _ => 0))), (q2, .inl (c2, 1040, .inl (fun _ => 0))), (q3, .inl (c3, 1040, .inl (fun _ => 0))), (q4, .inl (c4, 1040, .inl (fun _ => 0))), (q5, .inl (c5, 17, .inr (.inl (fun _ => 0)))), (q6, .inl (c6, 17, .inr (.inl (fun _ => 0))))] H := hP
  have hD : va_D A [(h0, .inr (6, [.null, .null, .ref q1, .ref q2, .ref q3, .ref q4, .ref q5, .ref q6, .int 0, .int 0, .int 0])), (q1, .inl (c1, 1040, .inl (fun _ => 0))), (q2, .inl (c2, 1040, .inl (fun _ => 0))), (q3, .inl (c3, 1040, .inl (fun _ => 0))), (q4, .inl (c4, 1040, .inl (fun _ => 0))), (q5, .inl (c5, 17, .inr (.inl (fun _ => 0)))), (q6, .inl (c6, 17, .inr (.inl (fun _ => 0))))] := hD
  refine lv_aload_n hx hb (show decode prog_10_method_1_code 71 = .ok (.aload_n 0, 1) from by decide +kernel) rfl (lv_at hl 0 rfl) ?_
  refine lv_aload_n hx hb (show decode prog_10_method_1_code 72 = .ok (.aload_n 1, 1) from by decide +kernel) rfl (lv_at hl 1 rfl) ?_
  refine va_putF (D := (dC, dI)) (ci := 6) (v := .ref a1) (ty := .object "GuessFences$Listing") (C := "GuessFences$Taint") (T := gf_T6) (N := 11) hx hb hts lays_6 gf_y6 gf_ty6 gf_nm6 hown hK hP hD hS 0 rfl rfl 0 (by decide) (hts (.fieldLink "GuessFences$Taint" 42 "GuessFences$Taint" "listing" "LGuessFences$Listing;") (gv_i1 203 rfl rfl)) (fun _ h9 => h9) rfl hin rfl (by decide +kernel) rfl rfl (Nat.le_of_ble_eq_true rfl) (by decide +kernel) (fun H locs hP hD hS => ?_)
  have hP : va_P (dC, dI) vwCl [(h0, .inr (6, [.ref a1, .null, .ref q1, .ref q2, .ref q3, .ref q4, .ref q5, .ref q6, .int 0, .int 0, .int 0])), (q1, .inl (c1, 1040, .inl (fun _ => 0))), (q2, .inl (c2, 1040, .inl (fun _ => 0))), (q3, .inl (c3, 1040, .inl (fun _ => 0))), (q4, .inl (c4, 1040, .inl (fun _ => 0))), (q5, .inl (c5, 17, .inr (.inl (fun _ => 0)))), (q6, .inl (c6, 17, .inr (.inl (fun _ => 0))))] H := hP
  have hD : va_D A [(h0, .inr (6, [.ref a1, .null, .ref q1, .ref q2, .ref q3, .ref q4, .ref q5, .ref q6, .int 0, .int 0, .int 0])), (q1, .inl (c1, 1040, .inl (fun _ => 0))), (q2, .inl (c2, 1040, .inl (fun _ => 0))), (q3, .inl (c3, 1040, .inl (fun _ => 0))), (q4, .inl (c4, 1040, .inl (fun _ => 0))), (q5, .inl (c5, 17, .inr (.inl (fun _ => 0)))), (q6, .inl (c6, 17, .inr (.inl (fun _ => 0))))] := hD
  refine lv_aload_n hx hb (show decode prog_10_method_1_code 76 = .ok (.aload_n 0, 1) from by decide +kernel) rfl (lv_at hl 0 rfl) ?_
  refine lv_aload_n hx hb (show decode prog_10_method_1_code 77 = .ok (.aload_n 2, 1) from by decide +kernel) rfl (lv_at hl 2 rfl) ?_
  refine va_putF (D := (dC, dI)) (ci := 6) (v := .ref a2) (ty := .object "GuessFences$Reach") (C := "GuessFences$Taint") (T := gf_T6) (N := 11) hx hb hts lays_6 gf_y6 gf_ty6 gf_nm6 hown hK hP hD hS 0 rfl rfl 1 (by decide) (hts (.fieldLink "GuessFences$Taint" 46 "GuessFences$Taint" "reach" "LGuessFences$Reach;") (gv_i1 204 rfl rfl)) (fun _ h9 => h9) rfl hin rfl (by decide +kernel) rfl rfl (Nat.le_of_ble_eq_true rfl) (by decide +kernel) (fun H locs hP hD hS => ?_)
  have hP : va_P (dC, dI) vwCl [(h0, .inr (6, [.ref a1, .ref a2, .ref q1, .ref q2, .ref q3, .ref q4, .ref q5, .ref q6, .int 0, .int 0, .int 0])), (q1, .inl (c1, 1040, .inl (fun _ => 0))), (q2, .inl (c2, 1040, .inl (fun _ => 0))), (q3, .inl (c3, 1040, .inl (fun _ => 0))), (q4, .inl (c4, 1040, .inl (fun _ => 0))), (q5, .inl (c5, 17, .inr (.inl (fun _ => 0)))), (q6, .inl (c6, 17, .inr (.inl (fun _ => 0))))] H := hP
  have hD : va_D A [(h0, .inr (6, [.ref a1, .ref a2, .ref q1, .ref q2, .ref q3, .ref q4, .ref q5, .ref q6, .int 0, .int 0, .int 0])), (q1, .inl (c1, 1040, .inl (fun _ => 0))), (q2, .inl (c2, 1040, .inl (fun _ => 0))), (q3, .inl (c3, 1040, .inl (fun _ => 0))), (q4, .inl (c4, 1040, .inl (fun _ => 0))), (q5, .inl (c5, 17, .inr (.inl (fun _ => 0)))), (q6, .inl (c6, 17, .inr (.inl (fun _ => 0))))] := hD
  exact W.vret hx hb hr (fun t ht hW => ⟨⟨(), rfl, trivial, q1, q2, q3, q4, q5, q6, c1, c2, c3, c4, c5, c6, by rw [ht]; exact hP, va_K.moved hW.alike hK, hD⟩, hS.F ht⟩) hS.2.2 (by decide +kernel)

set_option maxHeartbeats 4000000 in
set_option maxRecDepth 100000 in
theorem k_Cut_init (l : Launch) (dC : Nat → ClassId) (dI : Nat → Nat → Nat) (h0 a1 a2 a3 : Nat) (sz : Nat) : Met l ⟨"GuessFences$Cut", "<init>", "(LGuessFences$Listing;LGuessFences$Reach;LGuessFences$Taint;)V"⟩ [.code ⟨"GuessFences$Cut", "<init>", "(LGuessFences$Listing;LGuessFences$Reach;LGuessFences$Taint;)V"⟩ prog_3_method_1_code 4 none] (gc_rm 8 4 5217) (va_Pc [.ref h0, .ref a1, .ref a2, .ref a3] (gc_P dC dI sz [(h0, .inr (7, [.null, .null, .null, .null, .null, .null, .null, .int 0, .int 0]))])) (va_Qv (fun _ : Unit => True) (fun _ t => ∃ (q1 q2 q3 q4 : Nat) (c1 c2 c3 c4 : ClassId), va_P (dC, dI) vwCl [(h0, .inr (7, [.ref a1, .ref a2, .ref a3, .ref q1, .ref q2, .ref q3, .ref q4, .int 0, .int 0])), (q1, .inl (c1, 1040, .inl (fun _ => 0))), (q2, .inl (c2, 2080, .inl (fun _ => 0))), (q3, .inl (c3, 2080, .inl (fun _ => 0))), (q4, .inl (c4, 17, .inr (.inl (fun _ => 0))))] t.heap ∧ va_K (dC, dI) vwCl [(c1, .int), (c2, .int), (c3, .int), (c4, .long)] t ∧ va_D (va_A [(h0, .inr (7, [.null, .null, .null, .null, .null, .null, .null, .int 0, .int 0]))] sz) [(h0, .inr (7, [.ref a1, .ref a2, .ref a3, .ref q1, .ref q2, .ref q3, .ref q4, .int 0, .int 0])), (q1, .inl (c1, 1040, .inl (fun _ => 0))), (q2, .inl (c2, 2080, .inl (fun _ => 0))), (q3, .inl (c3, 2080, .inl (fun _ => 0))), (q4, .inl (c4, 17, .inr (.inl (fun _ => 0))))]) (va_A [(h0, .inr (7, [.null, .null, .null, .null, .null, .null, .null, .int 0, .int 0]))] sz)) 4 5217 (va_A [(h0, .inr (7, [.null, .null, .null, .null, .null, .null, .null, .int 0, .int 0]))] sz) := by
  refine Met.ofW (cc := prog_3_method_1_code) (maxL := 4) (ret := none) (by decide) rfl ?_
  intro p e s m args below meth c s₁ B hml hv
  obtain ⟨rfl, hsz, hT, hP, hK, hD0⟩ := hv
  have hx := B.exec
  have hb := B.bytes
  have hr := B.returns
  have hown : s.vm.findClass "GuessFences$Cut" = some m.cls := findClass_of_methodNamed B.named
  have hlocks := B.notSynchronized
  have hin : meth.name = "<init>" := (name_of_methodNamed B.named B.method).1
  subst hsz
  generalize hargs : ([.ref h0, .ref a1, .ref a2, .ref a3] : List Value).toArray = args
  have hD := hD0.self (sz := s.heap.size)
  generalize hAe : va_A [(h0, .inr (7, [.null, .null, .null, .null, .null, .null, .null, .int 0, .int 0]))] s.heap.size = A at hD ⊢
  have hA : ∀ q : Nat, s.heap.size ≤ q → A q := fun q h => by rw [← hAe]; exact Or.inr h
  have hS : va_S A s.heap s.heap [] := va_S.rf
  have hts := gc_hts hT args
  rw [← hargs]
  have hl := lv_entry ([.ref h0, .ref a1, .ref a2, .ref a3]) (n := 4) (Nat.le_of_ble_eq_true rfl)
  rw [lg_entry_eq]
  generalize (lg_sl ([.ref h0, .ref a1, .ref a2, .ref a3]) ++ List.replicate (4 - (lg_sl ([.ref h0, .ref a1, .ref a2, .ref a3])).length) Slot.unset).toArray = ls at hl ⊢
  rw [hargs]
  have hl : lv_has ls 4 [(0, .ref h0), (1, .ref a1), (2, .ref a2), (3, .ref a3)] := hl
  refine lv_aload_n hx hb (show decode prog_3_method_1_code 0 = .ok (.aload_n 0, 1) from by decide +kernel) rfl (lv_at hl 0 rfl) ?_
  refine W.objInit hx hb hown (hts (.methodLink "GuessFences$Cut" 3 objectInit) (gv_i2 11 rfl rfl)) (hts (.instanceMethod objectInit) (gv_i1 38 rfl rfl)) (hts (.code objectInit ⟨#[0xb1]⟩ 1 none) (gv_i1 39 rfl rfl)) rfl (by rw [hml]; exact hl.1) rfl (show decode prog_3_method_1_code 1 = .ok (.invokespecial 3, 3) from by decide +kernel) (Nat.le_of_ble_eq_true rfl) (Nat.le_of_ble_eq_true rfl) ?_
  refine W.eq (g2 := F0 m 4 ls []) rfl ?_
  refine lv_aload_n hx hb (show decode prog_3_method_1_code 4 = .ok (.aload_n 0, 1) from by decide +kernel) rfl (lv_at hl 0 rfl) ?_
  refine lv_sipush (n := 1040) (v := 1040) hx hb (by decide +kernel) (by decide) ?_
  refine va_newa (atype := .int) (ty := .int) (a0 := (1040, .inl (fun _ => 0))) hx hb (gc_arr hT args (ty := .int) (by simp)) rfl hK hP hD hS hA (fun _ => rfl) (by decide) (N' := 1040) (by decide) (by decide) (Nat.le_of_ble_eq_true rfl) (Nat.le_of_ble_eq_true rfl) (show decode prog_3_method_1_code 8 = .ok (.newarray .int, 2) from by decide +kernel) (fun q1 c1 H hK hP hD hS => ?_)
  have hP : va_P (dC, dI) vwCl [(h0, .inr (7, [.null, .null, .null, .null, .null, .null, .null, .int 0, .int 0])), (q1, .inl (c1, 1040, .inl (fun _ => 0)))] H := hP
  have hD : va_D A [(h0, .inr (7, [.null, .null, .null, .null, .null, .null, .null, .int 0, .int 0])), (q1, .inl (c1, 1040, .inl (fun _ => 0)))] := hD
  have hK : va_K (dC, dI) vwCl [(c1, .int)] s := hK
  refine W.widen (k := 1) (n := 1040) (Nat.le_refl _) (Nat.le_refl _) ?_
  refine va_putF (D := (dC, dI)) (ci := 7) (v := .ref q1) (ty := .array .int) (C := "GuessFences$Cut") (T := gf_T7) (N := 9) hx hb hts lays_7 gf_y7 gf_ty7 gf_nm7 hown hK hP hD hS 0 rfl rfl 3 (by decide) (hts (.fieldLink "GuessFences$Cut" 9 "GuessFences$Cut" "pathBefore" "[I") (gv_i2 15 rfl rfl)) (fun _ h9 => h9) rfl hin rfl (by decide +kernel) rfl rfl (Nat.le_of_ble_eq_true rfl) (by decide +kernel) (fun H locs hP hD hS => ?_)
  have hP : va_P (dC, dI) vwCl [(h0, .inr (7, [.null, .null, .null, .ref q1, .null, .null, .null, .int 0, .int 0])), (q1, .inl (c1, 1040, .inl (fun _ => 0)))] H := hP
  have hD : va_D A [(h0, .inr (7, [.null, .null, .null, .ref q1, .null, .null, .null, .int 0, .int 0])), (q1, .inl (c1, 1040, .inl (fun _ => 0)))] := hD
  refine lv_aload_n hx hb (show decode prog_3_method_1_code 13 = .ok (.aload_n 0, 1) from by decide +kernel) rfl (lv_at hl 0 rfl) ?_
  refine lv_sipush (n := 2080) (v := 2080) hx hb (by decide +kernel) (by decide) ?_
  refine va_newa (atype := .int) (ty := .int) (a0 := (2080, .inl (fun _ => 0))) hx hb (gc_arr hT args (ty := .int) (by simp)) rfl hK hP hD hS hA (fun _ => rfl) (by decide) (N' := 2080) (by decide) (by decide) (Nat.le_of_ble_eq_true rfl) (Nat.le_of_ble_eq_true rfl) (show decode prog_3_method_1_code 17 = .ok (.newarray .int, 2) from by decide +kernel) (fun q2 c2 H hK hP hD hS => ?_)
  have hP : va_P (dC, dI) vwCl [(h0, .inr (7, [.null, .null, .null, .ref q1, .null, .null, .null, .int 0, .int 0])), (q1, .inl (c1, 1040, .inl (fun _ => 0))), (q2, .inl (c2, 2080, .inl (fun _ => 0)))] H := hP
  have hD : va_D A [(h0, .inr (7, [.null, .null, .null, .ref q1, .null, .null, .null, .int 0, .int 0])), (q1, .inl (c1, 1040, .inl (fun _ => 0))), (q2, .inl (c2, 2080, .inl (fun _ => 0)))] := hD
  have hK : va_K (dC, dI) vwCl [(c1, .int), (c2, .int)] s := hK
  refine W.widen (k := 2) (n := 3120) (Nat.le_refl _) (Nat.le_refl _) ?_
  refine va_putF (D := (dC, dI)) (ci := 7) (v := .ref q2) (ty := .array .int) (C := "GuessFences$Cut") (T := gf_T7) (N := 9) hx hb hts lays_7 gf_y7 gf_ty7 gf_nm7 hown hK hP hD hS 0 rfl rfl 4 (by decide) (hts (.fieldLink "GuessFences$Cut" 15 "GuessFences$Cut" "cameFrom" "[I") (gv_i2 16 rfl rfl)) (fun _ h9 => h9) rfl hin rfl (by decide +kernel) rfl rfl (Nat.le_of_ble_eq_true rfl) (by decide +kernel) (fun H locs hP hD hS => ?_)
  have hP : va_P (dC, dI) vwCl [(h0, .inr (7, [.null, .null, .null, .ref q1, .ref q2, .null, .null, .int 0, .int 0])), (q1, .inl (c1, 1040, .inl (fun _ => 0))), (q2, .inl (c2, 2080, .inl (fun _ => 0)))] H := hP
  have hD : va_D A [(h0, .inr (7, [.null, .null, .null, .ref q1, .ref q2, .null, .null, .int 0, .int 0])), (q1, .inl (c1, 1040, .inl (fun _ => 0))), (q2, .inl (c2, 2080, .inl (fun _ => 0)))] := hD
  refine lv_aload_n hx hb (show decode prog_3_method_1_code 22 = .ok (.aload_n 0, 1) from by decide +kernel) rfl (lv_at hl 0 rfl) ?_
  refine lv_sipush (n := 2080) (v := 2080) hx hb (by decide +kernel) (by decide) ?_
  refine va_newa (atype := .int) (ty := .int) (a0 := (2080, .inl (fun _ => 0))) hx hb (gc_arr hT args (ty := .int) (by simp)) rfl hK hP hD hS hA (fun _ => rfl) (by decide) (N' := 2080) (by decide) (by decide) (Nat.le_of_ble_eq_true rfl) (Nat.le_of_ble_eq_true rfl) (show decode prog_3_method_1_code 26 = .ok (.newarray .int, 2) from by decide +kernel) (fun q3 c3 H hK hP hD hS => ?_)
  have hP : va_P (dC, dI) vwCl [(h0, .inr (7, [.null, .null, .null, .ref q1, .ref q2, .null, .null, .int 0, .int 0])), (q1, .inl (c1, 1040, .inl (fun _ => 0))), (q2, .inl (c2, 2080, .inl (fun _ => 0))), (q3, .inl (c3, 2080, .inl (fun _ => 0)))] H := hP
  have hD : va_D A [(h0, .inr (7, [.null, .null, .null, .ref q1, .ref q2, .null, .null, .int 0, .int 0])), (q1, .inl (c1, 1040, .inl (fun _ => 0))), (q2, .inl (c2, 2080, .inl (fun _ => 0))), (q3, .inl (c3, 2080, .inl (fun _ => 0)))] := hD
  have hK : va_K (dC, dI) vwCl [(c1, .int), (c2, .int), (c3, .int)] s := hK
  refine W.widen (k := 3) (n := 5200) (Nat.le_refl _) (Nat.le_refl _) ?_
  refine va_putF (D := (dC, dI)) (ci := 7) (v := .ref q3) (ty := .array .int) (C := "GuessFences$Cut") (T := gf_T7) (N := 9) hx hb hts lays_7 gf_y7 gf_ty7 gf_nm7 hown hK hP hD hS 0 rfl rfl 5 (by decide) (hts (.fieldLink "GuessFences$Cut" 18 "GuessFences$Cut" "queue" "[I") (gv_i2 17 rfl rfl)) (fun _ h9 => h9) rfl hin rfl (by decide +kernel) rfl rfl (Nat.le_of_ble_eq_true rfl) (by decide +kernel) (fun H locs hP hD hS => ?_)
  have hP : va_P (dC, dI) vwCl [(h0, .inr (7, [.null, .null, .null, .ref q1, .ref q2, .ref q3, .null, .int 0, .int 0])), (q1, .inl (c1, 1040, .inl (fun _ => 0))), (q2, .inl (c2, 2080, .inl (fun _ => 0))), (q3, .inl (c3, 2080, .inl (fun _ => 0)))] H := hP
  have hD : va_D A [(h0, .inr (7, [.null, .null, .null, .ref q1, .ref q2, .ref q3, .null, .int 0, .int 0])), (q1, .inl (c1, 1040, .inl (fun _ => 0))), (q2, .inl (c2, 2080, .inl (fun _ => 0))), (q3, .inl (c3, 2080, .inl (fun _ => 0)))] := hD
  refine lv_aload_n hx hb (show decode prog_3_method_1_code 31 = .ok (.aload_n 0, 1) from by decide +kernel) rfl (lv_at hl 0 rfl) ?_
  refine lv_bipush (n := 17) (v := 17) hx hb (by decide +kernel) (by decide) ?_
  refine va_newa (atype := .long) (ty := .long) (a0 := (17, .inr (.inl (fun _ => 0)))) hx hb (gc_arr hT args (ty := .long) (by simp)) rfl hK hP hD hS hA (fun _ => rfl) (by decide) (N' := 17) (by decide) (by decide) (Nat.le_of_ble_eq_true rfl) (Nat.le_of_ble_eq_true rfl) (show decode prog_3_method_1_code 34 = .ok (.newarray .long, 2) from by decide +kernel) (fun q4 c4 H hK hP hD hS => ?_)
  have hP : va_P (dC, dI) vwCl [(h0, .inr (7, [.null, .null, .null, .ref q1, .ref q2, .ref q3, .null, .int 0, .int 0])), (q1, .inl (c1, 1040, .inl (fun _ => 0))), (q2, .inl (c2, 2080, .inl (fun _ => 0))), (q3, .inl (c3, 2080, .inl (fun _ => 0))), (q4, .inl (c4, 17, .inr (.inl (fun _ => 0))))] H := hP
  have hD : va_D A [(h0, .inr (7, [.null, .null, .null, .ref q1, .ref q2, .ref q3, .null, .int 0, .int 0])), (q1, .inl (c1, 1040, .inl (fun _ => 0))), (q2, .inl (c2, 2080, .inl (fun _ => 0))), (q3, .inl (c3, 2080, .inl (fun _ => 0))), (q4, .inl (c4, 17, .inr (.inl (fun _ => 0))))] := hD
  have hK : va_K (dC, dI) vwCl [(c1, .int), (c2, .int), (c3, .int), (c4, .long)] s := hK
  refine W.widen (k := 4) (n := 5217) (Nat.le_refl _) (Nat.le_refl _) ?_
  refine va_putF (D := (dC, dI)) (ci := 7) (v := .ref q4) (ty := .array .long) (C := "GuessFences$Cut") (T := gf_T7) (N := 9) hx hb hts lays_7 gf_y7 gf_ty7 gf_nm7 hown hK hP hD hS 0 rfl rfl 6 (by decide) (hts (.fieldLink "GuessFences$Cut" 21 "GuessFences$Cut" "unseenEntrances" "[J") (gv_i2 18 rfl rfl)) (fun _ h9 => h9) rfl hin rfl (by decide +kernel) rfl rfl (Nat.le_of_ble_eq_true rfl) (by decide +kernel) (fun H locs hP hD hS => ?_)
  have hP : va_P (dC, dI) vwCl [(h0, .inr (7, [.null, .null, .null, .ref q1, .ref q2, .ref q3, .ref q4, .int 0, .int 0])), (q1, .inl (c1, 1040, .inl (fun _ => 0))), (q2, .inl (c2, 2080, .inl (fun _ => 0))), (q3, .inl (c3, 2080, .inl (fun _ => 0))), (q4, .inl (c4, 17, .inr (.inl (fun _ => 0))))] H := hP
  have hD : va_D A [(h0, .inr (7, [.null, .null, .null, .ref q1, .ref q2, .ref q3, .ref q4, .int 0, .int 0])), (q1, .inl (c1, 1040, .inl (fun _ => 0))), (q2, .inl (c2, 2080, .inl (fun _ => 0))), (q3, .inl (c3, 2080, .inl (fun _ => 0))), (q4, .inl (c4, 17, .inr (.inl (fun _ => 0))))] := hD
  refine lv_aload_n hx hb (show decode prog_3_method_1_code 39 = .ok (.aload_n 0, 1) from by decide +kernel) rfl (lv_at hl 0 rfl) ?_
  refine lv_iconst (n := 0) (v := 0) hx hb (by decide +kernel) (by decide) ?_
  refine va_put (D := (dC, dI)) (ci := 7) (v := .int 0) (ty := .int) (C := "GuessFences$Cut") (T := gf_T7) (N := 9) hx hb hts lays_7 gf_y7 gf_ty7 gf_nm7 hown hK hP hD hS 0 rfl rfl 7 (by decide) (hts (.fieldLink "GuessFences$Cut" 25 "GuessFences$Cut" "tail" "I") (gv_i2 19 rfl rfl)) (fun _ h9 => h9) rfl (by decide +kernel) rfl rfl (Nat.le_of_ble_eq_true rfl) (by decide +kernel) (fun H locs hP hD hS => ?_)
  have hP : va_P (dC, dI) vwCl [(h0, .inr (7, [.null, .null, .null, .ref q1, .ref q2, .ref q3, .ref q4, .int 0, .int 0])), (q1, .inl (c1, 1040, .inl (fun _ => 0))), (q2, .inl (c2, 2080, .inl (fun _ => 0))), (q3, .inl (c3, 2080, .inl (fun _ => 0))), (q4, .inl (c4, 17, .inr (.inl (fun _ => 0))))] H := hP
  have hD : va_D A [(h0, .inr (7, [.null, .null, .null, .ref q1, .ref q2, .ref q3, .ref q4, .int 0, .int 0])), (q1, .inl (c1, 1040, .inl (fun _ => 0))), (q2, .inl (c2, 2080, .inl (fun _ => 0))), (q3, .inl (c3, 2080, .inl (fun _ => 0))), (q4, .inl (c4, 17, .inr (.inl (fun _ => 0))))] := hD
  refine lv_aload_n hx hb (show decode prog_3_method_1_code 44 = .ok (.aload_n 0, 1) from by decide +kernel) rfl (lv_at hl 0 rfl) ?_
  refine lv_iconst (n := 0) (v := 0) hx hb (by decide +kernel) (by decide) ?_
  refine va_put (D := (dC, dI)) (ci := 7) (v := .int 0) (ty := .int) (C := "GuessFences$Cut") (T := gf_T7) (N := 9) hx hb hts lays_7 gf_y7 gf_ty7 gf_nm7 hown hK hP hD hS 0 rfl rfl 8 (by decide) (hts (.fieldLink "GuessFences$Cut" 29 "GuessFences$Cut" "results" "I") (gv_i2 20 rfl rfl)) (fun _ h9 => h9) rfl (by decide +kernel) rfl rfl (Nat.le_of_ble_eq_true rfl) (by decide +kernel) (fun H locs hP hD hS => ?_)
  have hP : va_P (dC, dI) vwCl [(h0, .inr (7, [.null, .null, .null, .ref q1, .ref q2, .ref q3, .ref q4, .int 0, .int 0])), (q1, .inl (c1, 1040, .inl (fun _ => 0))), (q2, .inl (c2, 2080, .inl (fun _ => 0))), (q3, .inl (c3, 2080, .inl (fun _ => 0))), (q4, .inl (c4, 17, .inr (.inl (fun _ => 0))))] H := hP
  have hD : va_D A [(h0, .inr (7, [.null, .null, .null, .ref q1, .ref q2, .ref q3, .ref q4, .int 0, .int 0])), (q1, .inl (c1, 1040, .inl (fun _ => 0))), (q2, .inl (c2, 2080, .inl (fun _ => 0))), (q3, .inl (c3, 2080, .inl (fun _ => 0))), (q4, .inl (c4, 17, .inr (.inl (fun _ => 0))))] := hD
  refine lv_aload_n hx hb (show decode prog_3_method_1_code 49 = .ok (.aload_n 0, 1) from by decide +kernel) rfl (lv_at hl 0 rfl) ?_
  refine lv_aload_n hx hb (show decode prog_3_method_1_code 50 = .ok (.aload_n 1, 1) from by decide +kernel) rfl (lv_at hl 1 rfl) ?_
  refine va_putF (D := (dC, dI)) (ci := 7) (v := .ref a1) (ty := .object "GuessFences$Listing") (C := "GuessFences$Cut") (T := gf_T7) (N := 9) hx hb hts lays_7 gf_y7 gf_ty7 gf_nm7 hown hK hP hD hS 0 rfl rfl 0 (by decide) (hts (.fieldLink "GuessFences$Cut" 32 "GuessFences$Cut" "listing" "LGuessFences$Listing;") (gv_i2 12 rfl rfl)) (fun _ h9 => h9) rfl hin rfl (by decide +kernel) rfl rfl (Nat.le_of_ble_eq_true rfl) (by decide +kernel) (fun H locs hP hD hS => ?_)
  have hP : va_P (dC, dI) vwCl [(h0, .inr (7, [.ref a1, .null, .null, .ref q1, .ref q2, .ref q3, .ref q4, .int 0, .int 0])), (q1, .inl (c1, 1040, .inl (fun _ => 0))), (q2, .inl (c2, 2080, .inl (fun _ => 0))), (q3, .inl (c3, 2080, .inl (fun _ => 0))), (q4, .inl (c4, 17, .inr (.inl (fun _ => 0))))] H := hP
  have hD : va_D A [(h0, .inr (7, [.ref a1, .null, .null, .ref q1, .ref q2, .ref q3, .ref q4, .int 0, .int 0])), (q1, .inl (c1, 1040, .inl (fun _ => 0))), (q2, .inl (c2, 2080, .inl (fun _ => 0))), (q3, .inl (c3, 2080, .inl (fun _ => 0))), (q4, .inl (c4, 17, .inr (.inl (fun _ => 0))))] := hD
  refine lv_aload_n hx hb (show decode prog_3_method_1_code 54 = .ok (.aload_n 0, 1) from by decide +kernel) rfl (lv_at hl 0 rfl) ?_
  refine lv_aload_n hx hb (show decode prog_3_method_1_code 55 = .ok (.aload_n 2, 1) from by decide +kernel) rfl (lv_at hl 2 rfl) ?_
  refine va_putF (D := (dC, dI)) (ci := 7) (v := .ref a2) (ty := .object "GuessFences$Reach") (C := "GuessFences$Cut") (T := gf_T7) (N := 9) hx hb hts lays_7 gf_y7 gf_ty7 gf_nm7 hown hK hP hD hS 0 rfl rfl 1 (by decide) (hts (.fieldLink "GuessFences$Cut" 36 "GuessFences$Cut" "reach" "LGuessFences$Reach;") (gv_i2 13 rfl rfl)) (fun _ h9 => h9) rfl hin rfl (by decide +kernel) rfl rfl (Nat.le_of_ble_eq_true rfl) (by decide +kernel) (fun H locs hP hD hS => ?_)
  have hP : va_P (dC, dI) vwCl [(h0, .inr (7, [.ref a1, .ref a2, .null, .ref q1, .ref q2, .ref q3, .ref q4, .int 0, .int 0])), (q1, .inl (c1, 1040, .inl (fun _ => 0))), (q2, .inl (c2, 2080, .inl (fun _ => 0))), (q3, .inl (c3, 2080, .inl (fun _ => 0))), (q4, .inl (c4, 17, .inr (.inl (fun _ => 0))))] H := hP
  have hD : va_D A [(h0, .inr (7, [.ref a1, .ref a2, .null, .ref q1, .ref q2, .ref q3, .ref q4, .int 0, .int 0])), (q1, .inl (c1, 1040, .inl (fun _ => 0))), (q2, .inl (c2, 2080, .inl (fun _ => 0))), (q3, .inl (c3, 2080, .inl (fun _ => 0))), (q4, .inl (c4, 17, .inr (.inl (fun _ => 0))))] := hD
  refine lv_aload_n hx hb (show decode prog_3_method_1_code 59 = .ok (.aload_n 0, 1) from by decide +kernel) rfl (lv_at hl 0 rfl) ?_
  refine lv_aload_n hx hb (show decode prog_3_method_1_code 60 = .ok (.aload_n 3, 1) from by decide +kernel) rfl (lv_at hl 3 rfl) ?_
  refine va_putF (D := (dC, dI)) (ci := 7) (v := .ref a3) (ty := .object "GuessFences$Taint") (C := "GuessFences$Cut") (T := gf_T7) (N := 9) hx hb hts lays_7 gf_y7 gf_ty7 gf_nm7 hown hK hP hD hS 0 rfl rfl 2 (by decide) (hts (.fieldLink "GuessFences$Cut" 40 "GuessFences$Cut" "taint" "LGuessFences$Taint;") (gv_i2 14 rfl rfl)) (fun _ h9 => h9) rfl hin rfl (by decide +kernel) rfl rfl (Nat.le_of_ble_eq_true rfl) (by decide +kernel) (fun H locs hP hD hS => ?_)
  have hP : va_P (dC, dI) vwCl [(h0, .inr (7, [.ref a1, .ref a2, .ref a3, .ref q1, .ref q2, .ref q3, .ref q4, .int 0, .int 0])), (q1, .inl (c1, 1040, .inl (fun _ => 0))), (q2, .inl (c2, 2080, .inl (fun _ => 0))), (q3, .inl (c3, 2080, .inl (fun _ => 0))), (q4, .inl (c4, 17, .inr (.inl (fun _ => 0))))] H := hP
  have hD : va_D A [(h0, .inr (7, [.ref a1, .ref a2, .ref a3, .ref q1, .ref q2, .ref q3, .ref q4, .int 0, .int 0])), (q1, .inl (c1, 1040, .inl (fun _ => 0))), (q2, .inl (c2, 2080, .inl (fun _ => 0))), (q3, .inl (c3, 2080, .inl (fun _ => 0))), (q4, .inl (c4, 17, .inr (.inl (fun _ => 0))))] := hD
  exact W.vret hx hb hr (fun t ht hW => ⟨⟨(), rfl, trivial, q1, q2, q3, q4, c1, c2, c3, c4, by rw [ht]; exact hP, va_K.moved hW.alike hK, hD⟩, hS.F ht⟩) hS.2.2 (by decide +kernel)

set_option maxHeartbeats 4000000 in
set_option maxRecDepth 100000 in
theorem k_Rewriter_init (l : Launch) (dC : Nat → ClassId) (dI : Nat → Nat → Nat) (h0 a1 a2 : Nat) (sz : Nat) : Met l ⟨"GuessFences$Rewriter", "<init>", "(LGuessFences$Listing;LGuessFences$Taint;)V"⟩ [.code ⟨"GuessFences$Rewriter", "<init>", "(LGuessFences$Listing;LGuessFences$Taint;)V"⟩ prog_9_method_1_code 3 none] (gc_rm 8 2 2081) (va_Pc [.ref h0, .ref a1, .ref a2] (gc_P dC dI sz [(h0, .inr (8, [.null, .null, .null, .null]))])) (va_Qv (fun _ : Unit => True) (fun _ t => ∃ (q1 q2 : Nat) (c1 c2 : ClassId), va_P (dC, dI) vwCl [(h0, .inr (8, [.ref a1, .ref a2, .ref q1, .ref q2])), (q1, .inl (c1, 1041, .inl (fun _ => 0))), (q2, .inl (c2, 1040, .inl (fun _ => 0)))] t.heap ∧ va_K (dC, dI) vwCl [(c1, .int), (c2, .int)] t ∧ va_D (va_A [(h0, .inr (8, [.null, .null, .null, .null]))] sz) [(h0, .inr (8, [.ref a1, .ref a2, .ref q1, .ref q2])), (q1, .inl (c1, 1041, .inl (fun _ => 0))), (q2, .inl (c2, 1040, .inl (fun _ => 0)))]) (va_A [(h0, .inr (8, [.null, .null, .null, .null]))] sz)) 2 2081 (va_A [(h0, .inr (8, [.null, .null, .null, .null]))] sz) := by
  refine Met.ofW (cc := prog_9_method_1_code) (maxL := 3) (ret := none) (by decide) rfl ?_
  intro p e s m args below meth c s₁ B hml hv
  obtain ⟨rfl, hsz, hT, hP, hK, hD0⟩ := hv
  have hx := B.exec
  have hb := B.bytes
  have hr := B.returns
  have hown : s.vm.findClass "GuessFences$Rewriter" = some m.cls := findClass_of_methodNamed B.named
  have hlocks := B.notSynchronized
  have hin : meth.name = "<init>" := (name_of_methodNamed B.named B.method).1
  subst hsz
  generalize hargs : ([.ref h0, .ref a1, .ref a2] : List Value).toArray = args
  have hD := hD0.self (sz := s.heap.size)
  generalize hAe : va_A [(h0, .inr (8, [.null, .null, .null, .null]))] s.heap.size = A at hD ⊢
  have hA : ∀ q : Nat, s.heap.size ≤ q → A q := fun q h => by rw [← hAe]; exact Or.inr h
  have hS : va_S A s.heap s.heap [] := va_S.rf
  have hts := gc_hts hT args
  rw [← hargs]
  have hl := lv_entry ([.ref h0, .ref a1, .ref a2]) (n := 3) (Nat.le_of_ble_eq_true rfl)
  rw [lg_entry_eq]
  generalize (lg_sl ([.ref h0, .ref a1, .ref a2]) ++ List.replicate (3 - (lg_sl ([.ref h0, .ref a1, .ref a2])).length) Slot.unset).toArray = ls at hl ⊢
  rw [hargs]
  have hl : lv_has ls 3 [(0, .ref h0), (1, .ref a1), (2, .ref a2)] := hl
  refine lv_aload_n hx hb (show decode prog_9_method_1_code 0 = .ok (.aload_n 0, 1) from by decide +kernel) rfl (lv_at hl 0 rfl) ?_
  refine W.objInit hx hb hown (hts (.methodLink "GuessFences$Rewriter" 3 objectInit) (gv_i2 46 rfl rfl)) (hts (.instanceMethod objectInit) (gv_i1 38 rfl rfl)) (hts (.code objectInit ⟨#[0xb1]⟩ 1 none) (gv_i1 39 rfl rfl)) rfl (by rw [hml]; exact hl.1) rfl (show decode prog_9_method_1_code 1 = .ok (.invokespecial 3, 3) from by decide +kernel) (Nat.le_of_ble_eq_true rfl) (Nat.le_of_ble_eq_true rfl) ?_
  refine W.eq (g2 := F0 m 4 ls []) rfl ?_
  refine lv_aload_n hx hb (show decode prog_9_method_1_code 4 = .ok (.aload_n 0, 1) from by decide +kernel) rfl (lv_at hl 0 rfl) ?_
  refine lv_sipush (n := 1041) (v := 1041) hx hb (by decide +kernel) (by decide) ?_
  refine va_newa (atype := .int) (ty := .int) (a0 := (1041, .inl (fun _ => 0))) hx hb (gc_arr hT args (ty := .int) (by simp)) rfl hK hP hD hS hA (fun _ => rfl) (by decide) (N' := 1041) (by decide) (by decide) (Nat.le_of_ble_eq_true rfl) (Nat.le_of_ble_eq_true rfl) (show decode prog_9_method_1_code 8 = .ok (.newarray .int, 2) from by decide +kernel) (fun q1 c1 H hK hP hD hS => ?_)
  have hP : va_P (dC, dI) vwCl [(h0, .inr (8, [.null, .null, .null, .null])), (q1, .inl (c1, 1041, .inl (fun _ => 0)))] H := hP
  have hD : va_D A [(h0, .inr (8, [.null, .null, .null, .null])), (q1, .inl (c1, 1041, .inl (fun _ => 0)))] := hD
  have hK : va_K (dC, dI) vwCl [(c1, .int)] s := hK
  refine W.widen (k := 1) (n := 1041) (Nat.le_refl _) (Nat.le_refl _) ?_
  refine va_putF (D := (dC, dI)) (ci := 8) (v := .ref q1) (ty := .array .int) (C := "GuessFences$Rewriter") (T := gf_T8) (N := 4) hx hb hts lays_8 gf_y8 gf_ty8 gf_nm8 hown hK hP hD hS 0 rfl rfl 2 (by decide) (hts (.fieldLink "GuessFences$Rewriter" 9 "GuessFences$Rewriter" "moved" "[I") (gv_i2 49 rfl rfl)) (fun _ h9 => h9) rfl hin rfl (by decide +kernel) rfl rfl (Nat.le_of_ble_eq_true rfl) (by decide +kernel) (fun H locs hP hD hS => ?_)
  have hP : va_P (dC, dI) vwCl [(h0, .inr (8, [.null, .null, .ref q1, .null])), (q1, .inl (c1, 1041, .inl (fun _ => 0)))] H := hP
  have hD : va_D A [(h0, .inr (8, [.null, .null, .ref q1, .null])), (q1, .inl (c1, 1041, .inl (fun _ => 0)))] := hD
  refine lv_aload_n hx hb (show decode prog_9_method_1_code 13 = .ok (.aload_n 0, 1) from by decide +kernel) rfl (lv_at hl 0 rfl) ?_
  refine lv_sipush (n := 1040) (v := 1040) hx hb (by decide +kernel) (by decide) ?_
  refine va_newa (atype := .int) (ty := .int) (a0 := (1040, .inl (fun _ => 0))) hx hb (gc_arr hT args (ty := .int) (by simp)) rfl hK hP hD hS hA (fun _ => rfl) (by decide) (N' := 1040) (by decide) (by decide) (Nat.le_of_ble_eq_true rfl) (Nat.le_of_ble_eq_true rfl) (show decode prog_9_method_1_code 17 = .ok (.newarray .int, 2) from by decide +kernel) (fun q2 c2 H hK hP hD hS => ?_)
  have hP : va_P (dC, dI) vwCl [(h0, .inr (8, [.null, .null, .ref q1, .null])), (q1, .inl (c1, 1041, .inl (fun _ => 0))), (q2, .inl (c2, 1040, .inl (fun _ => 0)))] H := hP
  have hD : va_D A [(h0, .inr (8, [.null, .null, .ref q1, .null])), (q1, .inl (c1, 1041, .inl (fun _ => 0))), (q2, .inl (c2, 1040, .inl (fun _ => 0)))] := hD
  have hK : va_K (dC, dI) vwCl [(c1, .int), (c2, .int)] s := hK
  refine W.widen (k := 2) (n := 2081) (Nat.le_refl _) (Nat.le_refl _) ?_
  refine va_putF (D := (dC, dI)) (ci := 8) (v := .ref q2) (ty := .array .int) (C := "GuessFences$Rewriter") (T := gf_T8) (N := 4) hx hb hts lays_8 gf_y8 gf_ty8 gf_nm8 hown hK hP hD hS 0 rfl rfl 3 (by decide) (hts (.fieldLink "GuessFences$Rewriter" 15 "GuessFences$Rewriter" "homes" "[I") (gv_i2 50 rfl rfl)) (fun _ h9 => h9) rfl hin rfl (by decide +kernel) rfl rfl (Nat.le_of_ble_eq_true rfl) (by decide +kernel) (fun H locs hP hD hS => ?_)
  have hP : va_P (dC, dI) vwCl [(h0, .inr (8, [.null, .null, .ref q1, .ref q2])), (q1, .inl (c1, 1041, .inl (fun _ => 0))), (q2, .inl (c2, 1040, .inl (fun _ => 0)))] H := hP
  have hD : va_D A [(h0, .inr (8, [.null, .null, .ref q1, .ref q2])), (q1, .inl (c1, 1041, .inl (fun _ => 0))), (q2, .inl (c2, 1040, .inl (fun _ => 0)))] := hD
  refine lv_aload_n hx hb (show decode prog_9_method_1_code 22 = .ok (.aload_n 0, 1) from by decide +kernel) rfl (lv_at hl 0 rfl) ?_
  refine lv_aload_n hx hb (show decode prog_9_method_1_code 23 = .ok (.aload_n 1, 1) from by decide +kernel) rfl (lv_at hl 1 rfl) ?_
  refine va_putF (D := (dC, dI)) (ci := 8) (v := .ref a1) (ty := .object "GuessFences$Listing") (C := "GuessFences$Rewriter") (T := gf_T8) (N := 4) hx hb hts lays_8 gf_y8 gf_ty8 gf_nm8 hown hK hP hD hS 0 rfl rfl 0 (by decide) (hts (.fieldLink "GuessFences$Rewriter" 18 "GuessFences$Rewriter" "listing" "LGuessFences$Listing;") (gv_i2 47 rfl rfl)) (fun _ h9 => h9) rfl hin rfl (by decide +kernel) rfl rfl (Nat.le_of_ble_eq_true rfl) (by decide +kernel) (fun H locs hP hD hS => ?_)
  have hP : va_P (dC, dI) vwCl [(h0, .inr (8, [.ref a1, .null, .ref q1, .ref q2])), (q1, .inl (c1, 1041, .inl (fun _ => 0))), (q2, .inl (c2, 1040, .inl (fun _ => 0)))] H := hP
  have hD : va_D A [(h0, .inr (8, [.ref a1, .null, .ref q1, .ref q2])), (q1, .inl (c1, 1041, .inl (fun _ => 0))), (q2, .inl (c2, 1040, .inl (fun _ => 0)))] := hD
  refine lv_aload_n hx hb (show decode prog_9_method_1_code 27 = .ok (.aload_n 0, 1) from by decide +kernel) rfl (lv_at hl 0 rfl) ?_
  refine lv_aload_n hx hb (show decode prog_9_method_1_code 28 = .ok (.aload_n 2, 1) from by decide +kernel) rfl (lv_at hl 2 rfl) ?_
  refine va_putF (D := (dC, dI)) (ci := 8) (v := .ref a2) (ty := .object "GuessFences$Taint") (C := "GuessFences$Rewriter") (T := gf_T8) (N := 4) hx hb hts lays_8 gf_y8 gf_ty8 gf_nm8 hown hK hP hD hS 0 rfl rfl 1 (by decide) (hts (.fieldLink "GuessFences$Rewriter" 22 "GuessFences$Rewriter" "taint" "LGuessFences$Taint;") (gv_i2 48 rfl rfl)) (fun _ h9 => h9) rfl hin rfl (by decide +kernel) rfl rfl (Nat.le_of_ble_eq_true rfl) (by decide +kernel) (fun H locs hP hD hS => ?_)
  have hP : va_P (dC, dI) vwCl [(h0, .inr (8, [.ref a1, .ref a2, .ref q1, .ref q2])), (q1, .inl (c1, 1041, .inl (fun _ => 0))), (q2, .inl (c2, 1040, .inl (fun _ => 0)))] H := hP
  have hD : va_D A [(h0, .inr (8, [.ref a1, .ref a2, .ref q1, .ref q2])), (q1, .inl (c1, 1041, .inl (fun _ => 0))), (q2, .inl (c2, 1040, .inl (fun _ => 0)))] := hD
  exact W.vret hx hb hr (fun t ht hW => ⟨⟨(), rfl, trivial, q1, q2, c1, c2, by rw [ht]; exact hP, va_K.moved hW.alike hK, hD⟩, hS.F ht⟩) hS.2.2 (by decide +kernel)

set_option maxHeartbeats 4000000 in
set_option maxRecDepth 100000 in
theorem k_G_init (l : Launch) (dC : Nat → ClassId) (dI : Nat → Nat → Nat) (h0 : Nat) (sz : Nat) : Met l ⟨"GuessFences", "<init>", "()V"⟩ [.code ⟨"GuessFences", "<init>", "()V"⟩ prog_1_method_1_code 1 none] (gc_rm 10 40 47659) (va_Pc [.ref h0] (gc_P dC dI sz [(h0, .inr (0, [.null, .null, .null, .null, .null, .null, .null, .int 0, .int 0, .int 0, .int 0, .int 0]))])) (va_Qv (fun _ : Unit => True) (fun _ t => ∃ (q1 q2 q3 q4 q5 q6 q7 q8 q9 q10 q11 q12 q13 q14 q15 q16 q17 q18 q19 q20 q21 q22 q23 q24 q25 q26 q27 q28 q29 q30 q31 q32 q33 q34 q35 q36 q37 q38 q39 q40 : Nat) (c1 c3 c4 c5 c6 c7 c8 c9 c11 c12 c14 c16 c17 c18 c19 c20 c22 c23 c24 c25 c27 c28 c29 c30 c31 c32 c34 c35 c36 c37 c39 c40 : ClassId), va_P (dC, dI) vwCl [(h0, .inr (0, [.ref q1, .ref q2, .ref q10, .ref q21, .ref q26, .ref q33, .ref q38, .int 0, .int (-1), .int 0, .int 0, .int 0])), (q1, .inl (c1, 1040, .inl (fun _ => 0))), (q2, .inr (1, [.ref q3, .ref q4, .ref q5, .ref q6, .ref q7, .ref q8, .ref q9, .int 0])), (q3, .inl (c3, 1040, .inl (fun _ => 0))), (q4, .inl (c4, 1040, .inl (fun _ => 0))), (q5, .inl (c5, 1040, .inl (fun _ => 0))), (q6, .inl (c6, 1040, .inl (fun _ => 0))), (q7, .inl (c7, 1040, .inl (fun _ => 0))), (q8, .inl (c8, 1040, .inl (fun _ => 0))), (q9, .inl (c9, 1040, .inl (fun _ => 0))), (q10, .inr (2, [.ref q2, .ref q11, .ref q12, .ref q13, .ref q15, .int 0, .int 16])), (q11, .inl (c11, 32, .inl (fun _ => 0))), (q12, .inl (c12, 256, .inl (fun _ => 0))), (q13, .inr (3, [.ref q14, .int 0])), (q14, .inl (c14, 2048, .inr (.inl (fun _ => 0)))), (q15, .inr (4, [.ref q16, .ref q17, .ref q18, .ref q19, .ref q20, .int 0, .int 0, .int 0])), (q16, .inl (c16, 512, .inl (fun _ => 0))), (q17, .inl (c17, 4096, .inl (fun _ => 0))), (q18, .inl (c18, 16, .inl (fun _ => 0))), (q19, .inl (c19, 16, .inl (fun _ => 0))), (q20, .inl (c20, 16, .inl (fun _ => 0))), (q21, .inr (5, [.ref q2, .ref q22, .ref q23, .ref q24, .ref q25, .int 0])), (q22, .inl (c22, 17680, .inr (.inl (fun _ => 0)))), (q23, .inl (c23, 1040, .inl (fun _ => 0))), (q24, .inl (c24, 1040, .inl (fun _ => 0))), (q25, .inl (c25, 1040, .inl (fun _ => 0))), (q26, .inr (6, [.ref q2, .ref q21, .ref q27, .ref q28, .ref q29, .ref q30, .ref q31, .ref q32, .int 0, .int 0, .int 0])), (q27, .inl (c27, 1040, .inl (fun _ => 0))), (q28, .inl (c28, 1040, .inl (fun _ => 0))), (q29, .inl (c29, 1040, .inl (fun _ => 0))), (q30, .inl (c30, 1040, .inl (fun _ => 0))), (q31, .inl (c31, 17, .inr (.inl (fun _ => 0)))), (q32, .inl (c32, 17, .inr (.inl (fun _ => 0)))), (q33, .inr (7, [.ref q2, .ref q21, .ref q26, .ref q34, .ref q35, .ref q36, .ref q37, .int 0, .int 0])), (q34, .inl (c34, 1040, .inl (fun _ => 0))), (q35, .inl (c35, 2080, .inl (fun _ => 0))), (q36, .inl (c36, 2080, .inl (fun _ => 0))), (q37, .inl (c37, 17, .inr (.inl (fun _ => 0)))), (q38, .inr (8, [.ref q2, .ref q26, .ref q39, .ref q40])), (q39, .inl (c39, 1041, .inl (fun _ => 0))), (q40, .inl (c40, 1040, .inl (fun _ => 0)))] t.heap ∧ va_K (dC, dI) vwCl [(c1, .int), (c3, .int), (c4, .int), (c5, .int), (c6, .int), (c7, .int), (c8, .int), (c9, .int), (c11, .int), (c12, .byte), (c14, .long), (c16, .int), (c17, .byte), (c18, .int), (c19, .int), (c20, .int), (c22, .long), (c23, .int), (c24, .int), (c25, .int), (c27, .int), (c28, .int), (c29, .int), (c30, .boolean), (c31, .long), (c32, .long), (c34, .int), (c35, .int), (c36, .int), (c37, .long), (c39, .int), (c40, .int)] t ∧ va_D (va_A [(h0, .inr (0, [.null, .null, .null, .null, .null, .null, .null, .int 0, .int 0, .int 0, .int 0, .int 0]))] sz) [(h0, .inr (0, [.ref q1, .ref q2, .ref q10, .ref q21, .ref q26, .ref q33, .ref q38, .int 0, .int (-1), .int 0, .int 0, .int 0])), (q1, .inl (c1, 1040, .inl (fun _ => 0))), (q2, .inr (1, [.ref q3, .ref q4, .ref q5, .ref q6, .ref q7, .ref q8, .ref q9, .int 0])), (q3, .inl (c3, 1040, .inl (fun _ => 0))), (q4, .inl (c4, 1040, .inl (fun _ => 0))), (q5, .inl (c5, 1040, .inl (fun _ => 0))), (q6, .inl (c6, 1040, .inl (fun _ => 0))), (q7, .inl (c7, 1040, .inl (fun _ => 0))), (q8, .inl (c8, 1040, .inl (fun _ => 0))), (q9, .inl (c9, 1040, .inl (fun _ => 0))), (q10, .inr (2, [.ref q2, .ref q11, .ref q12, .ref q13, .ref q15, .int 0, .int 16])), (q11, .inl (c11, 32, .inl (fun _ => 0))), (q12, .inl (c12, 256, .inl (fun _ => 0))), (q13, .inr (3, [.ref q14, .int 0])), (q14, .inl (c14, 2048, .inr (.inl (fun _ => 0)))), (q15, .inr (4, [.ref q16, .ref q17, .ref q18, .ref q19, .ref q20, .int 0, .int 0, .int 0])), (q16, .inl (c16, 512, .inl (fun _ => 0))), (q17, .inl (c17, 4096, .inl (fun _ => 0))), (q18, .inl (c18, 16, .inl (fun _ => 0))), (q19, .inl (c19, 16, .inl (fun _ => 0))), (q20, .inl (c20, 16, .inl (fun _ => 0))), (q21, .inr (5, [.ref q2, .ref q22, .ref q23, .ref q24, .ref q25, .int 0])), (q22, .inl (c22, 17680, .inr (.inl (fun _ => 0)))), (q23, .inl (c23, 1040, .inl (fun _ => 0))), (q24, .inl (c24, 1040, .inl (fun _ => 0))), (q25, .inl (c25, 1040, .inl (fun _ => 0))), (q26, .inr (6, [.ref q2, .ref q21, .ref q27, .ref q28, .ref q29, .ref q30, .ref q31, .ref q32, .int 0, .int 0, .int 0])), (q27, .inl (c27, 1040, .inl (fun _ => 0))), (q28, .inl (c28, 1040, .inl (fun _ => 0))), (q29, .inl (c29, 1040, .inl (fun _ => 0))), (q30, .inl (c30, 1040, .inl (fun _ => 0))), (q31, .inl (c31, 17, .inr (.inl (fun _ => 0)))), (q32, .inl (c32, 17, .inr (.inl (fun _ => 0)))), (q33, .inr (7, [.ref q2, .ref q21, .ref q26, .ref q34, .ref q35, .ref q36, .ref q37, .int 0, .int 0])), (q34, .inl (c34, 1040, .inl (fun _ => 0))), (q35, .inl (c35, 2080, .inl (fun _ => 0))), (q36, .inl (c36, 2080, .inl (fun _ => 0))), (q37, .inl (c37, 17, .inr (.inl (fun _ => 0)))), (q38, .inr (8, [.ref q2, .ref q26, .ref q39, .ref q40])), (q39, .inl (c39, 1041, .inl (fun _ => 0))), (q40, .inl (c40, 1040, .inl (fun _ => 0)))]) (va_A [(h0, .inr (0, [.null, .null, .null, .null, .null, .null, .null, .int 0, .int 0, .int 0, .int 0, .int 0]))] sz)) 40 47659 (va_A [(h0, .inr (0, [.null, .null, .null, .null, .null, .null, .null, .int 0, .int 0, .int 0, .int 0, .int 0]))] sz) := by
  refine Met.ofW (cc := prog_1_method_1_code) (maxL := 1) (ret := none) (by decide) rfl ?_
  intro p e s m args below meth c s₁ B hml hv
  obtain ⟨rfl, hsz, hT, hP, hK, hD0⟩ := hv
  have hx := B.exec
  have hb := B.bytes
  have hr := B.returns
  have hown : s.vm.findClass "GuessFences" = some m.cls := findClass_of_methodNamed B.named
  have hlocks := B.notSynchronized
  have hin : meth.name = "<init>" := (name_of_methodNamed B.named B.method).1
  subst hsz
  generalize hargs : ([.ref h0] : List Value).toArray = args
  have hD := hD0.self (sz := s.heap.size)
  generalize hAe : va_A [(h0, .inr (0, [.null, .null, .null, .null, .null, .null, .null, .int 0, .int 0, .int 0, .int 0, .int 0]))] s.heap.size = A at hD ⊢
  have hA : ∀ q : Nat, s.heap.size ≤ q → A q := fun q h => by rw [← hAe]; exact Or.inr h
  have hS : va_S A s.heap s.heap [] := va_S.rf
  have hts := gc_hts hT args
  rw [← hargs]
  have hl := lv_entry ([.ref h0]) (n := 1) (Nat.le_of_ble_eq_true rfl)
  rw [lg_entry_eq]
  generalize (lg_sl ([.ref h0]) ++ List.replicate (1 - (lg_sl ([.ref h0])).length) Slot.unset).toArray = ls at hl ⊢
  rw [hargs]
  have hl : lv_has ls 1 [(0, .ref h0)] := hl
  refine lv_aload_n hx hb (show decode prog_1_method_1_code 0 = .ok (.aload_n 0, 1) from by decide +kernel) rfl (lv_at hl 0 rfl) ?_
  refine W.objInit hx hb hown (hts (.methodLink "GuessFences" 3 objectInit) (gv_i1 37 rfl rfl)) (hts (.instanceMethod objectInit) (gv_i1 38 rfl rfl)) (hts (.code objectInit ⟨#[0xb1]⟩ 1 none) (gv_i1 39 rfl rfl)) rfl (by rw [hml]; exact hl.1) rfl (show decode prog_1_method_1_code 1 = .ok (.invokespecial 3, 3) from by decide +kernel) (Nat.le_of_ble_eq_true rfl) (Nat.le_of_ble_eq_true rfl) ?_
  refine W.eq (g2 := F0 m 4 ls []) rfl ?_
  refine lv_aload_n hx hb (show decode prog_1_method_1_code 4 = .ok (.aload_n 0, 1) from by decide +kernel) rfl (lv_at hl 0 rfl) ?_
  refine lv_sipush (n := 1040) (v := 1040) hx hb (by decide +kernel) (by decide) ?_
  refine va_newa (atype := .int) (ty := .int) (a0 := (1040, .inl (fun _ => 0))) hx hb (gc_arr hT args (ty := .int) (by simp)) rfl hK hP hD hS hA (fun _ => rfl) (by decide) (N' := 1040) (by decide) (by decide) (Nat.le_of_ble_eq_true rfl) (Nat.le_of_ble_eq_true rfl) (show decode prog_1_method_1_code 8 = .ok (.newarray .int, 2) from by decide +kernel) (fun q1 c1 H hK hP hD hS => ?_)
  have hP : va_P (dC, dI) vwCl [(h0, .inr (0, [.null, .null, .null, .null, .null, .null, .null, .int 0, .int 0, .int 0, .int 0, .int 0])), (q1, .inl (c1, 1040, .inl (fun _ => 0)))] H := hP
  have hD : va_D A [(h0, .inr (0, [.null, .null, .null, .null, .null, .null, .null, .int 0, .int 0, .int 0, .int 0, .int 0])), (q1, .inl (c1, 1040, .inl (fun _ => 0)))] := hD
  have hK : va_K (dC, dI) vwCl [(c1, .int)] s := hK
  refine W.widen (k := 1) (n := 1040) (Nat.le_refl _) (Nat.le_refl _) ?_
  refine va_putF (D := (dC, dI)) (ci := 0) (v := .ref q1) (ty := .array .int) (C := "GuessFences") (T := gf_T0) (N := 12) hx hb hts lays_0 gf_y0 gf_ty0 gf_nm0 hown hK hP hD hS 0 rfl rfl 0 (by decide) (hts (.fieldLink "GuessFences" 9 "GuessFences" "words" "[I") (gv_i2 61 rfl rfl)) (fun _ h9 => h9) rfl hin rfl (by decide +kernel) rfl rfl (Nat.le_of_ble_eq_true rfl) (by decide +kernel) (fun H locs hP hD hS => ?_)
  have hP : va_P (dC, dI) vwCl [(h0, .inr (0, [.ref q1, .null, .null, .null, .null, .null, .null, .int 0, .int 0, .int 0, .int 0, .int 0])), (q1, .inl (c1, 1040, .inl (fun _ => 0)))] H := hP
  have hD : va_D A [(h0, .inr (0, [.ref q1, .null, .null, .null, .null, .null, .null, .int 0, .int 0, .int 0, .int 0, .int 0])), (q1, .inl (c1, 1040, .inl (fun _ => 0)))] := hD
  refine lv_aload_n hx hb (show decode prog_1_method_1_code 13 = .ok (.aload_n 0, 1) from by decide +kernel) rfl (lv_at hl 0 rfl) ?_
  refine va_new (ci := 1) (fs := [.null, .null, .null, .null, .null, .null, .null, .int 0]) (C := "GuessFences$Listing") (T := gf_T1) (N := 8) hx hb hts lays_1 gf_y1 gf_ty1 hown (hts (.classLink "GuessFences" 13 "GuessFences$Listing") (gv_i1 40 rfl rfl)) (hts (.instantiable "GuessFences$Listing" 8) (gv_i1 41 rfl rfl)) (hts (.initialized "GuessFences$Listing") (gv_i1 2 rfl rfl)) hK hP hD hS hA rfl (by decide +kernel) (Nat.le_of_ble_eq_true rfl) (Nat.le_of_ble_eq_true rfl) (by decide +kernel) (fun q2 H hP hD hS => ?_)
  have hP : va_P (dC, dI) vwCl [(h0, .inr (0, [.ref q1, .null, .null, .null, .null, .null, .null, .int 0, .int 0, .int 0, .int 0, .int 0])), (q1, .inl (c1, 1040, .inl (fun _ => 0))), (q2, .inr (1, [.null, .null, .null, .null, .null, .null, .null, .int 0]))] H := hP
  have hD : va_D A [(h0, .inr (0, [.ref q1, .null, .null, .null, .null, .null, .null, .int 0, .int 0, .int 0, .int 0, .int 0])), (q1, .inl (c1, 1040, .inl (fun _ => 0))), (q2, .inr (1, [.null, .null, .null, .null, .null, .null, .null, .int 0]))] := hD
  refine W.widen (k := 2) (n := 1048) (Nat.le_refl _) (Nat.le_refl _) ?_
  refine lv_dup hx hb (by decide +kernel) rfl ?_
  have hPc := hP.sub (ws' := [(q2, .inr (1, [.null, .null, .null, .null, .null, .null, .null, .int 0]))]) [2] rfl
  have hDc := hD.sub (ws' := [(q2, .inr (1, [.null, .null, .null, .null, .null, .null, .null, .int 0]))]) [2] (by decide) rfl
  have hKc := hK.sub (tys' := []) [] rfl
  have hFc := va_free (wc := [(q2, .inr (1, [.null, .null, .null, .null, .null, .null, .null, .int 0]))]) hD hS hA [2] rfl
  refine va_callv (gc_run (As := []) (rest := [.ref q2, .ref h0]) ⟨hx, hb, hml, hown, fun _ h => by cases h⟩ (k_Listing_init l dC dI q2 H.size) hT (gv_i1 44 rfl rfl) (gv_i1 2 rfl rfl) (gv_i1 43 rfl rfl) (Or.inr ⟨_, gv_i1 42 rfl rfl⟩) (by decide) (show (parseMethodDescriptor "()V").map (fun d => d.parameters.length) = some 0 from by decide +kernel) hPc hKc hDc rfl hl.1 rfl (Nat.le_of_ble_eq_true rfl) (by decide +kernel) ⟨(Nat.le_of_ble_eq_true rfl), (Nat.le_of_ble_eq_true rfl)⟩ ⟨(Nat.le_of_ble_eq_true rfl), (Nat.le_of_ble_eq_true rfl)⟩) hS (fun q _ h => hFc q h) hFc (fun u t H1 locs ht hvm _ hB hz1 hk1 hS => ?_)
  obtain ⟨q3, q4, q5, q6, q7, q8, q9, c3, c4, c5, c6, c7, c8, c9, hP1, hK1, hD1⟩ := hB
  rw [ht] at hP1
  have hK1 := va_K.moved hvm.symm hK1
  obtain ⟨hP, hD⟩ := va_join (wr := [(h0, .inr (0, [.ref q1, .null, .null, .null, .null, .null, .null, .int 0, .int 0, .int 0, .int 0, .int 0])), (q1, .inl (c1, 1040, .inl (fun _ => 0)))]) (w1 := [(q2, .inr (1, [.ref q3, .ref q4, .ref q5, .ref q6, .ref q7, .ref q8, .ref q9, .int 0])), (q3, .inl (c3, 1040, .inl (fun _ => 0))), (q4, .inl (c4, 1040, .inl (fun _ => 0))), (q5, .inl (c5, 1040, .inl (fun _ => 0))), (q6, .inl (c6, 1040, .inl (fun _ => 0))), (q7, .inl (c7, 1040, .inl (fun _ => 0))), (q8, .inl (c8, 1040, .inl (fun _ => 0))), (q9, .inl (c9, 1040, .inl (fun _ => 0)))]) hP hD [2] [0, 1] rfl rfl (by decide) (by decide) hk1 hFc hP1 hD1
  have hK := hK.app hK1
  generalize H1 = H at hP hS ⊢
  have hP : va_P (dC, dI) vwCl [(h0, .inr (0, [.ref q1, .null, .null, .null, .null, .null, .null, .int 0, .int 0, .int 0, .int 0, .int 0])), (q1, .inl (c1, 1040, .inl (fun _ => 0))), (q2, .inr (1, [.ref q3, .ref q4, .ref q5, .ref q6, .ref q7, .ref q8, .ref q9, .int 0])), (q3, .inl (c3, 1040, .inl (fun _ => 0))), (q4, .inl (c4, 1040, .inl (fun _ => 0))), (q5, .inl (c5, 1040, .inl (fun _ => 0))), (q6, .inl (c6, 1040, .inl (fun _ => 0))), (q7, .inl (c7, 1040, .inl (fun _ => 0))), (q8, .inl (c8, 1040, .inl (fun _ => 0))), (q9, .inl (c9, 1040, .inl (fun _ => 0)))] H := hP
  have hD : va_D A [(h0, .inr (0, [.ref q1, .null, .null, .null, .null, .null, .null, .int 0, .int 0, .int 0, .int 0, .int 0])), (q1, .inl (c1, 1040, .inl (fun _ => 0))), (q2, .inr (1, [.ref q3, .ref q4, .ref q5, .ref q6, .ref q7, .ref q8, .ref q9, .int 0])), (q3, .inl (c3, 1040, .inl (fun _ => 0))), (q4, .inl (c4, 1040, .inl (fun _ => 0))), (q5, .inl (c5, 1040, .inl (fun _ => 0))), (q6, .inl (c6, 1040, .inl (fun _ => 0))), (q7, .inl (c7, 1040, .inl (fun _ => 0))), (q8, .inl (c8, 1040, .inl (fun _ => 0))), (q9, .inl (c9, 1040, .inl (fun _ => 0)))] := hD
  have hK : va_K (dC, dI) vwCl [(c1, .int), (c3, .int), (c4, .int), (c5, .int), (c6, .int), (c7, .int), (c8, .int), (c9, .int)] s := hK
  refine W.widen (k := 9) (n := 8328) (Nat.le_refl _) (Nat.le_refl _) ?_
  refine va_putF (D := (dC, dI)) (ci := 0) (v := .ref q2) (ty := .object "GuessFences$Listing") (C := "GuessFences") (T := gf_T0) (N := 12) hx hb hts lays_0 gf_y0 gf_ty0 gf_nm0 hown hK hP hD hS 0 rfl rfl 1 (by decide) (hts (.fieldLink "GuessFences" 16 "GuessFences" "listing" "LGuessFences$Listing;") (gv_i2 62 rfl rfl)) (fun _ h9 => h9) rfl hin rfl (by decide +kernel) rfl rfl (Nat.le_of_ble_eq_true rfl) (by decide +kernel) (fun H locs hP hD hS => ?_)
  have hP : va_P (dC, dI) vwCl [(h0, .inr (0, [.ref q1, .ref q2, .null, .null, .null, .null, .null, .int 0, .int 0, .int 0, .int 0, .int 0])), (q1, .inl (c1, 1040, .inl (fun _ => 0))), (q2, .inr (1, [.ref q3, .ref q4, .ref q5, .ref q6, .ref q7, .ref q8, .ref q9, .int 0])), (q3, .inl (c3, 1040, .inl (fun _ => 0))), (q4, .inl (c4, 1040, .inl (fun _ => 0))), (q5, .inl (c5, 1040, .inl (fun _ => 0))), (q6, .inl (c6, 1040, .inl (fun _ => 0))), (q7, .inl (c7, 1040, .inl (fun _ => 0))), (q8, .inl (c8, 1040, .inl (fun _ => 0))), (q9, .inl (c9, 1040, .inl (fun _ => 0)))] H := hP
  have hD : va_D A [(h0, .inr (0, [.ref q1, .ref q2, .null, .null, .null, .null, .null, .int 0, .int 0, .int 0, .int 0, .int 0])), (q1, .inl (c1, 1040, .inl (fun _ => 0))), (q2, .inr (1, [.ref q3, .ref q4, .ref q5, .ref q6, .ref q7, .ref q8, .ref q9, .int 0])), (q3, .inl (c3, 1040, .inl (fun _ => 0))), (q4, .inl (c4, 1040, .inl (fun _ => 0))), (q5, .inl (c5, 1040, .inl (fun _ => 0))), (q6, .inl (c6, 1040, .inl (fun _ => 0))), (q7, .inl (c7, 1040, .inl (fun _ => 0))), (q8, .inl (c8, 1040, .inl (fun _ => 0))), (q9, .inl (c9, 1040, .inl (fun _ => 0)))] := hD
  refine lv_aload_n hx hb (show decode prog_1_method_1_code 24 = .ok (.aload_n 0, 1) from by decide +kernel) rfl (lv_at hl 0 rfl) ?_
  refine va_new (ci := 2) (fs := [.null, .null, .null, .null, .null, .int 0, .int 0]) (C := "GuessFences$Machine") (T := gf_T2) (N := 7) hx hb hts lays_2 gf_y2 gf_ty2 hown (hts (.classLink "GuessFences" 20 "GuessFences$Machine") (gv_i1 92 rfl rfl)) (hts (.instantiable "GuessFences$Machine" 7) (gv_i1 93 rfl rfl)) (hts (.initialized "GuessFences$Machine") (gv_i1 3 rfl rfl)) hK hP hD hS hA rfl (by decide +kernel) (Nat.le_of_ble_eq_true rfl) (Nat.le_of_ble_eq_true rfl) (by decide +kernel) (fun q10 H hP hD hS => ?_)
  have hP : va_P (dC, dI) vwCl [(h0, .inr (0, [.ref q1, .ref q2, .null, .null, .null, .null, .null, .int 0, .int 0, .int 0, .int 0, .int 0])), (q1, .inl (c1, 1040, .inl (fun _ => 0))), (q2, .inr (1, [.ref q3, .ref q4, .ref q5, .ref q6, .ref q7, .ref q8, .ref q9, .int 0])), (q3, .inl (c3, 1040, .inl (fun _ => 0))), (q4, .inl (c4, 1040, .inl (fun _ => 0))), (q5, .inl (c5, 1040, .inl (fun _ => 0))), (q6, .inl (c6, 1040, .inl (fun _ => 0))), (q7, .inl (c7, 1040, .inl (fun _ => 0))), (q8, .inl (c8, 1040, .inl (fun _ => 0))), (q9, .inl (c9, 1040, .inl (fun _ => 0))), (q10, .inr (2, [.null, .null, .null, .null, .null, .int 0, .int 0]))] H := hP
  have hD : va_D A [(h0, .inr (0, [.ref q1, .ref q2, .null, .null, .null, .null, .null, .int 0, .int 0, .int 0, .int 0, .int 0])), (q1, .inl (c1, 1040, .inl (fun _ => 0))), (q2, .inr (1, [.ref q3, .ref q4, .ref q5, .ref q6, .ref q7, .ref q8, .ref q9, .int 0])), (q3, .inl (c3, 1040, .inl (fun _ => 0))), (q4, .inl (c4, 1040, .inl (fun _ => 0))), (q5, .inl (c5, 1040, .inl (fun _ => 0))), (q6, .inl (c6, 1040, .inl (fun _ => 0))), (q7, .inl (c7, 1040, .inl (fun _ => 0))), (q8, .inl (c8, 1040, .inl (fun _ => 0))), (q9, .inl (c9, 1040, .inl (fun _ => 0))), (q10, .inr (2, [.null, .null, .null, .null, .null, .int 0, .int 0]))] := hD
  refine W.widen (k := 10) (n := 8335) (Nat.le_refl _) (Nat.le_refl _) ?_
  refine lv_dup hx hb (by decide +kernel) rfl ?_
  refine lv_aload_n hx hb (show decode prog_1_method_1_code 29 = .ok (.aload_n 0, 1) from by decide +kernel) rfl (lv_at hl 0 rfl) ?_
  refine va_get (D := (dC, dI)) (ci := 0) (v := .ref q2) (C := "GuessFences") (T := gf_T0) (N := 12) hx hb hts lays_0 hown hK hP 0 rfl rfl 1 (by decide) (hts (.fieldLink "GuessFences" 16 "GuessFences" "listing" "LGuessFences$Listing;") (gv_i2 62 rfl rfl)) (fun _ h9 => h9) rfl (by decide +kernel) ?_
  have hPc := hP.sub (ws' := [(q10, .inr (2, [.null, .null, .null, .null, .null, .int 0, .int 0]))]) [10] rfl
  have hDc := hD.sub (ws' := [(q10, .inr (2, [.null, .null, .null, .null, .null, .int 0, .int 0]))]) [10] (by decide) rfl
  have hKc := hK.sub (tys' := []) [] rfl
  have hFc := va_free (wc := [(q10, .inr (2, [.null, .null, .null, .null, .null, .int 0, .int 0]))]) hD hS hA [10] rfl
  refine va_callv (gc_run (As := [.ref q2]) (rest := [.ref q10, .ref h0]) ⟨hx, hb, hml, hown, fun _ h => by cases h⟩ (k_Machine_init l dC dI q10 q2 H.size) hT (gv_i1 96 rfl rfl) (gv_i1 3 rfl rfl) (gv_i1 95 rfl rfl) (Or.inl (gv_i1 94 rfl rfl)) (by decide) (show (parseMethodDescriptor "(LGuessFences$Listing;)V").map (fun d => d.parameters.length) = some 1 from by decide +kernel) hPc hKc hDc rfl hl.1 rfl (Nat.le_of_ble_eq_true rfl) (by decide +kernel) ⟨(Nat.le_of_ble_eq_true rfl), (Nat.le_of_ble_eq_true rfl)⟩ ⟨(Nat.le_of_ble_eq_true rfl), (Nat.le_of_ble_eq_true rfl)⟩) hS (fun q _ h => hFc q h) hFc (fun u t H1 locs ht hvm _ hB hz1 hk1 hS => ?_)
  obtain ⟨q11, q12, q13, q14, q15, q16, q17, q18, q19, q20, c11, c12, c14, c16, c17, c18, c19, c20, hP1, hK1, hD1⟩ := hB
  rw [ht] at hP1
  have hK1 := va_K.moved hvm.symm hK1
  obtain ⟨hP, hD⟩ := va_join (wr := [(h0, .inr (0, [.ref q1, .ref q2, .null, .null, .null, .null, .null, .int 0, .int 0, .int 0, .int 0, .int 0])), (q1, .inl (c1, 1040, .inl (fun _ => 0))), (q2, .inr (1, [.ref q3, .ref q4, .ref q5, .ref q6, .ref q7, .ref q8, .ref q9, .int 0])), (q3, .inl (c3, 1040, .inl (fun _ => 0))), (q4, .inl (c4, 1040, .inl (fun _ => 0))), (q5, .inl (c5, 1040, .inl (fun _ => 0))), (q6, .inl (c6, 1040, .inl (fun _ => 0))), (q7, .inl (c7, 1040, .inl (fun _ => 0))), (q8, .inl (c8, 1040, .inl (fun _ => 0))), (q9, .inl (c9, 1040, .inl (fun _ => 0)))]) (w1 := [(q10, .inr (2, [.ref q2, .ref q11, .ref q12, .ref q13, .ref q15, .int 0, .int 16])), (q11, .inl (c11, 32, .inl (fun _ => 0))), (q12, .inl (c12, 256, .inl (fun _ => 0))), (q13, .inr (3, [.ref q14, .int 0])), (q14, .inl (c14, 2048, .inr (.inl (fun _ => 0)))), (q15, .inr (4, [.ref q16, .ref q17, .ref q18, .ref q19, .ref q20, .int 0, .int 0, .int 0])), (q16, .inl (c16, 512, .inl (fun _ => 0))), (q17, .inl (c17, 4096, .inl (fun _ => 0))), (q18, .inl (c18, 16, .inl (fun _ => 0))), (q19, .inl (c19, 16, .inl (fun _ => 0))), (q20, .inl (c20, 16, .inl (fun _ => 0)))]) hP hD [10] [0, 1, 2, 3, 4, 5, 6, 7, 8, 9] rfl rfl (by decide) (by decide) hk1 hFc hP1 hD1
  have hK := hK.app hK1
  generalize H1 = H at hP hS ⊢
  have hP : va_P (dC, dI) vwCl [(h0, .inr (0, [.ref q1, .ref q2, .null, .null, .null, .null, .null, .int 0, .int 0, .int 0, .int 0, .int 0])), (q1, .inl (c1, 1040, .inl (fun _ => 0))), (q2, .inr (1, [.ref q3, .ref q4, .ref q5, .ref q6, .ref q7, .ref q8, .ref q9, .int 0])), (q3, .inl (c3, 1040, .inl (fun _ => 0))), (q4, .inl (c4, 1040, .inl (fun _ => 0))), (q5, .inl (c5, 1040, .inl (fun _ => 0))), (q6, .inl (c6, 1040, .inl (fun _ => 0))), (q7, .inl (c7, 1040, .inl (fun _ => 0))), (q8, .inl (c8, 1040, .inl (fun _ => 0))), (q9, .inl (c9, 1040, .inl (fun _ => 0))), (q10, .inr (2, [.ref q2, .ref q11, .ref q12, .ref q13, .ref q15, .int 0, .int 16])), (q11, .inl (c11, 32, .inl (fun _ => 0))), (q12, .inl (c12, 256, .inl (fun _ => 0))), (q13, .inr (3, [.ref q14, .int 0])), (q14, .inl (c14, 2048, .inr (.inl (fun _ => 0)))), (q15, .inr (4, [.ref q16, .ref q17, .ref q18, .ref q19, .ref q20, .int 0, .int 0, .int 0])), (q16, .inl (c16, 512, .inl (fun _ => 0))), (q17, .inl (c17, 4096, .inl (fun _ => 0))), (q18, .inl (c18, 16, .inl (fun _ => 0))), (q19, .inl (c19, 16, .inl (fun _ => 0))), (q20, .inl (c20, 16, .inl (fun _ => 0)))] H := hP
  have hD : va_D A [(h0, .inr (0, [.ref q1, .ref q2, .null, .null, .null, .null, .null, .int 0, .int 0, .int 0, .int 0, .int 0])), (q1, .inl (c1, 1040, .inl (fun _ => 0))), (q2, .inr (1, [.ref q3, .ref q4, .ref q5, .ref q6, .ref q7, .ref q8, .ref q9, .int 0])), (q3, .inl (c3, 1040, .inl (fun _ => 0))), (q4, .inl (c4, 1040, .inl (fun _ => 0))), (q5, .inl (c5, 1040, .inl (fun _ => 0))), (q6, .inl (c6, 1040, .inl (fun _ => 0))), (q7, .inl (c7, 1040, .inl (fun _ => 0))), (q8, .inl (c8, 1040, .inl (fun _ => 0))), (q9, .inl (c9, 1040, .inl (fun _ => 0))), (q10, .inr (2, [.ref q2, .ref q11, .ref q12, .ref q13, .ref q15, .int 0, .int 16])), (q11, .inl (c11, 32, .inl (fun _ => 0))), (q12, .inl (c12, 256, .inl (fun _ => 0))), (q13, .inr (3, [.ref q14, .int 0])), (q14, .inl (c14, 2048, .inr (.inl (fun _ => 0)))), (q15, .inr (4, [.ref q16, .ref q17, .ref q18, .ref q19, .ref q20, .int 0, .int 0, .int 0])), (q16, .inl (c16, 512, .inl (fun _ => 0))), (q17, .inl (c17, 4096, .inl (fun _ => 0))), (q18, .inl (c18, 16, .inl (fun _ => 0))), (q19, .inl (c19, 16, .inl (fun _ => 0))), (q20, .inl (c20, 16, .inl (fun _ => 0)))] := hD
  have hK : va_K (dC, dI) vwCl [(c1, .int), (c3, .int), (c4, .int), (c5, .int), (c6, .int), (c7, .int), (c8, .int), (c9, .int), (c11, .int), (c12, .byte), (c14, .long), (c16, .int), (c17, .byte), (c18, .int), (c19, .int), (c20, .int)] s := hK
  refine W.widen (k := 20) (n := 15337) (Nat.le_refl _) (Nat.le_refl _) ?_
  refine va_putF (D := (dC, dI)) (ci := 0) (v := .ref q10) (ty := .object "GuessFences$Machine") (C := "GuessFences") (T := gf_T0) (N := 12) hx hb hts lays_0 gf_y0 gf_ty0 gf_nm0 hown hK hP hD hS 0 rfl rfl 2 (by decide) (hts (.fieldLink "GuessFences" 25 "GuessFences" "machine" "LGuessFences$Machine;") (gv_i2 63 rfl rfl)) (fun _ h9 => h9) rfl hin rfl (by decide +kernel) rfl rfl (Nat.le_of_ble_eq_true rfl) (by decide +kernel) (fun H locs hP hD hS => ?_)
  have hP : va_P (dC, dI) vwCl [(h0, .inr (0, [.ref q1, .ref q2, .ref q10, .null, .null, .null, .null, .int 0, .int 0, .int 0, .int 0, .int 0])), (q1, .inl (c1, 1040, .inl (fun _ => 0))), (q2, .inr (1, [.ref q3, .ref q4, .ref q5, .ref q6, .ref q7, .ref q8, .ref q9, .int 0])), (q3, .inl (c3, 1040, .inl (fun _ => 0))), (q4, .inl (c4, 1040, .inl (fun _ => 0))), (q5, .inl (c5, 1040, .inl (fun _ => 0))), (q6, .inl (c6, 1040, .inl (fun _ => 0))), (q7, .inl (c7, 1040, .inl (fun _ => 0))), (q8, .inl (c8, 1040, .inl (fun _ => 0))), (q9, .inl (c9, 1040, .inl (fun _ => 0))), (q10, .inr (2, [.ref q2, .ref q11, .ref q12, .ref q13, .ref q15, .int 0, .int 16])), (q11, .inl (c11, 32, .inl (fun _ => 0))), (q12, .inl (c12, 256, .inl (fun _ => 0))), (q13, .inr (3, [.ref q14, .int 0])), (q14, .inl (c14, 2048, .inr (.inl (fun _ => 0)))), (q15, .inr (4, [.ref q16, .ref q17, .ref q18, .ref q19, .ref q20, .int 0, .int 0, .int 0])), (q16, .inl (c16, 512, .inl (fun _ => 0))), (q17, .inl (c17, 4096, .inl (fun _ => 0))), (q18, .inl (c18, 16, .inl (fun _ => 0))), (q19, .inl (c19, 16, .inl (fun _ => 0))), (q20, .inl (c20, 16, .inl (fun _ => 0)))] H := hP
  have hD : va_D A [(h0, .inr (0, [.ref q1, .ref q2, .ref q10, .null, .null, .null, .null, .int 0, .int 0, .int 0, .int 0, .int 0])), (q1, .inl (c1, 1040, .inl (fun _ => 0))), (q2, .inr (1, [.ref q3, .ref q4, .ref q5, .ref q6, .ref q7, .ref q8, .ref q9, .int 0])), (q3, .inl (c3, 1040, .inl (fun _ => 0))), (q4, .inl (c4, 1040, .inl (fun _ => 0))), (q5, .inl (c5, 1040, .inl (fun _ => 0))), (q6, .inl (c6, 1040, .inl (fun _ => 0))), (q7, .inl (c7, 1040, .inl (fun _ => 0))), (q8, .inl (c8, 1040, .inl (fun _ => 0))), (q9, .inl (c9, 1040, .inl (fun _ => 0))), (q10, .inr (2, [.ref q2, .ref q11, .ref q12, .ref q13, .ref q15, .int 0, .int 16])), (q11, .inl (c11, 32, .inl (fun _ => 0))), (q12, .inl (c12, 256, .inl (fun _ => 0))), (q13, .inr (3, [.ref q14, .int 0])), (q14, .inl (c14, 2048, .inr (.inl (fun _ => 0)))), (q15, .inr (4, [.ref q16, .ref q17, .ref q18, .ref q19, .ref q20, .int 0, .int 0, .int 0])), (q16, .inl (c16, 512, .inl (fun _ => 0))), (q17, .inl (c17, 4096, .inl (fun _ => 0))), (q18, .inl (c18, 16, .inl (fun _ => 0))), (q19, .inl (c19, 16, .inl (fun _ => 0))), (q20, .inl (c20, 16, .inl (fun _ => 0)))] := hD
  refine lv_aload_n hx hb (show decode prog_1_method_1_code 39 = .ok (.aload_n 0, 1) from by decide +kernel) rfl (lv_at hl 0 rfl) ?_
  refine va_new (ci := 5) (fs := [.null, .null, .null, .null, .null, .int 0]) (C := "GuessFences$Reach") (T := gf_T5) (N := 6) hx hb hts lays_5 gf_y5 gf_ty5 hown (hts (.classLink "GuessFences" 29 "GuessFences$Reach") (gv_i1 172 rfl rfl)) (hts (.instantiable "GuessFences$Reach" 6) (gv_i1 173 rfl rfl)) (hts (.initialized "GuessFences$Reach") (gv_i1 6 rfl rfl)) hK hP hD hS hA rfl (by decide +kernel) (Nat.le_of_ble_eq_true rfl) (Nat.le_of_ble_eq_true rfl) (by decide +kernel) (fun q21 H hP hD hS => ?_)
  have hP : va_P (dC, dI) vwCl [(h0, .inr (0, [.ref q1, .ref q2, .ref q10, .null, .null, .null, .null, .int 0, .int 0, .int 0, .int 0, .int 0])), (q1, .inl (c1, 1040, .inl (fun _ => 0))), (q2, .inr (1, [.ref q3, .ref q4, .ref q5, .ref q6, .ref q7, .ref q8, .ref q9, .int 0])), (q3, .inl (c3, 1040, .inl (fun _ => 0))), (q4, .inl (c4, 1040, .inl (fun _ => 0))), (q5, .inl (c5, 1040, .inl (fun _ => 0))), (q6, .inl (c6, 1040, .inl (fun _ => 0))), (q7, .inl (c7, 1040, .inl (fun _ => 0))), (q8, .inl (c8, 1040, .inl (fun _ => 0))), (q9, .inl (c9, 1040, .inl (fun _ => 0))), (q10, .inr (2, [.ref q2, .ref q11, .ref q12, .ref q13, .ref q15, .int 0, .int 16])), (q11, .inl (c11, 32, .inl (fun _ => 0))), (q12, .inl (c12, 256, .inl (fun _ => 0))), (q13, .inr (3, [.ref q14, .int 0])), (q14, .inl (c14, 2048, .inr (.inl (fun _ => 0)))), (q15, .inr (4, [.ref q16, .ref q17, .ref q18, .ref q19, .ref q20, .int 0, .int 0, .int 0])), (q16, .inl (c16, 512, .inl (fun _ => 0))), (q17, .inl (c17, 4096, .inl (fun _ => 0))), (q18, .inl (c18, 16, .inl (fun _ => 0))), (q19, .inl (c19, 16, .inl (fun _ => 0))), (q20, .inl (c20, 16, .inl (fun _ => 0))), (q21, .inr (5, [.null, .null, .null, .null, .null, .int 0]))] H := hP
  have hD : va_D A [(h0, .inr (0, [.ref q1, .ref q2, .ref q10, .null, .null, .null, .null, .int 0, .int 0, .int 0, .int 0, .int 0])), (q1, .inl (c1, 1040, .inl (fun _ => 0))), (q2, .inr (1, [.ref q3, .ref q4, .ref q5, .ref q6, .ref q7, .ref q8, .ref q9, .int 0])), (q3, .inl (c3, 1040, .inl (fun _ => 0))), (q4, .inl (c4, 1040, .inl (fun _ => 0))), (q5, .inl (c5, 1040, .inl (fun _ => 0))), (q6, .inl (c6, 1040, .inl (fun _ => 0))), (q7, .inl (c7, 1040, .inl (fun _ => 0))), (q8, .inl (c8, 1040, .inl (fun _ => 0))), (q9, .inl (c9, 1040, .inl (fun _ => 0))), (q10, .inr (2, [.ref q2, .ref q11, .ref q12, .ref q13, .ref q15, .int 0, .int 16])), (q11, .inl (c11, 32, .inl (fun _ => 0))), (q12, .inl (c12, 256, .inl (fun _ => 0))), (q13, .inr (3, [.ref q14, .int 0])), (q14, .inl (c14, 2048, .inr (.inl (fun _ => 0)))), (q15, .inr (4, [.ref q16, .ref q17, .ref q18, .ref q19, .ref q20, .int 0, .int 0, .int 0])), (q16, .inl (c16, 512, .inl (fun _ => 0))), (q17, .inl (c17, 4096, .inl (fun _ => 0))), (q18, .inl (c18, 16, .inl (fun _ => 0))), (q19, .inl (c19, 16, .inl (fun _ => 0))), (q20, .inl (c20, 16, .inl (fun _ => 0))), (q21, .inr (5, [.null, .null, .null, .null, .null, .int 0]))] := hD
  refine W.widen (k := 21) (n := 15343) (Nat.le_refl _) (Nat.le_refl _) ?_
  refine lv_dup hx hb (by decide +kernel) rfl ?_
  refine lv_aload_n hx hb (show decode prog_1_method_1_code 44 = .ok (.aload_n 0, 1) from by decide +kernel) rfl (lv_at hl 0 rfl) ?_
  refine va_get (D := (dC, dI)) (ci := 0) (v := .ref q2) (C := "GuessFences") (T := gf_T0) (N := 12) hx hb hts lays_0 hown hK hP 0 rfl rfl 1 (by decide) (hts (.fieldLink "GuessFences" 16 "GuessFences" "listing" "LGuessFences$Listing;") (gv_i2 62 rfl rfl)) (fun _ h9 => h9) rfl (by decide +kernel) ?_
  have hPc := hP.sub (ws' := [(q21, .inr (5, [.null, .null, .null, .null, .null, .int 0]))]) [21] rfl
  have hDc := hD.sub (ws' := [(q21, .inr (5, [.null, .null, .null, .null, .null, .int 0]))]) [21] (by decide) rfl
  have hKc := hK.sub (tys' := []) [] rfl
  have hFc := va_free (wc := [(q21, .inr (5, [.null, .null, .null, .null, .null, .int 0]))]) hD hS hA [21] rfl
  refine va_callv (gc_run (As := [.ref q2]) (rest := [.ref q21, .ref h0]) ⟨hx, hb, hml, hown, fun _ h => by cases h⟩ (k_Reach_init l dC dI q21 q2 H.size) hT (gv_i1 176 rfl rfl) (gv_i1 6 rfl rfl) (gv_i1 175 rfl rfl) (Or.inl (gv_i1 174 rfl rfl)) (by decide) (show (parseMethodDescriptor "(LGuessFences$Listing;)V").map (fun d => d.parameters.length) = some 1 from by decide +kernel) hPc hKc hDc rfl hl.1 rfl (Nat.le_of_ble_eq_true rfl) (by decide +kernel) ⟨(Nat.le_of_ble_eq_true rfl), (Nat.le_of_ble_eq_true rfl)⟩ ⟨(Nat.le_of_ble_eq_true rfl), (Nat.le_of_ble_eq_true rfl)⟩) hS (fun q _ h => hFc q h) hFc (fun u t H1 locs ht hvm _ hB hz1 hk1 hS => ?_)
  obtain ⟨q22, q23, q24, q25, c22, c23, c24, c25, hP1, hK1, hD1⟩ := hB
  rw [ht] at hP1
  have hK1 := va_K.moved hvm.symm hK1
  obtain ⟨hP, hD⟩ := va_join (wr := [(h0, .inr (0, [.ref q1, .ref q2, .ref q10, .null, .null, .null, .null, .int 0, .int 0, .int 0, .int 0, .int 0])), (q1, .inl (c1, 1040, .inl (fun _ => 0))), (q2, .inr (1, [.ref q3, .ref q4, .ref q5, .ref q6, .ref q7, .ref q8, .ref q9, .int 0])), (q3, .inl (c3, 1040, .inl (fun _ => 0))), (q4, .inl (c4, 1040, .inl (fun _ => 0))), (q5, .inl (c5, 1040, .inl (fun _ => 0))), (q6, .inl (c6, 1040, .inl (fun _ => 0))), (q7, .inl (c7, 1040, .inl (fun _ => 0))), (q8, .inl (c8, 1040, .inl (fun _ => 0))), (q9, .inl (c9, 1040, .inl (fun _ => 0))), (q10, .inr (2, [.ref q2, .ref q11, .ref q12, .ref q13, .ref q15, .int 0, .int 16])), (q11, .inl (c11, 32, .inl (fun _ => 0))), (q12, .inl (c12, 256, .inl (fun _ => 0))), (q13, .inr (3, [.ref q14, .int 0])), (q14, .inl (c14, 2048, .inr (.inl (fun _ => 0)))), (q15, .inr (4, [.ref q16, .ref q17, .ref q18, .ref q19, .ref q20, .int 0, .int 0, .int 0])), (q16, .inl (c16, 512, .inl (fun _ => 0))), (q17, .inl (c17, 4096, .inl (fun _ => 0))), (q18, .inl (c18, 16, .inl (fun _ => 0))), (q19, .inl (c19, 16, .inl (fun _ => 0))), (q20, .inl (c20, 16, .inl (fun _ => 0)))]) (w1 := [(q21, .inr (5, [.ref q2, .ref q22, .ref q23, .ref q24, .ref q25, .int 0])), (q22, .inl (c22, 17680, .inr (.inl (fun _ => 0)))), (q23, .inl (c23, 1040, .inl (fun _ => 0))), (q24, .inl (c24, 1040, .inl (fun _ => 0))), (q25, .inl (c25, 1040, .inl (fun _ => 0)))]) hP hD [21] [0, 1, 2, 3, 4, 5, 6, 7, 8, 9, 10, 11, 12, 13, 14, 15, 16, 17, 18, 19, 20] rfl rfl (by decide) (by decide) hk1 hFc hP1 hD1
  have hK := hK.app hK1
  generalize H1 = H at hP hS ⊢
  have hP : va_P (dC, dI) vwCl [(h0, .inr (0, [.ref q1, .ref q2, .ref q10, .null, .null, .null, .null, .int 0, .int 0, .int 0, .int 0, .int 0])), (q1, .inl (c1, 1040, .inl (fun _ => 0))), (q2, .inr (1, [.ref q3, .ref q4, .ref q5, .ref q6, .ref q7, .ref q8, .ref q9, .int 0])), (q3, .inl (c3, 1040, .inl (fun _ => 0))), (q4, .inl (c4, 1040, .inl (fun _ => 0))), (q5, .inl (c5, 1040, .inl (fun _ => 0))), (q6, .inl (c6, 1040, .inl (fun _ => 0))), (q7, .inl (c7, 1040, .inl (fun _ => 0))), (q8, .inl (c8, 1040, .inl (fun _ => 0))), (q9, .inl (c9, 1040, .inl (fun _ => 0))), (q10, .inr (2, [.ref q2, .ref q11, .ref q12, .ref q13, .ref q15, .int 0, .int 16])), (q11, .inl (c11, 32, .inl (fun _ => 0))), (q12, .inl (c12, 256, .inl (fun _ => 0))), (q13, .inr (3, [.ref q14, .int 0])), (q14, .inl (c14, 2048, .inr (.inl (fun _ => 0)))), (q15, .inr (4, [.ref q16, .ref q17, .ref q18, .ref q19, .ref q20, .int 0, .int 0, .int 0])), (q16, .inl (c16, 512, .inl (fun _ => 0))), (q17, .inl (c17, 4096, .inl (fun _ => 0))), (q18, .inl (c18, 16, .inl (fun _ => 0))), (q19, .inl (c19, 16, .inl (fun _ => 0))), (q20, .inl (c20, 16, .inl (fun _ => 0))), (q21, .inr (5, [.ref q2, .ref q22, .ref q23, .ref q24, .ref q25, .int 0])), (q22, .inl (c22, 17680, .inr (.inl (fun _ => 0)))), (q23, .inl (c23, 1040, .inl (fun _ => 0))), (q24, .inl (c24, 1040, .inl (fun _ => 0))), (q25, .inl (c25, 1040, .inl (fun _ => 0)))] H := hP
  have hD : va_D A [(h0, .inr (0, [.ref q1, .ref q2, .ref q10, .null, .null, .null, .null, .int 0, .int 0, .int 0, .int 0, .int 0])), (q1, .inl (c1, 1040, .inl (fun _ => 0))), (q2, .inr (1, [.ref q3, .ref q4, .ref q5, .ref q6, .ref q7, .ref q8, .ref q9, .int 0])), (q3, .inl (c3, 1040, .inl (fun _ => 0))), (q4, .inl (c4, 1040, .inl (fun _ => 0))), (q5, .inl (c5, 1040, .inl (fun _ => 0))), (q6, .inl (c6, 1040, .inl (fun _ => 0))), (q7, .inl (c7, 1040, .inl (fun _ => 0))), (q8, .inl (c8, 1040, .inl (fun _ => 0))), (q9, .inl (c9, 1040, .inl (fun _ => 0))), (q10, .inr (2, [.ref q2, .ref q11, .ref q12, .ref q13, .ref q15, .int 0, .int 16])), (q11, .inl (c11, 32, .inl (fun _ => 0))), (q12, .inl (c12, 256, .inl (fun _ => 0))), (q13, .inr (3, [.ref q14, .int 0])), (q14, .inl (c14, 2048, .inr (.inl (fun _ => 0)))), (q15, .inr (4, [.ref q16, .ref q17, .ref q18, .ref q19, .ref q20, .int 0, .int 0, .int 0])), (q16, .inl (c16, 512, .inl (fun _ => 0))), (q17, .inl (c17, 4096, .inl (fun _ => 0))), (q18, .inl (c18, 16, .inl (fun _ => 0))), (q19, .inl (c19, 16, .inl (fun _ => 0))), (q20, .inl (c20, 16, .inl (fun _ => 0))), (q21, .inr (5, [.ref q2, .ref q22, .ref q23, .ref q24, .ref q25, .int 0])), (q22, .inl (c22, 17680, .inr (.inl (fun _ => 0)))), (q23, .inl (c23, 1040, .inl (fun _ => 0))), (q24, .inl (c24, 1040, .inl (fun _ => 0))), (q25, .inl (c25, 1040, .inl (fun _ => 0)))] := hD
  have hK : va_K (dC, dI) vwCl [(c1, .int), (c3, .int), (c4, .int), (c5, .int), (c6, .int), (c7, .int), (c8, .int), (c9, .int), (c11, .int), (c12, .byte), (c14, .long), (c16, .int), (c17, .byte), (c18, .int), (c19, .int), (c20, .int), (c22, .long), (c23, .int), (c24, .int), (c25, .int)] s := hK
  refine W.widen (k := 25) (n := 36143) (Nat.le_refl _) (Nat.le_refl _) ?_
  refine va_putF (D := (dC, dI)) (ci := 0) (v := .ref q21) (ty := .object "GuessFences$Reach") (C := "GuessFences") (T := gf_T0) (N := 12) hx hb hts lays_0 gf_y0 gf_ty0 gf_nm0 hown hK hP hD hS 0 rfl rfl 3 (by decide) (hts (.fieldLink "GuessFences" 32 "GuessFences" "reach" "LGuessFences$Reach;") (gv_i2 64 rfl rfl)) (fun _ h9 => h9) rfl hin rfl (by decide +kernel) rfl rfl (Nat.le_of_ble_eq_true rfl) (by decide +kernel) (fun H locs hP hD hS => ?_)
  have hP : va_P (dC, dI) vwCl [(h0, .inr (0, [.ref q1, .ref q2, .ref q10, .ref q21, .null, .null, .null, .int 0, .int 0, .int 0, .int 0, .int 0])), (q1, .inl (c1, 1040, .inl (fun _ => 0))), (q2, .inr (1, [.ref q3, .ref q4, .ref q5, .ref q6, .ref q7, .ref q8, .ref q9, .int 0])), (q3, .inl (c3, 1040, .inl (fun _ => 0))), (q4, .inl (c4, 1040, .inl (fun _ => 0))), (q5, .inl (c5, 1040, .inl (fun _ => 0))), (q6, .inl (c6, 1040, .inl (fun _ => 0))), (q7, .inl (c7, 1040, .inl (fun _ => 0))), (q8, .inl (c8, 1040, .inl (fun _ => 0))), (q9, .inl (c9, 1040, .inl (fun _ => 0))), (q10, .inr (2, [.ref q2, .ref q11, .ref q12, .ref q13, .ref q15, .int 0, .int 16])), (q11, .inl (c11, 32, .inl (fun _ => 0))), (q12, .inl (c12, 256, .inl (fun _ => 0))), (q13, .inr (3, [.ref q14, .int 0])), (q14, .inl (c14, 2048, .inr (.inl (fun _ => 0)))), (q15, .inr (4, [.ref q16, .ref q17, .ref q18, .ref q19, .ref q20, .int 0, .int 0, .int 0])), (q16, .inl (c16, 512, .inl (fun _ => 0))), (q17, .inl (c17, 4096, .inl (fun _ => 0))), (q18, .inl (c18, 16, .inl (fun _ => 0))), (q19, .inl (c19, 16, .inl (fun _ => 0))), (q20, .inl (c20, 16, .inl (fun _ => 0))), (q21, .inr (5, [.ref q2, .ref q22, .ref q23, .ref q24, .ref q25, .int 0])), (q22, .inl (c22, 17680, .inr (.inl (fun _ => 0)))), (q23, .inl (c23, 1040, .inl (fun _ => 0))), (q24, .inl (c24, 1040, .inl (fun _ => 0))), (q25, .inl (c25, 1040, .inl (fun _ => 0)))] H := hP
  have hD : va_D A [(h0, .inr (0, [.ref q1, .ref q2, .ref q10, .ref q21, .null, .null, .null, .int 0, .int 0, .int 0, .int 0, .int 0])), (q1, .inl (c1, 1040, .inl (fun _ => 0))), (q2, .inr (1, [.ref q3, .ref q4, .ref q5, .ref q6, .ref q7, .ref q8, .ref q9, .int 0])), (q3, .inl (c3, 1040, .inl (fun _ => 0))), (q4, .inl (c4, 1040, .inl (fun _ => 0))), (q5, .inl (c5, 1040, .inl (fun _ => 0))), (q6, .inl (c6, 1040, .inl (fun _ => 0))), (q7, .inl (c7, 1040, .inl (fun _ => 0))), (q8, .inl (c8, 1040, .inl (fun _ => 0))), (q9, .inl (c9, 1040, .inl (fun _ => 0))), (q10, .inr (2, [.ref q2, .ref q11, .ref q12, .ref q13, .ref q15, .int 0, .int 16])), (q11, .inl (c11, 32, .inl (fun _ => 0))), (q12, .inl (c12, 256, .inl (fun _ => 0))), (q13, .inr (3, [.ref q14, .int 0])), (q14, .inl (c14, 2048, .inr (.inl (fun _ => 0)))), (q15, .inr (4, [.ref q16, .ref q17, .ref q18, .ref q19, .ref q20, .int 0, .int 0, .int 0])), (q16, .inl (c16, 512, .inl (fun _ => 0))), (q17, .inl (c17, 4096, .inl (fun _ => 0))), (q18, .inl (c18, 16, .inl (fun _ => 0))), (q19, .inl (c19, 16, .inl (fun _ => 0))), (q20, .inl (c20, 16, .inl (fun _ => 0))), (q21, .inr (5, [.ref q2, .ref q22, .ref q23, .ref q24, .ref q25, .int 0])), (q22, .inl (c22, 17680, .inr (.inl (fun _ => 0)))), (q23, .inl (c23, 1040, .inl (fun _ => 0))), (q24, .inl (c24, 1040, .inl (fun _ => 0))), (q25, .inl (c25, 1040, .inl (fun _ => 0)))] := hD
  refine lv_aload_n hx hb (show decode prog_1_method_1_code 54 = .ok (.aload_n 0, 1) from by decide +kernel) rfl (lv_at hl 0 rfl) ?_
  refine va_new (ci := 6) (fs := [.null, .null, .null, .null, .null, .null, .null, .null, .int 0, .int 0, .int 0]) (C := "GuessFences$Taint") (T := gf_T6) (N := 11) hx hb hts lays_6 gf_y6 gf_ty6 hown (hts (.classLink "GuessFences" 36 "GuessFences$Taint") (gv_i1 197 rfl rfl)) (hts (.instantiable "GuessFences$Taint" 11) (gv_i1 198 rfl rfl)) (hts (.initialized "GuessFences$Taint") (gv_i1 7 rfl rfl)) hK hP hD hS hA rfl (by decide +kernel) (Nat.le_of_ble_eq_true rfl) (Nat.le_of_ble_eq_true rfl) (by decide +kernel) (fun q26 H hP hD hS => ?_)
  have hP : va_P (dC, dI) vwCl [(h0, .inr (0, [.ref q1, .ref q2, .ref q10, .ref q21, .null, .null, .null, .int 0, .int 0, .int 0, .int 0, .int 0])), (q1, .inl (c1, 1040, .inl (fun _ => 0))), (q2, .inr (1, [.ref q3, .ref q4, .ref q5, .ref q6, .ref q7, .ref q8, .ref q9, .int 0])), (q3, .inl (c3, 1040, .inl (fun _ => 0))), (q4, .inl (c4, 1040, .inl (fun _ => 0))), (q5, .inl (c5, 1040, .inl (fun _ => 0))), (q6, .inl (c6, 1040, .inl (fun _ => 0))), (q7, .inl (c7, 1040, .inl (fun _ => 0))), (q8, .inl (c8, 1040, .inl (fun _ => 0))), (q9, .inl (c9, 1040, .inl (fun _ => 0))), (q10, .inr (2, [.ref q2, .ref q11, .ref q12, .ref q13, .ref q15, .int 0, .int 16])), (q11, .inl (c11, 32, .inl (fun _ => 0))), (q12, .inl (c12, 256, .inl (fun _ => 0))), (q13, .inr (3, [.ref q14, .int 0])), (q14, .inl (c14, 2048, .inr (.inl (fun _ => 0)))), (q15, .inr (4, [.ref q16, .ref q17, .ref q18, .ref q19, .ref q20, .int 0, .int 0, .int 0])), (q16, .inl (c16, 512, .inl (fun _ => 0))), (q17, .inl (c17, 4096, .inl (fun _ => 0))), (q18, .inl (c18, 16, .inl (fun _ => 0))), (q19, .inl (c19, 16, .inl (fun _ => 0))), (q20, .inl (c20, 16, .inl (fun _ => 0))), (q21, .inr (5, [.ref q2, .ref q22, .ref q23, .ref q24, .ref q25, .int 0])), (q22, .inl (c22, 17680, .inr (.inl (fun _ => 0)))), (q23, .inl (c23, 1040, .inl (fun _ => 0))), (q24, .inl (c24, 1040, .inl (fun _ => 0))), (q25, .inl (c25, 1040, .inl (fun _ => 0))), (q26, .inr (6, [.null, .null, .null, .null, .null, .null, .null, .null, .int 0, .int 0, .int 0]))] H := hP
  have hD : va_D A [(h0, .inr (0, [.ref q1, .ref q2, .ref q10, .ref q21, .null, .null, .null, .int 0, .int 0, .int 0, .int 0, .int 0])), (q1, .inl (c1, 1040, .inl (fun _ => 0))), (q2, .inr (1, [.ref q3, .ref q4, .ref q5, .ref q6, .ref q7, .ref q8, .ref q9, .int 0])), (q3, .inl (c3, 1040, .inl (fun _ => 0))), (q4, .inl (c4, 1040, .inl (fun _ => 0))), (q5, .inl (c5, 1040, .inl (fun _ => 0))), (q6, .inl (c6, 1040, .inl (fun _ => 0))), (q7, .inl (c7, 1040, .inl (fun _ => 0))), (q8, .inl (c8, 1040, .inl (fun _ => 0))), (q9, .inl (c9, 1040, .inl (fun _ => 0))), (q10, .inr (2, [.ref q2, .ref q11, .ref q12, .ref q13, .ref q15, .int 0, .int 16])), (q11, .inl (c11, 32, .inl (fun _ => 0))), (q12, .inl (c12, 256, .inl (fun _ => 0))), (q13, .inr (3, [.ref q14, .int 0])), (q14, .inl (c14, 2048, .inr (.inl (fun _ => 0)))), (q15, .inr (4, [.ref q16, .ref q17, .ref q18, .ref q19, .ref q20, .int 0, .int 0, .int 0])), (q16, .inl (c16, 512, .inl (fun _ => 0))), (q17, .inl (c17, 4096, .inl (fun _ => 0))), (q18, .inl (c18, 16, .inl (fun _ => 0))), (q19, .inl (c19, 16, .inl (fun _ => 0))), (q20, .inl (c20, 16, .inl (fun _ => 0))), (q21, .inr (5, [.ref q2, .ref q22, .ref q23, .ref q24, .ref q25, .int 0])), (q22, .inl (c22, 17680, .inr (.inl (fun _ => 0)))), (q23, .inl (c23, 1040, .inl (fun _ => 0))), (q24, .inl (c24, 1040, .inl (fun _ => 0))), (q25, .inl (c25, 1040, .inl (fun _ => 0))), (q26, .inr (6, [.null, .null, .null, .null, .null, .null, .null, .null, .int 0, .int 0, .int 0]))] := hD
  refine W.widen (k := 26) (n := 36154) (Nat.le_refl _) (Nat.le_refl _) ?_
  refine lv_dup hx hb (by decide +kernel) rfl ?_
  refine lv_aload_n hx hb (show decode prog_1_method_1_code 59 = .ok (.aload_n 0, 1) from by decide +kernel) rfl (lv_at hl 0 rfl) ?_
  refine va_get (D := (dC, dI)) (ci := 0) (v := .ref q2) (C := "GuessFences") (T := gf_T0) (N := 12) hx hb hts lays_0 hown hK hP 0 rfl rfl 1 (by decide) (hts (.fieldLink "GuessFences" 16 "GuessFences" "listing" "LGuessFences$Listing;") (gv_i2 62 rfl rfl)) (fun _ h9 => h9) rfl (by decide +kernel) ?_
  refine lv_aload_n hx hb (show decode prog_1_method_1_code 63 = .ok (.aload_n 0, 1) from by decide +kernel) rfl (lv_at hl 0 rfl) ?_
  refine va_get (D := (dC, dI)) (ci := 0) (v := .ref q21) (C := "GuessFences") (T := gf_T0) (N := 12) hx hb hts lays_0 hown hK hP 0 rfl rfl 3 (by decide) (hts (.fieldLink "GuessFences" 32 "GuessFences" "reach" "LGuessFences$Reach;") (gv_i2 64 rfl rfl)) (fun _ h9 => h9) rfl (by decide +kernel) ?_
  have hPc := hP.sub (ws' := [(q26, .inr (6, [.null, .null, .null, .null, .null, .null, .null, .null, .int 0, .int 0, .int 0]))]) [26] rfl
  have hDc := hD.sub (ws' := [(q26, .inr (6, [.null, .null, .null, .null, .null, .null, .null, .null, .int 0, .int 0, .int 0]))]) [26] (by decide) rfl
  have hKc := hK.sub (tys' := []) [] rfl
  have hFc := va_free (wc := [(q26, .inr (6, [.null, .null, .null, .null, .null, .null, .null, .null, .int 0, .int 0, .int 0]))]) hD hS hA [26] rfl
  refine va_callv (gc_run (As := [.ref q2, .ref q21]) (rest := [.ref q26, .ref h0]) ⟨hx, hb, hml, hown, fun _ h => by cases h⟩ (k_Taint_init l dC dI q26 q2 q21 H.size) hT (gv_i1 201 rfl rfl) (gv_i1 7 rfl rfl) (gv_i1 200 rfl rfl) (Or.inl (gv_i1 199 rfl rfl)) (by decide) (show (parseMethodDescriptor "(LGuessFences$Listing;LGuessFences$Reach;)V").map (fun d => d.parameters.length) = some 2 from by decide +kernel) hPc hKc hDc rfl hl.1 rfl (Nat.le_of_ble_eq_true rfl) (by decide +kernel) ⟨(Nat.le_of_ble_eq_true rfl), (Nat.le_of_ble_eq_true rfl)⟩ ⟨(Nat.le_of_ble_eq_true rfl), (Nat.le_of_ble_eq_true rfl)⟩) hS (fun q _ h => hFc q h) hFc (fun u t H1 locs ht hvm _ hB hz1 hk1 hS => ?_)
  obtain ⟨q27, q28, q29, q30, q31, q32, c27, c28, c29, c30, c31, c32, hP1, hK1, hD1⟩ := hB
  rw [ht] at hP1
  have hK1 := va_K.moved hvm.symm hK1
  obtain ⟨hP, hD⟩ := va_join (wr := [(h0, .inr (0, [.ref q1, .ref q2, .ref q10, .ref q21, .null, .null, .null, .int 0, .int 0, .int 0, .int 0, .int 0])), (q1, .inl (c1, 1040, .inl (fun _ => 0))), (q2, .inr (1, [.ref q3, .ref q4, .ref q5, .ref q6, .ref q7, .ref q8, .ref q9, .int 0])), (q3, .inl (c3, 1040, .inl (fun _ => 0))), (q4, .inl (c4, 1040, .inl (fun _ => 0))), (q5, .inl (c5, 1040, .inl (fun _ => 0))), (q6, .inl (c6, 1040, .inl (fun _ => 0))), (q7, .inl (c7, 1040, .inl (fun _ => 0))), (q8, .inl (c8, 1040, .inl (fun _ => 0))), (q9, .inl (c9, 1040, .inl (fun _ => 0))), (q10, .inr (2, [.ref q2, .ref q11, .ref q12, .ref q13, .ref q15, .int 0, .int 16])), (q11, .inl (c11, 32, .inl (fun _ => 0))), (q12, .inl (c12, 256, .inl (fun _ => 0))), (q13, .inr (3, [.ref q14, .int 0])), (q14, .inl (c14, 2048, .inr (.inl (fun _ => 0)))), (q15, .inr (4, [.ref q16, .ref q17, .ref q18, .ref q19, .ref q20, .int 0, .int 0, .int 0])), (q16, .inl (c16, 512, .inl (fun _ => 0))), (q17, .inl (c17, 4096, .inl (fun _ => 0))), (q18, .inl (c18, 16, .inl (fun _ => 0))), (q19, .inl (c19, 16, .inl (fun _ => 0))), (q20, .inl (c20, 16, .inl (fun _ => 0))), (q21, .inr (5, [.ref q2, .ref q22, .ref q23, .ref q24, .ref q25, .int 0])), (q22, .inl (c22, 17680, .inr (.inl (fun _ => 0)))), (q23, .inl (c23, 1040, .inl (fun _ => 0))), (q24, .inl (c24, 1040, .inl (fun _ => 0))), (q25, .inl (c25, 1040, .inl (fun _ => 0)))]) (w1 := [(q26, .inr (6, [.ref q2, .ref q21, .ref q27, .ref q28, .ref q29, .ref q30, .ref q31, .ref q32, .int 0, .int 0, .int 0])), (q27, .inl (c27, 1040, .inl (fun _ => 0))), (q28, .inl (c28, 1040, .inl (fun _ => 0))), (q29, .inl (c29, 1040, .inl (fun _ => 0))), (q30, .inl (c30, 1040, .inl (fun _ => 0))), (q31, .inl (c31, 17, .inr (.inl (fun _ => 0)))), (q32, .inl (c32, 17, .inr (.inl (fun _ => 0))))]) hP hD [26] [0, 1, 2, 3, 4, 5, 6, 7, 8, 9, 10, 11, 12, 13, 14, 15, 16, 17, 18, 19, 20, 21, 22, 23, 24, 25] rfl rfl (by decide) (by decide) hk1 hFc hP1 hD1
  have hK := hK.app hK1
  generalize H1 = H at hP hS ⊢
  have hP : va_P (dC, dI) vwCl [(h0, .inr (0, [.ref q1, .ref q2, .ref q10, .ref q21, .null, .null, .null, .int 0, .int 0, .int 0, .int 0, .int 0])), (q1, .inl (c1, 1040, .inl (fun _ => 0))), (q2, .inr (1, [.ref q3, .ref q4, .ref q5, .ref q6, .ref q7, .ref q8, .ref q9, .int 0])), (q3, .inl (c3, 1040, .inl (fun _ => 0))), (q4, .inl (c4, 1040, .inl (fun _ => 0))), (q5, .inl (c5, 1040, .inl (fun _ => 0))), (q6, .inl (c6, 1040, .inl (fun _ => 0))), (q7, .inl (c7, 1040, .inl (fun _ => 0))), (q8, .inl (c8, 1040, .inl (fun _ => 0))), (q9, .inl (c9, 1040, .inl (fun _ => 0))), (q10, .inr (2, [.ref q2, .ref q11, .ref q12, .ref q13, .ref q15, .int 0, .int 16])), (q11, .inl (c11, 32, .inl (fun _ => 0))), (q12, .inl (c12, 256, .inl (fun _ => 0))), (q13, .inr (3, [.ref q14, .int 0])), (q14, .inl (c14, 2048, .inr (.inl (fun _ => 0)))), (q15, .inr (4, [.ref q16, .ref q17, .ref q18, .ref q19, .ref q20, .int 0, .int 0, .int 0])), (q16, .inl (c16, 512, .inl (fun _ => 0))), (q17, .inl (c17, 4096, .inl (fun _ => 0))), (q18, .inl (c18, 16, .inl (fun _ => 0))), (q19, .inl (c19, 16, .inl (fun _ => 0))), (q20, .inl (c20, 16, .inl (fun _ => 0))), (q21, .inr (5, [.ref q2, .ref q22, .ref q23, .ref q24, .ref q25, .int 0])), (q22, .inl (c22, 17680, .inr (.inl (fun _ => 0)))), (q23, .inl (c23, 1040, .inl (fun _ => 0))), (q24, .inl (c24, 1040, .inl (fun _ => 0))), (q25, .inl (c25, 1040, .inl (fun _ => 0))), (q26, .inr (6, [.ref q2, .ref q21, .ref q27, .ref q28, .ref q29, .ref q30, .ref q31, .ref q32, .int 0, .int 0, .int 0])), (q27, .inl (c27, 1040, .inl (fun _ => 0))), (q28, .inl (c28, 1040, .inl (fun _ => 0))), (q29, .inl (c29, 1040, .inl (fun _ => 0))), (q30, .inl (c30, 1040, .inl (fun _ => 0))), (q31, .inl (c31, 17, .inr (.inl (fun _ => 0)))), (q32, .inl (c32, 17, .inr (.inl (fun _ => 0))))] H := hP
  have hD : va_D A [(h0, .inr (0, [.ref q1, .ref q2, .ref q10, .ref q21, .null, .null, .null, .int 0, .int 0, .int 0, .int 0, .int 0])), (q1, .inl (c1, 1040, .inl (fun _ => 0))), (q2, .inr (1, [.ref q3, .ref q4, .ref q5, .ref q6, .ref q7, .ref q8, .ref q9, .int 0])), (q3, .inl (c3, 1040, .inl (fun _ => 0))), (q4, .inl (c4, 1040, .inl (fun _ => 0))), (q5, .inl (c5, 1040, .inl (fun _ => 0))), (q6, .inl (c6, 1040, .inl (fun _ => 0))), (q7, .inl (c7, 1040, .inl (fun _ => 0))), (q8, .inl (c8, 1040, .inl (fun _ => 0))), (q9, .inl (c9, 1040, .inl (fun _ => 0))), (q10, .inr (2, [.ref q2, .ref q11, .ref q12, .ref q13, .ref q15, .int 0, .int 16])), (q11, .inl (c11, 32, .inl (fun _ => 0))), (q12, .inl (c12, 256, .inl (fun _ => 0))), (q13, .inr (3, [.ref q14, .int 0])), (q14, .inl (c14, 2048, .inr (.inl (fun _ => 0)))), (q15, .inr (4, [.ref q16, .ref q17, .ref q18, .ref q19, .ref q20, .int 0, .int 0, .int 0])), (q16, .inl (c16, 512, .inl (fun _ => 0))), (q17, .inl (c17, 4096, .inl (fun _ => 0))), (q18, .inl (c18, 16, .inl (fun _ => 0))), (q19, .inl (c19, 16, .inl (fun _ => 0))), (q20, .inl (c20, 16, .inl (fun _ => 0))), (q21, .inr (5, [.ref q2, .ref q22, .ref q23, .ref q24, .ref q25, .int 0])), (q22, .inl (c22, 17680, .inr (.inl (fun _ => 0)))), (q23, .inl (c23, 1040, .inl (fun _ => 0))), (q24, .inl (c24, 1040, .inl (fun _ => 0))), (q25, .inl (c25, 1040, .inl (fun _ => 0))), (q26, .inr (6, [.ref q2, .ref q21, .ref q27, .ref q28, .ref q29, .ref q30, .ref q31, .ref q32, .int 0, .int 0, .int 0])), (q27, .inl (c27, 1040, .inl (fun _ => 0))), (q28, .inl (c28, 1040, .inl (fun _ => 0))), (q29, .inl (c29, 1040, .inl (fun _ => 0))), (q30, .inl (c30, 1040, .inl (fun _ => 0))), (q31, .inl (c31, 17, .inr (.inl (fun _ => 0)))), (q32, .inl (c32, 17, .inr (.inl (fun _ => 0))))] := hD
  have hK : va_K (dC, dI) vwCl [(c1, .int), (c3, .int), (c4, .int), (c5, .int), (c6, .int), (c7, .int), (c8, .int), (c9, .int), (c11, .int), (c12, .byte), (c14, .long), (c16, .int), (c17, .byte), (c18, .int), (c19, .int), (c20, .int), (c22, .long), (c23, .int), (c24, .int), (c25, .int), (c27, .int), (c28, .int), (c29, .int), (c30, .boolean), (c31, .long), (c32, .long)] s := hK
  refine W.widen (k := 32) (n := 40348) (Nat.le_refl _) (Nat.le_refl _) ?_
  refine va_putF (D := (dC, dI)) (ci := 0) (v := .ref q26) (ty := .object "GuessFences$Taint") (C := "GuessFences") (T := gf_T0) (N := 12) hx hb hts lays_0 gf_y0 gf_ty0 gf_nm0 hown hK hP hD hS 0 rfl rfl 4 (by decide) (hts (.fieldLink "GuessFences" 41 "GuessFences" "taint" "LGuessFences$Taint;") (gv_i2 65 rfl rfl)) (fun _ h9 => h9) rfl hin rfl (by decide +kernel) rfl rfl (Nat.le_of_ble_eq_true rfl) (by decide +kernel) (fun H locs hP hD hS => ?_)
  have hP : va_P (dC, dI) vwCl [(h0, .inr (0, [.ref q1, .ref q2, .ref q10, .ref q21, .ref q26, .null, .null, .int 0, .int 0, .int 0, .int 0, .int 0])), (q1, .inl (c1, 1040, .inl (fun _ => 0))), (q2, .inr (1, [.ref q3, .ref q4, .ref q5, .ref q6, .ref q7, .ref q8, .ref q9, .int 0])), (q3, .inl (c3, 1040, .inl (fun _ => 0))), (q4, .inl (c4, 1040, .inl (fun _ => 0))), (q5, .inl (c5, 1040, .inl (fun _ => 0))), (q6, .inl (c6, 1040, .inl (fun _ => 0))), (q7, .inl (c7, 1040, .inl (fun _ => 0))), (q8, .inl (c8, 1040, .inl (fun _ => 0))), (q9, .inl (c9, 1040, .inl (fun _ => 0))), (q10, .inr (2, [.ref q2, .ref q11, .ref q12, .ref q13, .ref q15, .int 0, .int 16])), (q11, .inl (c11, 32, .inl (fun _ => 0))), (q12, .inl (c12, 256, .inl (fun _ => 0))), (q13, .inr (3, [.ref q14, .int 0])), (q14, .inl (c14, 2048, .inr (.inl (fun _ => 0)))), (q15, .inr (4, [.ref q16, .ref q17, .ref q18, .ref q19, .ref q20, .int 0, .int 0, .int 0])), (q16, .inl (c16, 512, .inl (fun _ => 0))), (q17, .inl (c17, 4096, .inl (fun _ => 0))), (q18, .inl (c18, 16, .inl (fun _ => 0))), (q19, .inl (c19, 16, .inl (fun _ => 0))), (q20, .inl (c20, 16, .inl (fun _ => 0))), (q21, .inr (5, [.ref q2, .ref q22, .ref q23, .ref q24, .ref q25, .int 0])), (q22, .inl (c22, 17680, .inr (.inl (fun _ => 0)))), (q23, .inl (c23, 1040, .inl (fun _ => 0))), (q24, .inl (c24, 1040, .inl (fun _ => 0))), (q25, .inl (c25, 1040, .inl (fun _ => 0))), (q26, .inr (6, [.ref q2, .ref q21, .ref q27, .ref q28, .ref q29, .ref q30, .ref q31, .ref q32, .int 0, .int 0, .int 0])), (q27, .inl (c27, 1040, .inl (fun _ => 0))), (q28, .inl (c28, 1040, .inl (fun _ => 0))), (q29, .inl (c29, 1040, .inl (fun _ => 0))), (q30, .inl (c30, 1040, .inl (fun _ => 0))), (q31, .inl (c31, 17, .inr (.inl (fun _ => 0)))), (q32, .inl (c32, 17, .inr (.inl (fun _ => 0))))] H := hP
  have hD : va_D A [(h0, .inr (0, [.ref q1, .ref q2, .ref q10, .ref q21, .ref q26, .null, .null, .int 0, .int 0, .int 0, .int 0, .int 0])), (q1, .inl (c1, 1040, .inl (fun _ => 0))), (q2, .inr (1, [.ref q3, .ref q4, .ref q5, .ref q6, .ref q7, .ref q8, .ref q9, .int 0])), (q3, .inl (c3, 1040, .inl (fun _ => 0))), (q4, .inl (c4, 1040, .inl (fun _ => 0))), (q5, .inl (c5, 1040, .inl (fun _ => 0))), (q6, .inl (c6, 1040, .inl (fun _ => 0))), (q7, .inl (c7, 1040, .inl (fun _ => 0))), (q8, .inl (c8, 1040, .inl (fun _ => 0))), (q9, .inl (c9, 1040, .inl (fun _ => 0))), (q10, .inr (2, [.ref q2, .ref q11, .ref q12, .ref q13, .ref q15, .int 0, .int 16])), (q11, .inl (c11, 32, .inl (fun _ => 0))), (q12, .inl (c12, 256, .inl (fun _ => 0))), (q13, .inr (3, [.ref q14, .int 0])), (q14, .inl (c14, 2048, .inr (.inl (fun _ => 0)))), (q15, .inr (4, [.ref q16, .ref q17, .ref q18, .ref q19, .ref q20, .int 0, .int 0, .int 0])), (q16, .inl (c16, 512, .inl (fun _ => 0))), (q17, .inl (c17, 4096, .inl (fun _ => 0))), (q18, .inl (c18, 16, .inl (fun _ => 0))), (q19, .inl (c19, 16, .inl (fun _ => 0))), (q20, .inl (c20, 16, .inl (fun _ => 0))), (q21, .inr (5, [.ref q2, .ref q22, .ref q23, .ref q24, .ref q25, .int 0])), (q22, .inl (c22, 17680, .inr (.inl (fun _ => 0)))), (q23, .inl (c23, 1040, .inl (fun _ => 0))), (q24, .inl (c24, 1040, .inl (fun _ => 0))), (q25, .inl (c25, 1040, .inl (fun _ => 0))), (q26, .inr (6, [.ref q2, .ref q21, .ref q27, .ref q28, .ref q29, .ref q30, .ref q31, .ref q32, .int 0, .int 0, .int 0])), (q27, .inl (c27, 1040, .inl (fun _ => 0))), (q28, .inl (c28, 1040, .inl (fun _ => 0))), (q29, .inl (c29, 1040, .inl (fun _ => 0))), (q30, .inl (c30, 1040, .inl (fun _ => 0))), (q31, .inl (c31, 17, .inr (.inl (fun _ => 0)))), (q32, .inl (c32, 17, .inr (.inl (fun _ => 0))))] := hD
  refine lv_aload_n hx hb (show decode prog_1_method_1_code 73 = .ok (.aload_n 0, 1) from by decide +kernel) rfl (lv_at hl 0 rfl) ?_
  refine va_new (ci := 7) (fs := [.null, .null, .null, .null, .null, .null, .null, .int 0, .int 0]) (C := "GuessFences$Cut") (T := gf_T7) (N := 9) hx hb hts lays_7 gf_y7 gf_ty7 hown (hts (.classLink "GuessFences" 45 "GuessFences$Cut") (gv_i2 6 rfl rfl)) (hts (.instantiable "GuessFences$Cut" 9) (gv_i2 7 rfl rfl)) (hts (.initialized "GuessFences$Cut") (gv_i1 8 rfl rfl)) hK hP hD hS hA rfl (by decide +kernel) (Nat.le_of_ble_eq_true rfl) (Nat.le_of_ble_eq_true rfl) (by decide +kernel) (fun q33 H hP hD hS => ?_)
  have hP : va_P (dC, dI) vwCl [(h0, .inr (0, [.ref q1, .ref q2, .ref q10, .ref q21, .ref q26, .null, .null, .int 0, .int 0, .int 0, .int 0, .int 0])), (q1, .inl (c1, 1040, .inl (fun _ => 0))), (q2, .inr (1, [.ref q3, .ref q4, .ref q5, .ref q6, .ref q7, .ref q8, .ref q9, .int 0])), (q3, .inl (c3, 1040, .inl (fun _ => 0))), (q4, .inl (c4, 1040, .inl (fun _ => 0))), (q5, .inl (c5, 1040, .inl (fun _ => 0))), (q6, .inl (c6, 1040, .inl (fun _ => 0))), (q7, .inl (c7, 1040, .inl (fun _ => 0))), (q8, .inl (c8, 1040, .inl (fun _ => 0))), (q9, .inl (c9, 1040, .inl (fun _ => 0))), (q10, .inr (2, [.ref q2, .ref q11, .ref q12, .ref q13, .ref q15, .int 0, .int 16])), (q11, .inl (c11, 32, .inl (fun _ => 0))), (q12, .inl (c12, 256, .inl (fun _ => 0))), (q13, .inr (3, [.ref q14, .int 0])), (q14, .inl (c14, 2048, .inr (.inl (fun _ => 0)))), (q15, .inr (4, [.ref q16, .ref q17, .ref q18, .ref q19, .ref q20, .int 0, .int 0, .int 0])), (q16, .inl (c16, 512, .inl (fun _ => 0))), (q17, .inl (c17, 4096, .inl (fun _ => 0))), (q18, .inl (c18, 16, .inl (fun _ => 0))), (q19, .inl (c19, 16, .inl (fun _ => 0))), (q20, .inl (c20, 16, .inl (fun _ => 0))), (q21, .inr (5, [.ref q2, .ref q22, .ref q23, .ref q24, .ref q25, .int 0])), (q22, .inl (c22, 17680, .inr (.inl (fun _ => 0)))), (q23, .inl (c23, 1040, .inl (fun _ => 0))), (q24, .inl (c24, 1040, .inl (fun _ => 0))), (q25, .inl (c25, 1040, .inl (fun _ => 0))), (q26, .inr (6, [.ref q2, .ref q21, .ref q27, .ref q28, .ref q29, .ref q30, .ref q31, .ref q32, .int 0, .int 0, .int 0])), (q27, .inl (c27, 1040, .inl (fun _ => 0))), (q28, .inl (c28, 1040, .inl (fun _ => 0))), (q29, .inl (c29, 1040, .inl (fun _ => 0))), (q30, .inl (c30, 1040, .inl (fun _ => 0))), (q31, .inl (c31, 17, .inr (.inl (fun _ => 0)))), (q32, .inl (c32, 17, .inr (.inl (fun _ => 0)))), (q33, .inr (7, [.null, .null, .null, .null, .null, .null, .null, .int 0, .int 0]))] H := hP
  have hD : va_D A [(h0, .inr (0, [.ref q1, .ref q2, .ref q10, .ref q21, .ref q26, .null, .null, .int 0, .int 0, .int 0, .int 0, .int 0])), (q1, .inl (c1, 1040, .inl (fun _ => 0))), (q2, .inr (1, [.ref q3, .ref q4, .ref q5, .ref q6, .ref q7, .ref q8, .ref q9, .int 0])), (q3, .inl (c3, 1040, .inl (fun _ => 0))), (q4, .inl (c4, 1040, .inl (fun _ => 0))), (q5, .inl (c5, 1040, .inl (fun _ => 0))), (q6, .inl (c6, 1040, .inl (fun _ => 0))), (q7, .inl (c7, 1040, .inl (fun _ => 0))), (q8, .inl (c8, 1040, .inl (fun _ => 0))), (q9, .inl (c9, 1040, .inl (fun _ => 0))), (q10, .inr (2, [.ref q2, .ref q11, .ref q12, .ref q13, .ref q15, .int 0, .int 16])), (q11, .inl (c11, 32, .inl (fun _ => 0))), (q12, .inl (c12, 256, .inl (fun _ => 0))), (q13, .inr (3, [.ref q14, .int 0])), (q14, .inl (c14, 2048, .inr (.inl (fun _ => 0)))), (q15, .inr (4, [.ref q16, .ref q17, .ref q18, .ref q19, .ref q20, .int 0, .int 0, .int 0])), (q16, .inl (c16, 512, .inl (fun _ => 0))), (q17, .inl (c17, 4096, .inl (fun _ => 0))), (q18, .inl (c18, 16, .inl (fun _ => 0))), (q19, .inl (c19, 16, .inl (fun _ => 0))), (q20, .inl (c20, 16, .inl (fun _ => 0))), (q21, .inr (5, [.ref q2, .ref q22, .ref q23, .ref q24, .ref q25, .int 0])), (q22, .inl (c22, 17680, .inr (.inl (fun _ => 0)))), (q23, .inl (c23, 1040, .inl (fun _ => 0))), (q24, .inl (c24, 1040, .inl (fun _ => 0))), (q25, .inl (c25, 1040, .inl (fun _ => 0))), (q26, .inr (6, [.ref q2, .ref q21, .ref q27, .ref q28, .ref q29, .ref q30, .ref q31, .ref q32, .int 0, .int 0, .int 0])), (q27, .inl (c27, 1040, .inl (fun _ => 0))), (q28, .inl (c28, 1040, .inl (fun _ => 0))), (q29, .inl (c29, 1040, .inl (fun _ => 0))), (q30, .inl (c30, 1040, .inl (fun _ => 0))), (q31, .inl (c31, 17, .inr (.inl (fun _ => 0)))), (q32, .inl (c32, 17, .inr (.inl (fun _ => 0)))), (q33, .inr (7, [.null, .null, .null, .null, .null, .null, .null, .int 0, .int 0]))] := hD
  refine W.widen (k := 33) (n := 40357) (Nat.le_refl _) (Nat.le_refl _) ?_
  refine lv_dup hx hb (by decide +kernel) rfl ?_
  refine lv_aload_n hx hb (show decode prog_1_method_1_code 78 = .ok (.aload_n 0, 1) from by decide +kernel) rfl (lv_at hl 0 rfl) ?_
  refine va_get (D := (dC, dI)) (ci := 0) (v := .ref q2) (C := "GuessFences") (T := gf_T0) (N := 12) hx hb hts lays_0 hown hK hP 0 rfl rfl 1 (by decide) (hts (.fieldLink "GuessFences" 16 "GuessFences" "listing" "LGuessFences$Listing;") (gv_i2 62 rfl rfl)) (fun _ h9 => h9) rfl (by decide +kernel) ?_
  refine lv_aload_n hx hb (show decode prog_1_method_1_code 82 = .ok (.aload_n 0, 1) from by decide +kernel) rfl (lv_at hl 0 rfl) ?_
  refine va_get (D := (dC, dI)) (ci := 0) (v := .ref q21) (C := "GuessFences") (T := gf_T0) (N := 12) hx hb hts lays_0 hown hK hP 0 rfl rfl 3 (by decide) (hts (.fieldLink "GuessFences" 32 "GuessFences" "reach" "LGuessFences$Reach;") (gv_i2 64 rfl rfl)) (fun _ h9 => h9) rfl (by decide +kernel) ?_
  refine lv_aload_n hx hb (show decode prog_1_method_1_code 86 = .ok (.aload_n 0, 1) from by decide +kernel) rfl (lv_at hl 0 rfl) ?_
  refine va_get (D := (dC, dI)) (ci := 0) (v := .ref q26) (C := "GuessFences") (T := gf_T0) (N := 12) hx hb hts lays_0 hown hK hP 0 rfl rfl 4 (by decide) (hts (.fieldLink "GuessFences" 41 "GuessFences" "taint" "LGuessFences$Taint;") (gv_i2 65 rfl rfl)) (fun _ h9 => h9) rfl (by decide +kernel) ?_
  have hPc := hP.sub (ws' := [(q33, .inr (7, [.null, .null, .null, .null, .null, .null, .null, .int 0, .int 0]))]) [33] rfl
  have hDc := hD.sub (ws' := [(q33, .inr (7, [.null, .null, .null, .null, .null, .null, .null, .int 0, .int 0]))]) [33] (by decide) rfl
  have hKc := hK.sub (tys' := []) [] rfl
  have hFc := va_free (wc := [(q33, .inr (7, [.null, .null, .null, .null, .null, .null, .null, .int 0, .int 0]))]) hD hS hA [33] rfl
  refine va_callv (gc_run (As := [.ref q2, .ref q21, .ref q26]) (rest := [.ref q33, .ref h0]) ⟨hx, hb, hml, hown, fun _ h => by cases h⟩ (k_Cut_init l dC dI q33 q2 q21 q26 H.size) hT (gv_i2 10 rfl rfl) (gv_i1 8 rfl rfl) (gv_i2 9 rfl rfl) (Or.inl (gv_i2 8 rfl rfl)) (by decide) (show (parseMethodDescriptor "(LGuessFences$Listing;LGuessFences$Reach;LGuessFences$Taint;)V").map (fun d => d.parameters.length) = some 3 from by decide +kernel) hPc hKc hDc rfl hl.1 rfl (Nat.le_of_ble_eq_true rfl) (by decide +kernel) ⟨(Nat.le_of_ble_eq_true rfl), (Nat.le_of_ble_eq_true rfl)⟩ ⟨(Nat.le_of_ble_eq_true rfl), (Nat.le_of_ble_eq_true rfl)⟩) hS (fun q _ h => hFc q h) hFc (fun u t H1 locs ht hvm _ hB hz1 hk1 hS => ?_)
  obtain ⟨q34, q35, q36, q37, c34, c35, c36, c37, hP1, hK1, hD1⟩ := hB
  rw [ht] at hP1
  have hK1 := va_K.moved hvm.symm hK1
  obtain ⟨hP, hD⟩ := va_join (wr := [(h0, .inr (0, [.ref q1, .ref q2, .ref q10, .ref q21, .ref q26, .null, .null, .int 0, .int 0, .int 0, .int 0, .int 0])), (q1, .inl (c1, 1040, .inl (fun _ => 0))), (q2, .inr (1, [.ref q3, .ref q4, .ref q5, .ref q6, .ref q7, .ref q8, .ref q9, .int 0])), (q3, .inl (c3, 1040, .inl (fun _ => 0))), (q4, .inl (c4, 1040, .inl (fun _ => 0))), (q5, .inl (c5, 1040, .inl (fun _ => 0))), (q6, .inl (c6, 1040, .inl (fun _ => 0))), (q7, .inl (c7, 1040, .inl (fun _ => 0))), (q8, .inl (c8, 1040, .inl (fun _ => 0))), (q9, .inl (c9, 1040, .inl (fun _ => 0))), (q10, .inr (2, [.ref q2, .ref q11, .ref q12, .ref q13, .ref q15, .int 0, .int 16])), (q11, .inl (c11, 32, .inl (fun _ => 0))), (q12, .inl (c12, 256, .inl (fun _ => 0))), (q13, .inr (3, [.ref q14, .int 0])), (q14, .inl (c14, 2048, .inr (.inl (fun _ => 0)))), (q15, .inr (4, [.ref q16, .ref q17, .ref q18, .ref q19, .ref q20, .int 0, .int 0, .int 0])), (q16, .inl (c16, 512, .inl (fun _ => 0))), (q17, .inl (c17, 4096, .inl (fun _ => 0))), (q18, .inl (c18, 16, .inl (fun _ => 0))), (q19, .inl (c19, 16, .inl (fun _ => 0))), (q20, .inl (c20, 16, .inl (fun _ => 0))), (q21, .inr (5, [.ref q2, .ref q22, .ref q23, .ref q24, .ref q25, .int 0])), (q22, .inl (c22, 17680, .inr (.inl (fun _ => 0)))), (q23, .inl (c23, 1040, .inl (fun _ => 0))), (q24, .inl (c24, 1040, .inl (fun _ => 0))), (q25, .inl (c25, 1040, .inl (fun _ => 0))), (q26, .inr (6, [.ref q2, .ref q21, .ref q27, .ref q28, .ref q29, .ref q30, .ref q31, .ref q32, .int 0, .int 0, .int 0])), (q27, .inl (c27, 1040, .inl (fun _ => 0))), (q28, .inl (c28, 1040, .inl (fun _ => 0))), (q29, .inl (c29, 1040, .inl (fun _ => 0))), (q30, .inl (c30, 1040, .inl (fun _ => 0))), (q31, .inl (c31, 17, .inr (.inl (fun _ => 0)))), (q32, .inl (c32, 17, .inr (.inl (fun _ => 0))))]) (w1 := [(q33, .inr (7, [.ref q2, .ref q21, .ref q26, .ref q34, .ref q35, .ref q36, .ref q37, .int 0, .int 0])), (q34, .inl (c34, 1040, .inl (fun _ => 0))), (q35, .inl (c35, 2080, .inl (fun _ => 0))), (q36, .inl (c36, 2080, .inl (fun _ => 0))), (q37, .inl (c37, 17, .inr (.inl (fun _ => 0))))]) hP hD [33] [0, 1, 2, 3, 4, 5, 6, 7, 8, 9, 10, 11, 12, 13, 14, 15, 16, 17, 18, 19, 20, 21, 22, 23, 24, 25, 26, 27, 28, 29, 30, 31, 32] rfl rfl (by decide) (by decide) hk1 hFc hP1 hD1
  have hK := hK.app hK1
  generalize H1 = H at hP hS ⊢
  have hP : va_P (dC, dI) vwCl [(h0, .inr (0, [.ref q1, .ref q2, .ref q10, .ref q21, .ref q26, .null, .null, .int 0, .int 0, .int 0, .int 0, .int 0])), (q1, .inl (c1, 1040, .inl (fun _ => 0))), (q2, .inr (1, [.ref q3, .ref q4, .ref q5, .ref q6, .ref q7, .ref q8, .ref q9, .int 0])), (q3, .inl (c3, 1040, .inl (fun _ => 0))), (q4, .inl (c4, 1040, .inl (fun _ => 0))), (q5, .inl (c5, 1040, .inl (fun _ => 0))), (q6, .inl (c6, 1040, .inl (fun _ => 0))), (q7, .inl (c7, 1040, .inl (fun _ => 0))), (q8, .inl (c8, 1040, .inl (fun _ => 0))), (q9, .inl (c9, 1040, .inl (fun _ => 0))), (q10, .inr (2, [.ref q2, .ref q11, .ref q12, .ref q13, .ref q15, .int 0, .int 16])), (q11, .inl (c11, 32, .inl (fun _ => 0))), (q12, .inl (c12, 256, .inl (fun _ => 0))), (q13, .inr (3, [.ref q14, .int 0])), (q14, .inl (c14, 2048, .inr (.inl (fun _ => 0)))), (q15, .inr (4, [.ref q16, .ref q17, .ref q18, .ref q19, .ref q20, .int 0, .int 0, .int 0])), (q16, .inl (c16, 512, .inl (fun _ => 0))), (q17, .inl (c17, 4096, .inl (fun _ => 0))), (q18, .inl (c18, 16, .inl (fun _ => 0))), (q19, .inl (c19, 16, .inl (fun _ => 0))), (q20, .inl (c20, 16, .inl (fun _ => 0))), (q21, .inr (5, [.ref q2, .ref q22, .ref q23, .ref q24, .ref q25, .int 0])), (q22, .inl (c22, 17680, .inr (.inl (fun _ => 0)))), (q23, .inl (c23, 1040, .inl (fun _ => 0))), (q24, .inl (c24, 1040, .inl (fun _ => 0))), (q25, .inl (c25, 1040, .inl (fun _ => 0))), (q26, .inr (6, [.ref q2, .ref q21, .ref q27, .ref q28, .ref q29, .ref q30, .ref q31, .ref q32, .int 0, .int 0, .int 0])), (q27, .inl (c27, 1040, .inl (fun _ => 0))), (q28, .inl (c28, 1040, .inl (fun _ => 0))), (q29, .inl (c29, 1040, .inl (fun _ => 0))), (q30, .inl (c30, 1040, .inl (fun _ => 0))), (q31, .inl (c31, 17, .inr (.inl (fun _ => 0)))), (q32, .inl (c32, 17, .inr (.inl (fun _ => 0)))), (q33, .inr (7, [.ref q2, .ref q21, .ref q26, .ref q34, .ref q35, .ref q36, .ref q37, .int 0, .int 0])), (q34, .inl (c34, 1040, .inl (fun _ => 0))), (q35, .inl (c35, 2080, .inl (fun _ => 0))), (q36, .inl (c36, 2080, .inl (fun _ => 0))), (q37, .inl (c37, 17, .inr (.inl (fun _ => 0))))] H := hP
  have hD : va_D A [(h0, .inr (0, [.ref q1, .ref q2, .ref q10, .ref q21, .ref q26, .null, .null, .int 0, .int 0, .int 0, .int 0, .int 0])), (q1, .inl (c1, 1040, .inl (fun _ => 0))), (q2, .inr (1, [.ref q3, .ref q4, .ref q5, .ref q6, .ref q7, .ref q8, .ref q9, .int 0])), (q3, .inl (c3, 1040, .inl (fun _ => 0))), (q4, .inl (c4, 1040, .inl (fun _ => 0))), (q5, .inl (c5, 1040, .inl (fun _ => 0))), (q6, .inl (c6, 1040, .inl (fun _ => 0))), (q7, .inl (c7, 1040, .inl (fun _ => 0))), (q8, .inl (c8, 1040, .inl (fun _ => 0))), (q9, .inl (c9, 1040, .inl (fun _ => 0))), (q10, .inr (2, [.ref q2, .ref q11, .ref q12, .ref q13, .ref q15, .int 0, .int 16])), (q11, .inl (c11, 32, .inl (fun _ => 0))), (q12, .inl (c12, 256, .inl (fun _ => 0))), (q13, .inr (3, [.ref q14, .int 0])), (q14, .inl (c14, 2048, .inr (.inl (fun _ => 0)))), (q15, .inr (4, [.ref q16, .ref q17, .ref q18, .ref q19, .ref q20, .int 0, .int 0, .int 0])), (q16, .inl (c16, 512, .inl (fun _ => 0))), (q17, .inl (c17, 4096, .inl (fun _ => 0))), (q18, .inl (c18, 16, .inl (fun _ => 0))), (q19, .inl (c19, 16, .inl (fun _ => 0))), (q20, .inl (c20, 16, .inl (fun _ => 0))), (q21, .inr (5, [.ref q2, .ref q22, .ref q23, .ref q24, .ref q25, .int 0])), (q22, .inl (c22, 17680, .inr (.inl (fun _ => 0)))), (q23, .inl (c23, 1040, .inl (fun _ => 0))), (q24, .inl (c24, 1040, .inl (fun _ => 0))), (q25, .inl (c25, 1040, .inl (fun _ => 0))), (q26, .inr (6, [.ref q2, .ref q21, .ref q27, .ref q28, .ref q29, .ref q30, .ref q31, .ref q32, .int 0, .int 0, .int 0])), (q27, .inl (c27, 1040, .inl (fun _ => 0))), (q28, .inl (c28, 1040, .inl (fun _ => 0))), (q29, .inl (c29, 1040, .inl (fun _ => 0))), (q30, .inl (c30, 1040, .inl (fun _ => 0))), (q31, .inl (c31, 17, .inr (.inl (fun _ => 0)))), (q32, .inl (c32, 17, .inr (.inl (fun _ => 0)))), (q33, .inr (7, [.ref q2, .ref q21, .ref q26, .ref q34, .ref q35, .ref q36, .ref q37, .int 0, .int 0])), (q34, .inl (c34, 1040, .inl (fun _ => 0))), (q35, .inl (c35, 2080, .inl (fun _ => 0))), (q36, .inl (c36, 2080, .inl (fun _ => 0))), (q37, .inl (c37, 17, .inr (.inl (fun _ => 0))))] := hD
  have hK : va_K (dC, dI) vwCl [(c1, .int), (c3, .int), (c4, .int), (c5, .int), (c6, .int), (c7, .int), (c8, .int), (c9, .int), (c11, .int), (c12, .byte), (c14, .long), (c16, .int), (c17, .byte), (c18, .int), (c19, .int), (c20, .int), (c22, .long), (c23, .int), (c24, .int), (c25, .int), (c27, .int), (c28, .int), (c29, .int), (c30, .boolean), (c31, .long), (c32, .long), (c34, .int), (c35, .int), (c36, .int), (c37, .long)] s := hK
  refine W.widen (k := 37) (n := 45574) (Nat.le_refl _) (Nat.le_refl _) ?_
  refine va_putF (D := (dC, dI)) (ci := 0) (v := .ref q33) (ty := .object "GuessFences$Cut") (C := "GuessFences") (T := gf_T0) (N := 12) hx hb hts lays_0 gf_y0 gf_ty0 gf_nm0 hown hK hP hD hS 0 rfl rfl 5 (by decide) (hts (.fieldLink "GuessFences" 50 "GuessFences" "smallestCut" "LGuessFences$Cut;") (gv_i2 66 rfl rfl)) (fun _ h9 => h9) rfl hin rfl (by decide +kernel) rfl rfl (Nat.le_of_ble_eq_true rfl) (by decide +kernel) (fun H locs hP hD hS => ?_)
  have hP : va_P (dC, dI) vwCl [(h0, .inr (0, [.ref q1, .ref q2, .ref q10, .ref q21, .ref q26, .ref q33, .null, .int 0, .int 0, .int 0, .int 0, .int 0])), (q1, .inl (c1, 1040, .inl (fun _ => 0))), (q2, .inr (1, [.ref q3, .ref q4, .ref q5, .ref q6, .ref q7, .ref q8, .ref q9, .int 0])), (q3, .inl (c3, 1040, .inl (fun _ => 0))), (q4, .inl (c4, 1040, .inl (fun _ => 0))), (q5, .inl (c5, 1040, .inl (fun _ => 0))), (q6, .inl (c6, 1040, .inl (fun _ => 0))), (q7, .inl (c7, 1040, .inl (fun _ => 0))), (q8, .inl (c8, 1040, .inl (fun _ => 0))), (q9, .inl (c9, 1040, .inl (fun _ => 0))), (q10, .inr (2, [.ref q2, .ref q11, .ref q12, .ref q13, .ref q15, .int 0, .int 16])), (q11, .inl (c11, 32, .inl (fun _ => 0))), (q12, .inl (c12, 256, .inl (fun _ => 0))), (q13, .inr (3, [.ref q14, .int 0])), (q14, .inl (c14, 2048, .inr (.inl (fun _ => 0)))), (q15, .inr (4, [.ref q16, .ref q17, .ref q18, .ref q19, .ref q20, .int 0, .int 0, .int 0])), (q16, .inl (c16, 512, .inl (fun _ => 0))), (q17, .inl (c17, 4096, .inl (fun _ => 0))), (q18, .inl (c18, 16, .inl (fun _ => 0))), (q19, .inl (c19, 16, .inl (fun _ => 0))), (q20, .inl (c20, 16, .inl (fun _ => 0))), (q21, .inr (5, [.ref q2, .ref q22, .ref q23, .ref q24, .ref q25, .int 0])), (q22, .inl (c22, 17680, .inr (.inl (fun _ => 0)))), (q23, .inl (c23, 1040, .inl (fun _ => 0))), (q24, .inl (c24, 1040, .inl (fun _ => 0))), (q25, .inl (c25, 1040, .inl (fun _ => 0))), (q26, .inr (6, [.ref q2, .ref q21, .ref q27, .ref q28, .ref q29, .ref q30, .ref q31, .ref q32, .int 0, .int 0, .int 0])), (q27, .inl (c27, 1040, .inl (fun _ => 0))), (q28, .inl (c28, 1040, .inl (fun _ => 0))), (q29, .inl (c29, 1040, .inl (fun _ => 0))), (q30, .inl (c30, 1040, .inl (fun _ => 0))), (q31, .inl (c31, 17, .inr (.inl (fun _ => 0)))), (q32, .inl (c32, 17, .inr (.inl (fun _ => 0)))), (q33, .inr (7, [.ref q2, .ref q21, .ref q26, .ref q34, .ref q35, .ref q36, .ref q37, .int 0, .int 0])), (q34, .inl (c34, 1040, .inl (fun _ => 0))), (q35, .inl (c35, 2080, .inl (fun _ => 0))), (q36, .inl (c36, 2080, .inl (fun _ => 0))), (q37, .inl (c37, 17, .inr (.inl (fun _ => 0))))] H := hP
  have hD : va_D A [(h0, .inr (0, [.ref q1, .ref q2, .ref q10, .ref q21, .ref q26, .ref q33, .null, .int 0, .int 0, .int 0, .int 0, .int 0])), (q1, .inl (c1, 1040, .inl (fun _ => 0))), (q2, .inr (1, [.ref q3, .ref q4, .ref q5, .ref q6, .ref q7, .ref q8, .ref q9, .int 0])), (q3, .inl (c3, 1040, .inl (fun _ => 0))), (q4, .inl (c4, 1040, .inl (fun _ => 0))), (q5, .inl (c5, 1040, .inl (fun _ => 0))), (q6, .inl (c6, 1040, .inl (fun _ => 0))), (q7, .inl (c7, 1040, .inl (fun _ => 0))), (q8, .inl (c8, 1040, .inl (fun _ => 0))), (q9, .inl (c9, 1040, .inl (fun _ => 0))), (q10, .inr (2, [.ref q2, .ref q11, .ref q12, .ref q13, .ref q15, .int 0, .int 16])), (q11, .inl (c11, 32, .inl (fun _ => 0))), (q12, .inl (c12, 256, .inl (fun _ => 0))), (q13, .inr (3, [.ref q14, .int 0])), (q14, .inl (c14, 2048, .inr (.inl (fun _ => 0)))), (q15, .inr (4, [.ref q16, .ref q17, .ref q18, .ref q19, .ref q20, .int 0, .int 0, .int 0])), (q16, .inl (c16, 512, .inl (fun _ => 0))), (q17, .inl (c17, 4096, .inl (fun _ => 0))), (q18, .inl (c18, 16, .inl (fun _ => 0))), (q19, .inl (c19, 16, .inl (fun _ => 0))), (q20, .inl (c20, 16, .inl (fun _ => 0))), (q21, .inr (5, [.ref q2, .ref q22, .ref q23, .ref q24, .ref q25, .int 0])), (q22, .inl (c22, 17680, .inr (.inl (fun _ => 0)))), (q23, .inl (c23, 1040, .inl (fun _ => 0))), (q24, .inl (c24, 1040, .inl (fun _ => 0))), (q25, .inl (c25, 1040, .inl (fun _ => 0))), (q26, .inr (6, [.ref q2, .ref q21, .ref q27, .ref q28, .ref q29, .ref q30, .ref q31, .ref q32, .int 0, .int 0, .int 0])), (q27, .inl (c27, 1040, .inl (fun _ => 0))), (q28, .inl (c28, 1040, .inl (fun _ => 0))), (q29, .inl (c29, 1040, .inl (fun _ => 0))), (q30, .inl (c30, 1040, .inl (fun _ => 0))), (q31, .inl (c31, 17, .inr (.inl (fun _ => 0)))), (q32, .inl (c32, 17, .inr (.inl (fun _ => 0)))), (q33, .inr (7, [.ref q2, .ref q21, .ref q26, .ref q34, .ref q35, .ref q36, .ref q37, .int 0, .int 0])), (q34, .inl (c34, 1040, .inl (fun _ => 0))), (q35, .inl (c35, 2080, .inl (fun _ => 0))), (q36, .inl (c36, 2080, .inl (fun _ => 0))), (q37, .inl (c37, 17, .inr (.inl (fun _ => 0))))] := hD
  refine lv_aload_n hx hb (show decode prog_1_method_1_code 96 = .ok (.aload_n 0, 1) from by decide +kernel) rfl (lv_at hl 0 rfl) ?_
  refine va_new (ci := 8) (fs := [.null, .null, .null, .null]) (C := "GuessFences$Rewriter") (T := gf_T8) (N := 4) hx hb hts lays_8 gf_y8 gf_ty8 hown (hts (.classLink "GuessFences" 54 "GuessFences$Rewriter") (gv_i2 41 rfl rfl)) (hts (.instantiable "GuessFences$Rewriter" 4) (gv_i2 42 rfl rfl)) (hts (.initialized "GuessFences$Rewriter") (gv_i1 9 rfl rfl)) hK hP hD hS hA rfl (by decide +kernel) (Nat.le_of_ble_eq_true rfl) (Nat.le_of_ble_eq_true rfl) (by decide +kernel) (fun q38 H hP hD hS => ?_)
  have hP : va_P (dC, dI) vwCl [(h0, .inr (0, [.ref q1, .ref q2, .ref q10, .ref q21, .ref q26, .ref q33, .null, .int 0, .int 0, .int 0, .int 0, .int 0])), (q1, .inl (c1, 1040, .inl (fun _ => 0))), (q2, .inr (1, [.ref q3, .ref q4, .ref q5, .ref q6, .ref q7, .ref q8, .ref q9, .int 0])), (q3, .inl (c3, 1040, .inl (fun _ => 0))), (q4, .inl (c4, 1040, .inl (fun _ => 0))), (q5, .inl (c5, 1040, .inl (fun _ => 0))), (q6, .inl (c6, 1040, .inl (fun _ => 0))), (q7, .inl (c7, 1040, .inl (fun _ => 0))), (q8, .inl (c8, 1040, .inl (fun _ => 0))), (q9, .inl (c9, 1040, .inl (fun _ => 0))), (q10, .inr (2, [.ref q2, .ref q11, .ref q12, .ref q13, .ref q15, .int 0, .int 16])), (q11, .inl (c11, 32, .inl (fun _ => 0))), (q12, .inl (c12, 256, .inl (fun _ => 0))), (q13, .inr (3, [.ref q14, .int 0])), (q14, .inl (c14, 2048, .inr (.inl (fun _ => 0)))), (q15, .inr (4, [.ref q16, .ref q17, .ref q18, .ref q19, .ref q20, .int 0, .int 0, .int 0])), (q16, .inl (c16, 512, .inl (fun _ => 0))), (q17, .inl (c17, 4096, .inl (fun _ => 0))), (q18, .inl (c18, 16, .inl (fun _ => 0))), (q19, .inl (c19, 16, .inl (fun _ => 0))), (q20, .inl (c20, 16, .inl (fun _ => 0))), (q21, .inr (5, [.ref q2, .ref q22, .ref q23, .ref q24, .ref q25, .int 0])), (q22, .inl (c22, 17680, .inr (.inl (fun _ => 0)))), (q23, .inl (c23, 1040, .inl (fun _ => 0))), (q24, .inl (c24, 1040, .inl (fun _ => 0))), (q25, .inl (c25, 1040, .inl (fun _ => 0))), (q26, .inr (6, [.ref q2, .ref q21, .ref q27, .ref q28, .ref q29, .ref q30, .ref q31, .ref q32, .int 0, .int 0, .int 0])), (q27, .inl (c27, 1040, .inl (fun _ => 0))), (q28, .inl (c28, 1040, .inl (fun _ => 0))), (q29, .inl (c29, 1040, .inl (fun _ => 0))), (q30, .inl (c30, 1040, .inl (fun _ => 0))), (q31, .inl (c31, 17, .inr (.inl (fun _ => 0)))), (q32, .inl (c32, 17, .inr (.inl (fun _ => 0)))), (q33, .inr (7, [.ref q2, .ref q21, .ref q26, .ref q34, .ref q35, .ref q36, .ref q37, .int 0, .int 0])), (q34, .inl (c34, 1040, .inl (fun _ => 0))), (q35, .inl (c35, 2080, .inl (fun _ => 0))), (q36, .inl (c36, 2080, .inl (fun _ => 0))), (q37, .inl (c37, 17, .inr (.inl (fun _ => 0)))), (q38, .inr (8, [.null, .null, .null, .null]))] H := hP
  have hD : va_D A [(h0, .inr (0, [.ref q1, .ref q2, .ref q10, .ref q21, .ref q26, .ref q33, .null, .int 0, .int 0, .int 0, .int 0, .int 0])), (q1, .inl (c1, 1040, .inl (fun _ => 0))), (q2, .inr (1, [.ref q3, .ref q4, .ref q5, .ref q6, .ref q7, .ref q8, .ref q9, .int 0])), (q3, .inl (c3, 1040, .inl (fun _ => 0))), (q4, .inl (c4, 1040, .inl (fun _ => 0))), (q5, .inl (c5, 1040, .inl (fun _ => 0))), (q6, .inl (c6, 1040, .inl (fun _ => 0))), (q7, .inl (c7, 1040, .inl (fun _ => 0))), (q8, .inl (c8, 1040, .inl (fun _ => 0))), (q9, .inl (c9, 1040, .inl (fun _ => 0))), (q10, .inr (2, [.ref q2, .ref q11, .ref q12, .ref q13, .ref q15, .int 0, .int 16])), (q11, .inl (c11, 32, .inl (fun _ => 0))), (q12, .inl (c12, 256, .inl (fun _ => 0))), (q13, .inr (3, [.ref q14, .int 0])), (q14, .inl (c14, 2048, .inr (.inl (fun _ => 0)))), (q15, .inr (4, [.ref q16, .ref q17, .ref q18, .ref q19, .ref q20, .int 0, .int 0, .int 0])), (q16, .inl (c16, 512, .inl (fun _ => 0))), (q17, .inl (c17, 4096, .inl (fun _ => 0))), (q18, .inl (c18, 16, .inl (fun _ => 0))), (q19, .inl (c19, 16, .inl (fun _ => 0))), (q20, .inl (c20, 16, .inl (fun _ => 0))), (q21, .inr (5, [.ref q2, .ref q22, .ref q23, .ref q24, .ref q25, .int 0])), (q22, .inl (c22, 17680, .inr (.inl (fun _ => 0)))), (q23, .inl (c23, 1040, .inl (fun _ => 0))), (q24, .inl (c24, 1040, .inl (fun _ => 0))), (q25, .inl (c25, 1040, .inl (fun _ => 0))), (q26, .inr (6, [.ref q2, .ref q21, .ref q27, .ref q28, .ref q29, .ref q30, .ref q31, .ref q32, .int 0, .int 0, .int 0])), (q27, .inl (c27, 1040, .inl (fun _ => 0))), (q28, .inl (c28, 1040, .inl (fun _ => 0))), (q29, .inl (c29, 1040, .inl (fun _ => 0))), (q30, .inl (c30, 1040, .inl (fun _ => 0))), (q31, .inl (c31, 17, .inr (.inl (fun _ => 0)))), (q32, .inl (c32, 17, .inr (.inl (fun _ => 0)))), (q33, .inr (7, [.ref q2, .ref q21, .ref q26, .ref q34, .ref q35, .ref q36, .ref q37, .int 0, .int 0])), (q34, .inl (c34, 1040, .inl (fun _ => 0))), (q35, .inl (c35, 2080, .inl (fun _ => 0))), (q36, .inl (c36, 2080, .inl (fun _ => 0))), (q37, .inl (c37, 17, .inr (.inl (fun _ => 0)))), (q38, .inr (8, [.null, .null, .null, .null]))] := hD
  refine W.widen (k := 38) (n := 45578) (Nat.le_refl _) (Nat.le_refl _) ?_
  refine lv_dup hx hb (by decide +kernel) rfl ?_
  refine lv_aload_n hx hb (show decode prog_1_method_1_code 101 = .ok (.aload_n 0, 1) from by decide +kernel) rfl (lv_at hl 0 rfl) ?_
  refine va_get (D := (dC, dI)) (ci := 0) (v := .ref q2) (C := "GuessFences") (T := gf_T0) (N := 12) hx hb hts lays_0 hown hK hP 0 rfl rfl 1 (by decide) (hts (.fieldLink "GuessFences" 16 "GuessFences" "listing" "LGuessFences$Listing;") (gv_i2 62 rfl rfl)) (fun _ h9 => h9) rfl (by decide +kernel) ?_
  refine lv_aload_n hx hb (show decode prog_1_method_1_code 105 = .ok (.aload_n 0, 1) from by decide +kernel) rfl (lv_at hl 0 rfl) ?_
  refine va_get (D := (dC, dI)) (ci := 0) (v := .ref q26) (C := "GuessFences") (T := gf_T0) (N := 12) hx hb hts lays_0 hown hK hP 0 rfl rfl 4 (by decide) (hts (.fieldLink "GuessFences" 41 "GuessFences" "taint" "LGuessFences$Taint;") (gv_i2 65 rfl rfl)) (fun _ h9 => h9) rfl (by decide +kernel) ?_
  have hPc := hP.sub (ws' := [(q38, .inr (8, [.null, .null, .null, .null]))]) [38] rfl
  have hDc := hD.sub (ws' := [(q38, .inr (8, [.null, .null, .null, .null]))]) [38] (by decide) rfl
  have hKc := hK.sub (tys' := []) [] rfl
  have hFc := va_free (wc := [(q38, .inr (8, [.null, .null, .null, .null]))]) hD hS hA [38] rfl
  refine va_callv (gc_run (As := [.ref q2, .ref q26]) (rest := [.ref q38, .ref h0]) ⟨hx, hb, hml, hown, fun _ h => by cases h⟩ (k_Rewriter_init l dC dI q38 q2 q26 H.size) hT (gv_i2 45 rfl rfl) (gv_i1 9 rfl rfl) (gv_i2 44 rfl rfl) (Or.inl (gv_i2 43 rfl rfl)) (by decide) (show (parseMethodDescriptor "(LGuessFences$Listing;LGuessFences$Taint;)V").map (fun d => d.parameters.length) = some 2 from by decide +kernel) hPc hKc hDc rfl hl.1 rfl (Nat.le_of_ble_eq_true rfl) (by decide +kernel) ⟨(Nat.le_of_ble_eq_true rfl), (Nat.le_of_ble_eq_true rfl)⟩ ⟨(Nat.le_of_ble_eq_true rfl), (Nat.le_of_ble_eq_true rfl)⟩) hS (fun q _ h => hFc q h) hFc (fun u t H1 locs ht hvm _ hB hz1 hk1 hS => ?_)
  obtain ⟨q39, q40, c39, c40, hP1, hK1, hD1⟩ := hB
  rw [ht] at hP1
  have hK1 := va_K.moved hvm.symm hK1
  obtain ⟨hP, hD⟩ := va_join (wr := [(h0, .inr (0, [.ref q1, .ref q2, .ref q10, .ref q21, .ref q26, .ref q33, .null, .int 0, .int 0, .int 0, .int 0, .int 0])), (q1, .inl (c1, 1040, .inl (fun _ => 0))), (q2, .inr (1, [.ref q3, .ref q4, .ref q5, .ref q6, .ref q7, .ref q8, .ref q9, .int 0])), (q3, .inl (c3, 1040, .inl (fun _ => 0))), (q4, .inl (c4, 1040, .inl (fun _ => 0))), (q5, .inl (c5, 1040, .inl (fun _ => 0))), (q6, .inl (c6, 1040, .inl (fun _ => 0))), (q7, .inl (c7, 1040, .inl (fun _ => 0))), (q8, .inl (c8, 1040, .inl (fun _ => 0))), (q9, .inl (c9, 1040, .inl (fun _ => 0))), (q10, .inr (2, [.ref q2, .ref q11, .ref q12, .ref q13, .ref q15, .int 0, .int 16])), (q11, .inl (c11, 32, .inl (fun _ => 0))), (q12, .inl (c12, 256, .inl (fun _ => 0))), (q13, .inr (3, [.ref q14, .int 0])), (q14, .inl (c14, 2048, .inr (.inl (fun _ => 0)))), (q15, .inr (4, [.ref q16, .ref q17, .ref q18, .ref q19, .ref q20, .int 0, .int 0, .int 0])), (q16, .inl (c16, 512, .inl (fun _ => 0))), (q17, .inl (c17, 4096, .inl (fun _ => 0))), (q18, .inl (c18, 16, .inl (fun _ => 0))), (q19, .inl (c19, 16, .inl (fun _ => 0))), (q20, .inl (c20, 16, .inl (fun _ => 0))), (q21, .inr (5, [.ref q2, .ref q22, .ref q23, .ref q24, .ref q25, .int 0])), (q22, .inl (c22, 17680, .inr (.inl (fun _ => 0)))), (q23, .inl (c23, 1040, .inl (fun _ => 0))), (q24, .inl (c24, 1040, .inl (fun _ => 0))), (q25, .inl (c25, 1040, .inl (fun _ => 0))), (q26, .inr (6, [.ref q2, .ref q21, .ref q27, .ref q28, .ref q29, .ref q30, .ref q31, .ref q32, .int 0, .int 0, .int 0])), (q27, .inl (c27, 1040, .inl (fun _ => 0))), (q28, .inl (c28, 1040, .inl (fun _ => 0))), (q29, .inl (c29, 1040, .inl (fun _ => 0))), (q30, .inl (c30, 1040, .inl (fun _ => 0))), (q31, .inl (c31, 17, .inr (.inl (fun _ => 0)))), (q32, .inl (c32, 17, .inr (.inl (fun _ => 0)))), (q33, .inr (7, [.ref q2, .ref q21, .ref q26, .ref q34, .ref q35, .ref q36, .ref q37, .int 0, .int 0])), (q34, .inl (c34, 1040, .inl (fun _ => 0))), (q35, .inl (c35, 2080, .inl (fun _ => 0))), (q36, .inl (c36, 2080, .inl (fun _ => 0))), (q37, .inl (c37, 17, .inr (.inl (fun _ => 0))))]) (w1 := [(q38, .inr (8, [.ref q2, .ref q26, .ref q39, .ref q40])), (q39, .inl (c39, 1041, .inl (fun _ => 0))), (q40, .inl (c40, 1040, .inl (fun _ => 0)))]) hP hD [38] [0, 1, 2, 3, 4, 5, 6, 7, 8, 9, 10, 11, 12, 13, 14, 15, 16, 17, 18, 19, 20, 21, 22, 23, 24, 25, 26, 27, 28, 29, 30, 31, 32, 33, 34, 35, 36, 37] rfl rfl (by decide) (by decide) hk1 hFc hP1 hD1
  have hK := hK.app hK1
  generalize H1 = H at hP hS ⊢
  have hP : va_P (dC, dI) vwCl [(h0, .inr (0, [.ref q1, .ref q2, .ref q10, .ref q21, .ref q26, .ref q33, .null, .int 0, .int 0, .int 0, .int 0, .int 0])), (q1, .inl (c1, 1040, .inl (fun _ => 0))), (q2, .inr (1, [.ref q3, .ref q4, .ref q5, .ref q6, .ref q7, .ref q8, .ref q9, .int 0])), (q3, .inl (c3, 1040, .inl (fun _ => 0))), (q4, .inl (c4, 1040, .inl (fun _ => 0))), (q5, .inl (c5, 1040, .inl (fun _ => 0))), (q6, .inl (c6, 1040, .inl (fun _ => 0))), (q7, .inl (c7, 1040, .inl (fun _ => 0))), (q8, .inl (c8, 1040, .inl (fun _ => 0))), (q9, .inl (c9, 1040, .inl (fun _ => 0))), (q10, .inr (2, [.ref q2, .ref q11, .ref q12, .ref q13, .ref q15, .int 0, .int 16])), (q11, .inl (c11, 32, .inl (fun _ => 0))), (q12, .inl (c12, 256, .inl (fun _ => 0))), (q13, .inr (3, [.ref q14, .int 0])), (q14, .inl (c14, 2048, .inr (.inl (fun _ => 0)))), (q15, .inr (4, [.ref q16, .ref q17, .ref q18, .ref q19, .ref q20, .int 0, .int 0, .int 0])), (q16, .inl (c16, 512, .inl (fun _ => 0))), (q17, .inl (c17, 4096, .inl (fun _ => 0))), (q18, .inl (c18, 16, .inl (fun _ => 0))), (q19, .inl (c19, 16, .inl (fun _ => 0))), (q20, .inl (c20, 16, .inl (fun _ => 0))), (q21, .inr (5, [.ref q2, .ref q22, .ref q23, .ref q24, .ref q25, .int 0])), (q22, .inl (c22, 17680, .inr (.inl (fun _ => 0)))), (q23, .inl (c23, 1040, .inl (fun _ => 0))), (q24, .inl (c24, 1040, .inl (fun _ => 0))), (q25, .inl (c25, 1040, .inl (fun _ => 0))), (q26, .inr (6, [.ref q2, .ref q21, .ref q27, .ref q28, .ref q29, .ref q30, .ref q31, .ref q32, .int 0, .int 0, .int 0])), (q27, .inl (c27, 1040, .inl (fun _ => 0))), (q28, .inl (c28, 1040, .inl (fun _ => 0))), (q29, .inl (c29, 1040, .inl (fun _ => 0))), (q30, .inl (c30, 1040, .inl (fun _ => 0))), (q31, .inl (c31, 17, .inr (.inl (fun _ => 0)))), (q32, .inl (c32, 17, .inr (.inl (fun _ => 0)))), (q33, .inr (7, [.ref q2, .ref q21, .ref q26, .ref q34, .ref q35, .ref q36, .ref q37, .int 0, .int 0])), (q34, .inl (c34, 1040, .inl (fun _ => 0))), (q35, .inl (c35, 2080, .inl (fun _ => 0))), (q36, .inl (c36, 2080, .inl (fun _ => 0))), (q37, .inl (c37, 17, .inr (.inl (fun _ => 0)))), (q38, .inr (8, [.ref q2, .ref q26, .ref q39, .ref q40])), (q39, .inl (c39, 1041, .inl (fun _ => 0))), (q40, .inl (c40, 1040, .inl (fun _ => 0)))] H := hP
  have hD : va_D A [(h0, .inr (0, [.ref q1, .ref q2, .ref q10, .ref q21, .ref q26, .ref q33, .null, .int 0, .int 0, .int 0, .int 0, .int 0])), (q1, .inl (c1, 1040, .inl (fun _ => 0))), (q2, .inr (1, [.ref q3, .ref q4, .ref q5, .ref q6, .ref q7, .ref q8, .ref q9, .int 0])), (q3, .inl (c3, 1040, .inl (fun _ => 0))), (q4, .inl (c4, 1040, .inl (fun _ => 0))), (q5, .inl (c5, 1040, .inl (fun _ => 0))), (q6, .inl (c6, 1040, .inl (fun _ => 0))), (q7, .inl (c7, 1040, .inl (fun _ => 0))), (q8, .inl (c8, 1040, .inl (fun _ => 0))), (q9, .inl (c9, 1040, .inl (fun _ => 0))), (q10, .inr (2, [.ref q2, .ref q11, .ref q12, .ref q13, .ref q15, .int 0, .int 16])), (q11, .inl (c11, 32, .inl (fun _ => 0))), (q12, .inl (c12, 256, .inl (fun _ => 0))), (q13, .inr (3, [.ref q14, .int 0])), (q14, .inl (c14, 2048, .inr (.inl (fun _ => 0)))), (q15, .inr (4, [.ref q16, .ref q17, .ref q18, .ref q19, .ref q20, .int 0, .int 0, .int 0])), (q16, .inl (c16, 512, .inl (fun _ => 0))), (q17, .inl (c17, 4096, .inl (fun _ => 0))), (q18, .inl (c18, 16, .inl (fun _ => 0))), (q19, .inl (c19, 16, .inl (fun _ => 0))), (q20, .inl (c20, 16, .inl (fun _ => 0))), (q21, .inr (5, [.ref q2, .ref q22, .ref q23, .ref q24, .ref q25, .int 0])), (q22, .inl (c22, 17680, .inr (.inl (fun _ => 0)))), (q23, .inl (c23, 1040, .inl (fun _ => 0))), (q24, .inl (c24, 1040, .inl (fun _ => 0))), (q25, .inl (c25, 1040, .inl (fun _ => 0))), (q26, .inr (6, [.ref q2, .ref q21, .ref q27, .ref q28, .ref q29, .ref q30, .ref q31, .ref q32, .int 0, .int 0, .int 0])), (q27, .inl (c27, 1040, .inl (fun _ => 0))), (q28, .inl (c28, 1040, .inl (fun _ => 0))), (q29, .inl (c29, 1040, .inl (fun _ => 0))), (q30, .inl (c30, 1040, .inl (fun _ => 0))), (q31, .inl (c31, 17, .inr (.inl (fun _ => 0)))), (q32, .inl (c32, 17, .inr (.inl (fun _ => 0)))), (q33, .inr (7, [.ref q2, .ref q21, .ref q26, .ref q34, .ref q35, .ref q36, .ref q37, .int 0, .int 0])), (q34, .inl (c34, 1040, .inl (fun _ => 0))), (q35, .inl (c35, 2080, .inl (fun _ => 0))), (q36, .inl (c36, 2080, .inl (fun _ => 0))), (q37, .inl (c37, 17, .inr (.inl (fun _ => 0)))), (q38, .inr (8, [.ref q2, .ref q26, .ref q39, .ref q40])), (q39, .inl (c39, 1041, .inl (fun _ => 0))), (q40, .inl (c40, 1040, .inl (fun _ => 0)))] := hD
  have hK : va_K (dC, dI) vwCl [(c1, .int), (c3, .int), (c4, .int), (c5, .int), (c6, .int), (c7, .int), (c8, .int), (c9, .int), (c11, .int), (c12, .byte), (c14, .long), (c16, .int), (c17, .byte), (c18, .int), (c19, .int), (c20, .int), (c22, .long), (c23, .int), (c24, .int), (c25, .int), (c27, .int), (c28, .int), (c29, .int), (c30, .boolean), (c31, .long), (c32, .long), (c34, .int), (c35, .int), (c36, .int), (c37, .long), (c39, .int), (c40, .int)] s := hK
  refine W.widen (k := 40) (n := 47659) (Nat.le_refl _) (Nat.le_refl _) ?_
  refine va_putF (D := (dC, dI)) (ci := 0) (v := .ref q38) (ty := .object "GuessFences$Rewriter") (C := "GuessFences") (T := gf_T0) (N := 12) hx hb hts lays_0 gf_y0 gf_ty0 gf_nm0 hown hK hP hD hS 0 rfl rfl 6 (by decide) (hts (.fieldLink "GuessFences" 59 "GuessFences" "rewriter" "LGuessFences$Rewriter;") (gv_i2 67 rfl rfl)) (fun _ h9 => h9) rfl hin rfl (by decide +kernel) rfl rfl (Nat.le_of_ble_eq_true rfl) (by decide +kernel) (fun H locs hP hD hS => ?_)
  have hP : va_P (dC, dI) vwCl [(h0, .inr (0, [.ref q1, .ref q2, .ref q10, .ref q21, .ref q26, .ref q33, .ref q38, .int 0, .int 0, .int 0, .int 0, .int 0])), (q1, .inl (c1, 1040, .inl (fun _ => 0))), (q2, .inr (1, [.ref q3, .ref q4, .ref q5, .ref q6, .ref q7, .ref q8, .ref q9, .int 0])), (q3, .inl (c3, 1040, .inl (fun _ => 0))), (q4, .inl (c4, 1040, .inl (fun _ => 0))), (q5, .inl (c5, 1040, .inl (fun _ => 0))), (q6, .inl (c6, 1040, .inl (fun _ => 0))), (q7, .inl (c7, 1040, .inl (fun _ => 0))), (q8, .inl (c8, 1040, .inl (fun _ => 0))), (q9, .inl (c9, 1040, .inl (fun _ => 0))), (q10, .inr (2, [.ref q2, .ref q11, .ref q12, .ref q13, .ref q15, .int 0, .int 16])), (q11, .inl (c11, 32, .inl (fun _ => 0))), (q12, .inl (c12, 256, .inl (fun _ => 0))), (q13, .inr (3, [.ref q14, .int 0])), (q14, .inl (c14, 2048, .inr (.inl (fun _ => 0)))), (q15, .inr (4, [.ref q16, .ref q17, .ref q18, .ref q19, .ref q20, .int 0, .int 0, .int 0])), (q16, .inl (c16, 512, .inl (fun _ => 0))), (q17, .inl (c17, 4096, .inl (fun _ => 0))), (q18, .inl (c18, 16, .inl (fun _ => 0))), (q19, .inl (c19, 16, .inl (fun _ => 0))), (q20, .inl (c20, 16, .inl (fun _ => 0))), (q21, .inr (5, [.ref q2, .ref q22, .ref q23, .ref q24, .ref q25, .int 0])), (q22, .inl (c22, 17680, .inr (.inl (fun _ => 0)))), (q23, .inl (c23, 1040, .inl (fun _ => 0))), (q24, .inl (c24, 1040, .inl (fun _ => 0))), (q25, .inl (c25, 1040, .inl (fun _ => 0))), (q26, .inr (6, [.ref q2, .ref q21, .ref q27, .ref q28, .ref q29, .ref q30, .ref q31, .ref q32, .int 0, .int 0, .int 0])), (q27, .inl (c27, 1040, .inl (fun _ => 0))), (q28, .inl (c28, 1040, .inl (fun _ => 0))), (q29, .inl (c29, 1040, .inl (fun _ => 0))), (q30, .inl (c30, 1040, .inl (fun _ => 0))), (q31, .inl (c31, 17, .inr (.inl (fun _ => 0)))), (q32, .inl (c32, 17, .inr (.inl (fun _ => 0)))), (q33, .inr (7, [.ref q2, .ref q21, .ref q26, .ref q34, .ref q35, .ref q36, .ref q37, .int 0, .int 0])), (q34, .inl (c34, 1040, .inl (fun _ => 0))), (q35, .inl (c35, 2080, .inl (fun _ => 0))), (q36, .inl (c36, 2080, .inl (fun _ => 0))), (q37, .inl (c37, 17, .inr (.inl (fun _ => 0)))), (q38, .inr (8, [.ref q2, .ref q26, .ref q39, .ref q40])), (q39, .inl (c39, 1041, .inl (fun _ => 0))), (q40, .inl (c40, 1040, .inl (fun _ => 0)))] H := hP
  have hD : va_D A [(h0, .inr (0, [.ref q1, .ref q2, .ref q10, .ref q21, .ref q26, .ref q33, .ref q38, .int 0, .int 0, .int 0, .int 0, .int 0])), (q1, .inl (c1, 1040, .inl (fun _ => 0))), (q2, .inr (1, [.ref q3, .ref q4, .ref q5, .ref q6, .ref q7, .ref q8, .ref q9, .int 0])), (q3, .inl (c3, 1040, .inl (fun _ => 0))), (q4, .inl (c4, 1040, .inl (fun _ => 0))), (q5, .inl (c5, 1040, .inl (fun _ => 0))), (q6, .inl (c6, 1040, .inl (fun _ => 0))), (q7, .inl (c7, 1040, .inl (fun _ => 0))), (q8, .inl (c8, 1040, .inl (fun _ => 0))), (q9, .inl (c9, 1040, .inl (fun _ => 0))), (q10, .inr (2, [.ref q2, .ref q11, .ref q12, .ref q13, .ref q15, .int 0, .int 16])), (q11, .inl (c11, 32, .inl (fun _ => 0))), (q12, .inl (c12, 256, .inl (fun _ => 0))), (q13, .inr (3, [.ref q14, .int 0])), (q14, .inl (c14, 2048, .inr (.inl (fun _ => 0)))), (q15, .inr (4, [.ref q16, .ref q17, .ref q18, .ref q19, .ref q20, .int 0, .int 0, .int 0])), (q16, .inl (c16, 512, .inl (fun _ => 0))), (q17, .inl (c17, 4096, .inl (fun _ => 0))), (q18, .inl (c18, 16, .inl (fun _ => 0))), (q19, .inl (c19, 16, .inl (fun _ => 0))), (q20, .inl (c20, 16, .inl (fun _ => 0))), (q21, .inr (5, [.ref q2, .ref q22, .ref q23, .ref q24, .ref q25, .int 0])), (q22, .inl (c22, 17680, .inr (.inl (fun _ => 0)))), (q23, .inl (c23, 1040, .inl (fun _ => 0))), (q24, .inl (c24, 1040, .inl (fun _ => 0))), (q25, .inl (c25, 1040, .inl (fun _ => 0))), (q26, .inr (6, [.ref q2, .ref q21, .ref q27, .ref q28, .ref q29, .ref q30, .ref q31, .ref q32, .int 0, .int 0, .int 0])), (q27, .inl (c27, 1040, .inl (fun _ => 0))), (q28, .inl (c28, 1040, .inl (fun _ => 0))), (q29, .inl (c29, 1040, .inl (fun _ => 0))), (q30, .inl (c30, 1040, .inl (fun _ => 0))), (q31, .inl (c31, 17, .inr (.inl (fun _ => 0)))), (q32, .inl (c32, 17, .inr (.inl (fun _ => 0)))), (q33, .inr (7, [.ref q2, .ref q21, .ref q26, .ref q34, .ref q35, .ref q36, .ref q37, .int 0, .int 0])), (q34, .inl (c34, 1040, .inl (fun _ => 0))), (q35, .inl (c35, 2080, .inl (fun _ => 0))), (q36, .inl (c36, 2080, .inl (fun _ => 0))), (q37, .inl (c37, 17, .inr (.inl (fun _ => 0)))), (q38, .inr (8, [.ref q2, .ref q26, .ref q39, .ref q40])), (q39, .inl (c39, 1041, .inl (fun _ => 0))), (q40, .inl (c40, 1040, .inl (fun _ => 0)))] := hD
  refine lv_aload_n hx hb (show decode prog_1_method_1_code 115 = .ok (.aload_n 0, 1) from by decide +kernel) rfl (lv_at hl 0 rfl) ?_
  refine lv_iconst (n := 0) (v := 0) hx hb (by decide +kernel) (by decide) ?_
  refine va_put (D := (dC, dI)) (ci := 0) (v := .int 0) (ty := .int) (C := "GuessFences") (T := gf_T0) (N := 12) hx hb hts lays_0 gf_y0 gf_ty0 gf_nm0 hown hK hP hD hS 0 rfl rfl 7 (by decide) (hts (.fieldLink "GuessFences" 63 "GuessFences" "size" "I") (gv_i2 68 rfl rfl)) (fun _ h9 => h9) rfl (by decide +kernel) rfl rfl (Nat.le_of_ble_eq_true rfl) (by decide +kernel) (fun H locs hP hD hS => ?_)
  have hP : va_P (dC, dI) vwCl [(h0, .inr (0, [.ref q1, .ref q2, .ref q10, .ref q21, .ref q26, .ref q33, .ref q38, .int 0, .int 0, .int 0, .int 0, .int 0])), (q1, .inl (c1, 1040, .inl (fun _ => 0))), (q2, .inr (1, [.ref q3, .ref q4, .ref q5, .ref q6, .ref q7, .ref q8, .ref q9, .int 0])), (q3, .inl (c3, 1040, .inl (fun _ => 0))), (q4, .inl (c4, 1040, .inl (fun _ => 0))), (q5, .inl (c5, 1040, .inl (fun _ => 0))), (q6, .inl (c6, 1040, .inl (fun _ => 0))), (q7, .inl (c7, 1040, .inl (fun _ => 0))), (q8, .inl (c8, 1040, .inl (fun _ => 0))), (q9, .inl (c9, 1040, .inl (fun _ => 0))), (q10, .inr (2, [.ref q2, .ref q11, .ref q12, .ref q13, .ref q15, .int 0, .int 16])), (q11, .inl (c11, 32, .inl (fun _ => 0))), (q12, .inl (c12, 256, .inl (fun _ => 0))), (q13, .inr (3, [.ref q14, .int 0])), (q14, .inl (c14, 2048, .inr (.inl (fun _ => 0)))), (q15, .inr (4, [.ref q16, .ref q17, .ref q18, .ref q19, .ref q20, .int 0, .int 0, .int 0])), (q16, .inl (c16, 512, .inl (fun _ => 0))), (q17, .inl (c17, 4096, .inl (fun _ => 0))), (q18, .inl (c18, 16, .inl (fun _ => 0))), (q19, .inl (c19, 16, .inl (fun _ => 0))), (q20, .inl (c20, 16, .inl (fun _ => 0))), (q21, .inr (5, [.ref q2, .ref q22, .ref q23, .ref q24, .ref q25, .int 0])), (q22, .inl (c22, 17680, .inr (.inl (fun _ => 0)))), (q23, .inl (c23, 1040, .inl (fun _ => 0))), (q24, .inl (c24, 1040, .inl (fun _ => 0))), (q25, .inl (c25, 1040, .inl (fun _ => 0))), (q26, .inr (6, [.ref q2, .ref q21, .ref q27, .ref q28, .ref q29, .ref q30, .ref q31, .ref q32, .int 0, .int 0, .int 0])), (q27, .inl (c27, 1040, .inl (fun _ => 0))), (q28, .inl (c28, 1040, .inl (fun _ => 0))), (q29, .inl (c29, 1040, .inl (fun _ => 0))), (q30, .inl (c30, 1040, .inl (fun _ => 0))), (q31, .inl (c31, 17, .inr (.inl (fun _ => 0)))), (q32, .inl (c32, 17, .inr (.inl (fun _ => 0)))), (q33, .inr (7, [.ref q2, .ref q21, .ref q26, .ref q34, .ref q35, .ref q36, .ref q37, .int 0, .int 0])), (q34, .inl (c34, 1040, .inl (fun _ => 0))), (q35, .inl (c35, 2080, .inl (fun _ => 0))), (q36, .inl (c36, 2080, .inl (fun _ => 0))), (q37, .inl (c37, 17, .inr (.inl (fun _ => 0)))), (q38, .inr (8, [.ref q2, .ref q26, .ref q39, .ref q40])), (q39, .inl (c39, 1041, .inl (fun _ => 0))), (q40, .inl (c40, 1040, .inl (fun _ => 0)))] H := hP
  have hD : va_D A [(h0, .inr (0, [.ref q1, .ref q2, .ref q10, .ref q21, .ref q26, .ref q33, .ref q38, .int 0, .int 0, .int 0, .int 0, .int 0])), (q1, .inl (c1, 1040, .inl (fun _ => 0))), (q2, .inr (1, [.ref q3, .ref q4, .ref q5, .ref q6, .ref q7, .ref q8, .ref q9, .int 0])), (q3, .inl (c3, 1040, .inl (fun _ => 0))), (q4, .inl (c4, 1040, .inl (fun _ => 0))), (q5, .inl (c5, 1040, .inl (fun _ => 0))), (q6, .inl (c6, 1040, .inl (fun _ => 0))), (q7, .inl (c7, 1040, .inl (fun _ => 0))), (q8, .inl (c8, 1040, .inl (fun _ => 0))), (q9, .inl (c9, 1040, .inl (fun _ => 0))), (q10, .inr (2, [.ref q2, .ref q11, .ref q12, .ref q13, .ref q15, .int 0, .int 16])), (q11, .inl (c11, 32, .inl (fun _ => 0))), (q12, .inl (c12, 256, .inl (fun _ => 0))), (q13, .inr (3, [.ref q14, .int 0])), (q14, .inl (c14, 2048, .inr (.inl (fun _ => 0)))), (q15, .inr (4, [.ref q16, .ref q17, .ref q18, .ref q19, .ref q20, .int 0, .int 0, .int 0])), (q16, .inl (c16, 512, .inl (fun _ => 0))), (q17, .inl (c17, 4096, .inl (fun _ => 0))), (q18, .inl (c18, 16, .inl (fun _ => 0))), (q19, .inl (c19, 16, .inl (fun _ => 0))), (q20, .inl (c20, 16, .inl (fun _ => 0))), (q21, .inr (5, [.ref q2, .ref q22, .ref q23, .ref q24, .ref q25, .int 0])), (q22, .inl (c22, 17680, .inr (.inl (fun _ => 0)))), (q23, .inl (c23, 1040, .inl (fun _ => 0))), (q24, .inl (c24, 1040, .inl (fun _ => 0))), (q25, .inl (c25, 1040, .inl (fun _ => 0))), (q26, .inr (6, [.ref q2, .ref q21, .ref q27, .ref q28, .ref q29, .ref q30, .ref q31, .ref q32, .int 0, .int 0, .int 0])), (q27, .inl (c27, 1040, .inl (fun _ => 0))), (q28, .inl (c28, 1040, .inl (fun _ => 0))), (q29, .inl (c29, 1040, .inl (fun _ => 0))), (q30, .inl (c30, 1040, .inl (fun _ => 0))), (q31, .inl (c31, 17, .inr (.inl (fun _ => 0)))), (q32, .inl (c32, 17, .inr (.inl (fun _ => 0)))), (q33, .inr (7, [.ref q2, .ref q21, .ref q26, .ref q34, .ref q35, .ref q36, .ref q37, .int 0, .int 0])), (q34, .inl (c34, 1040, .inl (fun _ => 0))), (q35, .inl (c35, 2080, .inl (fun _ => 0))), (q36, .inl (c36, 2080, .inl (fun _ => 0))), (q37, .inl (c37, 17, .inr (.inl (fun _ => 0)))), (q38, .inr (8, [.ref q2, .ref q26, .ref q39, .ref q40])), (q39, .inl (c39, 1041, .inl (fun _ => 0))), (q40, .inl (c40, 1040, .inl (fun _ => 0)))] := hD
  refine lv_aload_n hx hb (show decode prog_1_method_1_code 120 = .ok (.aload_n 0, 1) from by decide +kernel) rfl (lv_at hl 0 rfl) ?_
  refine lv_iconst (n := (-1)) (v := (-1)) hx hb (by decide +kernel) (by decide) ?_
  refine va_put (D := (dC, dI)) (ci := 0) (v := .int (-1)) (ty := .int) (C := "GuessFences") (T := gf_T0) (N := 12) hx hb hts lays_0 gf_y0 gf_ty0 gf_nm0 hown hK hP hD hS 0 rfl rfl 8 (by decide) (hts (.fieldLink "GuessFences" 67 "GuessFences" "faultPlace" "I") (gv_i2 69 rfl rfl)) (fun _ h9 => h9) rfl (by decide +kernel) rfl rfl (Nat.le_of_ble_eq_true rfl) (by decide +kernel) (fun H locs hP hD hS => ?_)
  have hP : va_P (dC, dI) vwCl [(h0, .inr (0, [.ref q1, .ref q2, .ref q10, .ref q21, .ref q26, .ref q33, .ref q38, .int 0, .int (-1), .int 0, .int 0, .int 0])), (q1, .inl (c1, 1040, .inl (fun _ => 0))), (q2, .inr (1, [.ref q3, .ref q4, .ref q5, .ref q6, .ref q7, .ref q8, .ref q9, .int 0])), (q3, .inl (c3, 1040, .inl (fun _ => 0))), (q4, .inl (c4, 1040, .inl (fun _ => 0))), (q5, .inl (c5, 1040, .inl (fun _ => 0))), (q6, .inl (c6, 1040, .inl (fun _ => 0))), (q7, .inl (c7, 1040, .inl (fun _ => 0))), (q8, .inl (c8, 1040, .inl (fun _ => 0))), (q9, .inl (c9, 1040, .inl (fun _ => 0))), (q10, .inr (2, [.ref q2, .ref q11, .ref q12, .ref q13, .ref q15, .int 0, .int 16])), (q11, .inl (c11, 32, .inl (fun _ => 0))), (q12, .inl (c12, 256, .inl (fun _ => 0))), (q13, .inr (3, [.ref q14, .int 0])), (q14, .inl (c14, 2048, .inr (.inl (fun _ => 0)))), (q15, .inr (4, [.ref q16, .ref q17, .ref q18, .ref q19, .ref q20, .int 0, .int 0, .int 0])), (q16, .inl (c16, 512, .inl (fun _ => 0))), (q17, .inl (c17, 4096, .inl (fun _ => 0))), (q18, .inl (c18, 16, .inl (fun _ => 0))), (q19, .inl (c19, 16, .inl (fun _ => 0))), (q20, .inl (c20, 16, .inl (fun _ => 0))), (q21, .inr (5, [.ref q2, .ref q22, .ref q23, .ref q24, .ref q25, .int 0])), (q22, .inl (c22, 17680, .inr (.inl (fun _ => 0)))), (q23, .inl (c23, 1040, .inl (fun _ => 0))), (q24, .inl (c24, 1040, .inl (fun _ => 0))), (q25, .inl (c25, 1040, .inl (fun _ => 0))), (q26, .inr (6, [.ref q2, .ref q21, .ref q27, .ref q28, .ref q29, .ref q30, .ref q31, .ref q32, .int 0, .int 0, .int 0])), (q27, .inl (c27, 1040, .inl (fun _ => 0))), (q28, .inl (c28, 1040, .inl (fun _ => 0))), (q29, .inl (c29, 1040, .inl (fun _ => 0))), (q30, .inl (c30, 1040, .inl (fun _ => 0))), (q31, .inl (c31, 17, .inr (.inl (fun _ => 0)))), (q32, .inl (c32, 17, .inr (.inl (fun _ => 0)))), (q33, .inr (7, [.ref q2, .ref q21, .ref q26, .ref q34, .ref q35, .ref q36, .ref q37, .int 0, .int 0])), (q34, .inl (c34, 1040, .inl (fun _ => 0))), (q35, .inl (c35, 2080, .inl (fun _ => 0))), (q36, .inl (c36, 2080, .inl (fun _ => 0))), (q37, .inl (c37, 17, .inr (.inl (fun _ => 0)))), (q38, .inr (8, [.ref q2, .ref q26, .ref q39, .ref q40])), (q39, .inl (c39, 1041, .inl (fun _ => 0))), (q40, .inl (c40, 1040, .inl (fun _ => 0)))] H := hP
  have hD : va_D A [(h0, .inr (0, [.ref q1, .ref q2, .ref q10, .ref q21, .ref q26, .ref q33, .ref q38, .int 0, .int (-1), .int 0, .int 0, .int 0])), (q1, .inl (c1, 1040, .inl (fun _ => 0))), (q2, .inr (1, [.ref q3, .ref q4, .ref q5, .ref q6, .ref q7, .ref q8, .ref q9, .int 0])), (q3, .inl (c3, 1040, .inl (fun _ => 0))), (q4, .inl (c4, 1040, .inl (fun _ => 0))), (q5, .inl (c5, 1040, .inl (fun _ => 0))), (q6, .inl (c6, 1040, .inl (fun _ => 0))), (q7, .inl (c7, 1040, .inl (fun _ => 0))), (q8, .inl (c8, 1040, .inl (fun _ => 0))), (q9, .inl (c9, 1040, .inl (fun _ => 0))), (q10, .inr (2, [.ref q2, .ref q11, .ref q12, .ref q13, .ref q15, .int 0, .int 16])), (q11, .inl (c11, 32, .inl (fun _ => 0))), (q12, .inl (c12, 256, .inl (fun _ => 0))), (q13, .inr (3, [.ref q14, .int 0])), (q14, .inl (c14, 2048, .inr (.inl (fun _ => 0)))), (q15, .inr (4, [.ref q16, .ref q17, .ref q18, .ref q19, .ref q20, .int 0, .int 0, .int 0])), (q16, .inl (c16, 512, .inl (fun _ => 0))), (q17, .inl (c17, 4096, .inl (fun _ => 0))), (q18, .inl (c18, 16, .inl (fun _ => 0))), (q19, .inl (c19, 16, .inl (fun _ => 0))), (q20, .inl (c20, 16, .inl (fun _ => 0))), (q21, .inr (5, [.ref q2, .ref q22, .ref q23, .ref q24, .ref q25, .int 0])), (q22, .inl (c22, 17680, .inr (.inl (fun _ => 0)))), (q23, .inl (c23, 1040, .inl (fun _ => 0))), (q24, .inl (c24, 1040, .inl (fun _ => 0))), (q25, .inl (c25, 1040, .inl (fun _ => 0))), (q26, .inr (6, [.ref q2, .ref q21, .ref q27, .ref q28, .ref q29, .ref q30, .ref q31, .ref q32, .int 0, .int 0, .int 0])), (q27, .inl (c27, 1040, .inl (fun _ => 0))), (q28, .inl (c28, 1040, .inl (fun _ => 0))), (q29, .inl (c29, 1040, .inl (fun _ => 0))), (q30, .inl (c30, 1040, .inl (fun _ => 0))), (q31, .inl (c31, 17, .inr (.inl (fun _ => 0)))), (q32, .inl (c32, 17, .inr (.inl (fun _ => 0)))), (q33, .inr (7, [.ref q2, .ref q21, .ref q26, .ref q34, .ref q35, .ref q36, .ref q37, .int 0, .int 0])), (q34, .inl (c34, 1040, .inl (fun _ => 0))), (q35, .inl (c35, 2080, .inl (fun _ => 0))), (q36, .inl (c36, 2080, .inl (fun _ => 0))), (q37, .inl (c37, 17, .inr (.inl (fun _ => 0)))), (q38, .inr (8, [.ref q2, .ref q26, .ref q39, .ref q40])), (q39, .inl (c39, 1041, .inl (fun _ => 0))), (q40, .inl (c40, 1040, .inl (fun _ => 0)))] := hD
  refine lv_aload_n hx hb (show decode prog_1_method_1_code 125 = .ok (.aload_n 0, 1) from by decide +kernel) rfl (lv_at hl 0 rfl) ?_
  refine lv_iconst (n := 0) (v := 0) hx hb (by decide +kernel) (by decide) ?_
  refine va_put (D := (dC, dI)) (ci := 0) (v := .int 0) (ty := .boolean) (C := "GuessFences") (T := gf_T0) (N := 12) hx hb hts lays_0 gf_y0 gf_ty0 gf_nm0 hown hK hP hD hS 0 rfl rfl 9 (by decide) (hts (.fieldLink "GuessFences" 70 "GuessFences" "loaded" "Z") (gv_i2 70 rfl rfl)) (fun _ h9 => h9) rfl (by decide +kernel) rfl rfl (Nat.le_of_ble_eq_true rfl) (by decide +kernel) (fun H locs hP hD hS => ?_)
  have hP : va_P (dC, dI) vwCl [(h0, .inr (0, [.ref q1, .ref q2, .ref q10, .ref q21, .ref q26, .ref q33, .ref q38, .int 0, .int (-1), .int 0, .int 0, .int 0])), (q1, .inl (c1, 1040, .inl (fun _ => 0))), (q2, .inr (1, [.ref q3, .ref q4, .ref q5, .ref q6, .ref q7, .ref q8, .ref q9, .int 0])), (q3, .inl (c3, 1040, .inl (fun _ => 0))), (q4, .inl (c4, 1040, .inl (fun _ => 0))), (q5, .inl (c5, 1040, .inl (fun _ => 0))), (q6, .inl (c6, 1040, .inl (fun _ => 0))), (q7, .inl (c7, 1040, .inl (fun _ => 0))), (q8, .inl (c8, 1040, .inl (fun _ => 0))), (q9, .inl (c9, 1040, .inl (fun _ => 0))), (q10, .inr (2, [.ref q2, .ref q11, .ref q12, .ref q13, .ref q15, .int 0, .int 16])), (q11, .inl (c11, 32, .inl (fun _ => 0))), (q12, .inl (c12, 256, .inl (fun _ => 0))), (q13, .inr (3, [.ref q14, .int 0])), (q14, .inl (c14, 2048, .inr (.inl (fun _ => 0)))), (q15, .inr (4, [.ref q16, .ref q17, .ref q18, .ref q19, .ref q20, .int 0, .int 0, .int 0])), (q16, .inl (c16, 512, .inl (fun _ => 0))), (q17, .inl (c17, 4096, .inl (fun _ => 0))), (q18, .inl (c18, 16, .inl (fun _ => 0))), (q19, .inl (c19, 16, .inl (fun _ => 0))), (q20, .inl (c20, 16, .inl (fun _ => 0))), (q21, .inr (5, [.ref q2, .ref q22, .ref q23, .ref q24, .ref q25, .int 0])), (q22, .inl (c22, 17680, .inr (.inl (fun _ => 0)))), (q23, .inl (c23, 1040, .inl (fun _ => 0))), (q24, .inl (c24, 1040, .inl (fun _ => 0))), (q25, .inl (c25, 1040, .inl (fun _ => 0))), (q26, .inr (6, [.ref q2, .ref q21, .ref q27, .ref q28, .ref q29, .ref q30, .ref q31, .ref q32, .int 0, .int 0, .int 0])), (q27, .inl (c27, 1040, .inl (fun _ => 0))), (q28, .inl (c28, 1040, .inl (fun _ => 0))), (q29, .inl (c29, 1040, .inl (fun _ => 0))), (q30, .inl (c30, 1040, .inl (fun _ => 0))), (q31, .inl (c31, 17, .inr (.inl (fun _ => 0)))), (q32, .inl (c32, 17, .inr (.inl (fun _ => 0)))), (q33, .inr (7, [.ref q2, .ref q21, .ref q26, .ref q34, .ref q35, .ref q36, .ref q37, .int 0, .int 0])), (q34, .inl (c34, 1040, .inl (fun _ => 0))), (q35, .inl (c35, 2080, .inl (fun _ => 0))), (q36, .inl (c36, 2080, .inl (fun _ => 0))), (q37, .inl (c37, 17, .inr (.inl (fun _ => 0)))), (q38, .inr (8, [.ref q2, .ref q26, .ref q39, .ref q40])), (q39, .inl (c39, 1041, .inl (fun _ => 0))), (q40, .inl (c40, 1040, .inl (fun _ => 0)))] H := hP
  have hD : va_D A [(h0, .inr (0, [.ref q1, .ref q2, .ref q10, .ref q21, .ref q26, .ref q33, .ref q38, .int 0, .int (-1), .int 0, .int 0, .int 0])), (q1, .inl (c1, 1040, .inl (fun _ => 0))), (q2, .inr (1, [.ref q3, .ref q4, .ref q5, .ref q6, .ref q7, .ref q8, .ref q9, .int 0])), (q3, .inl (c3, 1040, .inl (fun _ => 0))), (q4, .inl (c4, 1040, .inl (fun _ => 0))), (q5, .inl (c5, 1040, .inl (fun _ => 0))), (q6, .inl (c6, 1040, .inl (fun _ => 0))), (q7, .inl (c7, 1040, .inl (fun _ => 0))), (q8, .inl (c8, 1040, .inl (fun _ => 0))), (q9, .inl (c9, 1040, .inl (fun _ => 0))), (q10, .inr (2, [.ref q2, .ref q11, .ref q12, .ref q13, .ref q15, .int 0, .int 16])), (q11, .inl (c11, 32, .inl (fun _ => 0))), (q12, .inl (c12, 256, .inl (fun _ => 0))), (q13, .inr (3, [.ref q14, .int 0])), (q14, .inl (c14, 2048, .inr (.inl (fun _ => 0)))), (q15, .inr (4, [.ref q16, .ref q17, .ref q18, .ref q19, .ref q20, .int 0, .int 0, .int 0])), (q16, .inl (c16, 512, .inl (fun _ => 0))), (q17, .inl (c17, 4096, .inl (fun _ => 0))), (q18, .inl (c18, 16, .inl (fun _ => 0))), (q19, .inl (c19, 16, .inl (fun _ => 0))), (q20, .inl (c20, 16, .inl (fun _ => 0))), (q21, .inr (5, [.ref q2, .ref q22, .ref q23, .ref q24, .ref q25, .int 0])), (q22, .inl (c22, 17680, .inr (.inl (fun _ => 0)))), (q23, .inl (c23, 1040, .inl (fun _ => 0))), (q24, .inl (c24, 1040, .inl (fun _ => 0))), (q25, .inl (c25, 1040, .inl (fun _ => 0))), (q26, .inr (6, [.ref q2, .ref q21, .ref q27, .ref q28, .ref q29, .ref q30, .ref q31, .ref q32, .int 0, .int 0, .int 0])), (q27, .inl (c27, 1040, .inl (fun _ => 0))), (q28, .inl (c28, 1040, .inl (fun _ => 0))), (q29, .inl (c29, 1040, .inl (fun _ => 0))), (q30, .inl (c30, 1040, .inl (fun _ => 0))), (q31, .inl (c31, 17, .inr (.inl (fun _ => 0)))), (q32, .inl (c32, 17, .inr (.inl (fun _ => 0)))), (q33, .inr (7, [.ref q2, .ref q21, .ref q26, .ref q34, .ref q35, .ref q36, .ref q37, .int 0, .int 0])), (q34, .inl (c34, 1040, .inl (fun _ => 0))), (q35, .inl (c35, 2080, .inl (fun _ => 0))), (q36, .inl (c36, 2080, .inl (fun _ => 0))), (q37, .inl (c37, 17, .inr (.inl (fun _ => 0)))), (q38, .inr (8, [.ref q2, .ref q26, .ref q39, .ref q40])), (q39, .inl (c39, 1041, .inl (fun _ => 0))), (q40, .inl (c40, 1040, .inl (fun _ => 0)))] := hD
  refine lv_aload_n hx hb (show decode prog_1_method_1_code 130 = .ok (.aload_n 0, 1) from by decide +kernel) rfl (lv_at hl 0 rfl) ?_
  refine lv_iconst (n := 0) (v := 0) hx hb (by decide +kernel) (by decide) ?_
  refine va_put (D := (dC, dI)) (ci := 0) (v := .int 0) (ty := .boolean) (C := "GuessFences") (T := gf_T0) (N := 12) hx hb hts lays_0 gf_y0 gf_ty0 gf_nm0 hown hK hP hD hS 0 rfl rfl 10 (by decide) (hts (.fieldLink "GuessFences" 74 "GuessFences" "studied" "Z") (gv_i2 71 rfl rfl)) (fun _ h9 => h9) rfl (by decide +kernel) rfl rfl (Nat.le_of_ble_eq_true rfl) (by decide +kernel) (fun H locs hP hD hS => ?_)
  have hP : va_P (dC, dI) vwCl [(h0, .inr (0, [.ref q1, .ref q2, .ref q10, .ref q21, .ref q26, .ref q33, .ref q38, .int 0, .int (-1), .int 0, .int 0, .int 0])), (q1, .inl (c1, 1040, .inl (fun _ => 0))), (q2, .inr (1, [.ref q3, .ref q4, .ref q5, .ref q6, .ref q7, .ref q8, .ref q9, .int 0])), (q3, .inl (c3, 1040, .inl (fun _ => 0))), (q4, .inl (c4, 1040, .inl (fun _ => 0))), (q5, .inl (c5, 1040, .inl (fun _ => 0))), (q6, .inl (c6, 1040, .inl (fun _ => 0))), (q7, .inl (c7, 1040, .inl (fun _ => 0))), (q8, .inl (c8, 1040, .inl (fun _ => 0))), (q9, .inl (c9, 1040, .inl (fun _ => 0))), (q10, .inr (2, [.ref q2, .ref q11, .ref q12, .ref q13, .ref q15, .int 0, .int 16])), (q11, .inl (c11, 32, .inl (fun _ => 0))), (q12, .inl (c12, 256, .inl (fun _ => 0))), (q13, .inr (3, [.ref q14, .int 0])), (q14, .inl (c14, 2048, .inr (.inl (fun _ => 0)))), (q15, .inr (4, [.ref q16, .ref q17, .ref q18, .ref q19, .ref q20, .int 0, .int 0, .int 0])), (q16, .inl (c16, 512, .inl (fun _ => 0))), (q17, .inl (c17, 4096, .inl (fun _ => 0))), (q18, .inl (c18, 16, .inl (fun _ => 0))), (q19, .inl (c19, 16, .inl (fun _ => 0))), (q20, .inl (c20, 16, .inl (fun _ => 0))), (q21, .inr (5, [.ref q2, .ref q22, .ref q23, .ref q24, .ref q25, .int 0])), (q22, .inl (c22, 17680, .inr (.inl (fun _ => 0)))), (q23, .inl (c23, 1040, .inl (fun _ => 0))), (q24, .inl (c24, 1040, .inl (fun _ => 0))), (q25, .inl (c25, 1040, .inl (fun _ => 0))), (q26, .inr (6, [.ref q2, .ref q21, .ref q27, .ref q28, .ref q29, .ref q30, .ref q31, .ref q32, .int 0, .int 0, .int 0])), (q27, .inl (c27, 1040, .inl (fun _ => 0))), (q28, .inl (c28, 1040, .inl (fun _ => 0))), (q29, .inl (c29, 1040, .inl (fun _ => 0))), (q30, .inl (c30, 1040, .inl (fun _ => 0))), (q31, .inl (c31, 17, .inr (.inl (fun _ => 0)))), (q32, .inl (c32, 17, .inr (.inl (fun _ => 0)))), (q33, .inr (7, [.ref q2, .ref q21, .ref q26, .ref q34, .ref q35, .ref q36, .ref q37, .int 0, .int 0])), (q34, .inl (c34, 1040, .inl (fun _ => 0))), (q35, .inl (c35, 2080, .inl (fun _ => 0))), (q36, .inl (c36, 2080, .inl (fun _ => 0))), (q37, .inl (c37, 17, .inr (.inl (fun _ => 0)))), (q38, .inr (8, [.ref q2, .ref q26, .ref q39, .ref q40])), (q39, .inl (c39, 1041, .inl (fun _ => 0))), (q40, .inl (c40, 1040, .inl (fun _ => 0)))] H := hP
  have hD : va_D A [(h0, .inr (0, [.ref q1, .ref q2, .ref q10, .ref q21, .ref q26, .ref q33, .ref q38, .int 0, .int (-1), .int 0, .int 0, .int 0])), (q1, .inl (c1, 1040, .inl (fun _ => 0))), (q2, .inr (1, [.ref q3, .ref q4, .ref q5, .ref q6, .ref q7, .ref q8, .ref q9, .int 0])), (q3, .inl (c3, 1040, .inl (fun _ => 0))), (q4, .inl (c4, 1040, .inl (fun _ => 0))), (q5, .inl (c5, 1040, .inl (fun _ => 0))), (q6, .inl (c6, 1040, .inl (fun _ => 0))), (q7, .inl (c7, 1040, .inl (fun _ => 0))), (q8, .inl (c8, 1040, .inl (fun _ => 0))), (q9, .inl (c9, 1040, .inl (fun _ => 0))), (q10, .inr (2, [.ref q2, .ref q11, .ref q12, .ref q13, .ref q15, .int 0, .int 16])), (q11, .inl (c11, 32, .inl (fun _ => 0))), (q12, .inl (c12, 256, .inl (fun _ => 0))), (q13, .inr (3, [.ref q14, .int 0])), (q14, .inl (c14, 2048, .inr (.inl (fun _ => 0)))), (q15, .inr (4, [.ref q16, .ref q17, .ref q18, .ref q19, .ref q20, .int 0, .int 0, .int 0])), (q16, .inl (c16, 512, .inl (fun _ => 0))), (q17, .inl (c17, 4096, .inl (fun _ => 0))), (q18, .inl (c18, 16, .inl (fun _ => 0))), (q19, .inl (c19, 16, .inl (fun _ => 0))), (q20, .inl (c20, 16, .inl (fun _ => 0))), (q21, .inr (5, [.ref q2, .ref q22, .ref q23, .ref q24, .ref q25, .int 0])), (q22, .inl (c22, 17680, .inr (.inl (fun _ => 0)))), (q23, .inl (c23, 1040, .inl (fun _ => 0))), (q24, .inl (c24, 1040, .inl (fun _ => 0))), (q25, .inl (c25, 1040, .inl (fun _ => 0))), (q26, .inr (6, [.ref q2, .ref q21, .ref q27, .ref q28, .ref q29, .ref q30, .ref q31, .ref q32, .int 0, .int 0, .int 0])), (q27, .inl (c27, 1040, .inl (fun _ => 0))), (q28, .inl (c28, 1040, .inl (fun _ => 0))), (q29, .inl (c29, 1040, .inl (fun _ => 0))), (q30, .inl (c30, 1040, .inl (fun _ => 0))), (q31, .inl (c31, 17, .inr (.inl (fun _ => 0)))), (q32, .inl (c32, 17, .inr (.inl (fun _ => 0)))), (q33, .inr (7, [.ref q2, .ref q21, .ref q26, .ref q34, .ref q35, .ref q36, .ref q37, .int 0, .int 0])), (q34, .inl (c34, 1040, .inl (fun _ => 0))), (q35, .inl (c35, 2080, .inl (fun _ => 0))), (q36, .inl (c36, 2080, .inl (fun _ => 0))), (q37, .inl (c37, 17, .inr (.inl (fun _ => 0)))), (q38, .inr (8, [.ref q2, .ref q26, .ref q39, .ref q40])), (q39, .inl (c39, 1041, .inl (fun _ => 0))), (q40, .inl (c40, 1040, .inl (fun _ => 0)))] := hD
  refine lv_aload_n hx hb (show decode prog_1_method_1_code 135 = .ok (.aload_n 0, 1) from by decide +kernel) rfl (lv_at hl 0 rfl) ?_
  refine lv_iconst (n := 0) (v := 0) hx hb (by decide +kernel) (by decide) ?_
  refine va_put (D := (dC, dI)) (ci := 0) (v := .int 0) (ty := .boolean) (C := "GuessFences") (T := gf_T0) (N := 12) hx hb hts lays_0 gf_y0 gf_ty0 gf_nm0 hown hK hP hD hS 0 rfl rfl 11 (by decide) (hts (.fieldLink "GuessFences" 77 "GuessFences" "rewritten" "Z") (gv_i2 72 rfl rfl)) (fun _ h9 => h9) rfl (by decide +kernel) rfl rfl (Nat.le_of_ble_eq_true rfl) (by decide +kernel) (fun H locs hP hD hS => ?_)
  have hP : va_P (dC, dI) vwCl [(h0, .inr (0, [.ref q1, .ref q2, .ref q10, .ref q21, .ref q26, .ref q33, .ref q38, .int 0, .int (-1), .int 0, .int 0, .int 0])), (q1, .inl (c1, 1040, .inl (fun _ => 0))), (q2, .inr (1, [.ref q3, .ref q4, .ref q5, .ref q6, .ref q7, .ref q8, .ref q9, .int 0])), (q3, .inl (c3, 1040, .inl (fun _ => 0))), (q4, .inl (c4, 1040, .inl (fun _ => 0))), (q5, .inl (c5, 1040, .inl (fun _ => 0))), (q6, .inl (c6, 1040, .inl (fun _ => 0))), (q7, .inl (c7, 1040, .inl (fun _ => 0))), (q8, .inl (c8, 1040, .inl (fun _ => 0))), (q9, .inl (c9, 1040, .inl (fun _ => 0))), (q10, .inr (2, [.ref q2, .ref q11, .ref q12, .ref q13, .ref q15, .int 0, .int 16])), (q11, .inl (c11, 32, .inl (fun _ => 0))), (q12, .inl (c12, 256, .inl (fun _ => 0))), (q13, .inr (3, [.ref q14, .int 0])), (q14, .inl (c14, 2048, .inr (.inl (fun _ => 0)))), (q15, .inr (4, [.ref q16, .ref q17, .ref q18, .ref q19, .ref q20, .int 0, .int 0, .int 0])), (q16, .inl (c16, 512, .inl (fun _ => 0))), (q17, .inl (c17, 4096, .inl (fun _ => 0))), (q18, .inl (c18, 16, .inl (fun _ => 0))), (q19, .inl (c19, 16, .inl (fun _ => 0))), (q20, .inl (c20, 16, .inl (fun _ => 0))), (q21, .inr (5, [.ref q2, .ref q22, .ref q23, .ref q24, .ref q25, .int 0])), (q22, .inl (c22, 17680, .inr (.inl (fun _ => 0)))), (q23, .inl (c23, 1040, .inl (fun _ => 0))), (q24, .inl (c24, 1040, .inl (fun _ => 0))), (q25, .inl (c25, 1040, .inl (fun _ => 0))), (q26, .inr (6, [.ref q2, .ref q21, .ref q27, .ref q28, .ref q29, .ref q30, .ref q31, .ref q32, .int 0, .int 0, .int 0])), (q27, .inl (c27, 1040, .inl (fun _ => 0))), (q28, .inl (c28, 1040, .inl (fun _ => 0))), (q29, .inl (c29, 1040, .inl (fun _ => 0))), (q30, .inl (c30, 1040, .inl (fun _ => 0))), (q31, .inl (c31, 17, .inr (.inl (fun _ => 0)))), (q32, .inl (c32, 17, .inr (.inl (fun _ => 0)))), (q33, .inr (7, [.ref q2, .ref q21, .ref q26, .ref q34, .ref q35, .ref q36, .ref q37, .int 0, .int 0])), (q34, .inl (c34, 1040, .inl (fun _ => 0))), (q35, .inl (c35, 2080, .inl (fun _ => 0))), (q36, .inl (c36, 2080, .inl (fun _ => 0))), (q37, .inl (c37, 17, .inr (.inl (fun _ => 0)))), (q38, .inr (8, [.ref q2, .ref q26, .ref q39, .ref q40])), (q39, .inl (c39, 1041, .inl (fun _ => 0))), (q40, .inl (c40, 1040, .inl (fun _ => 0)))] H := hP
  have hD : va_D A [(h0, .inr (0, [.ref q1, .ref q2, .ref q10, .ref q21, .ref q26, .ref q33, .ref q38, .int 0, .int (-1), .int 0, .int 0, .int 0])), (q1, .inl (c1, 1040, .inl (fun _ => 0))), (q2, .inr (1, [.ref q3, .ref q4, .ref q5, .ref q6, .ref q7, .ref q8, .ref q9, .int 0])), (q3, .inl (c3, 1040, .inl (fun _ => 0))), (q4, .inl (c4, 1040, .inl (fun _ => 0))), (q5, .inl (c5, 1040, .inl (fun _ => 0))), (q6, .inl (c6, 1040, .inl (fun _ => 0))), (q7, .inl (c7, 1040, .inl (fun _ => 0))), (q8, .inl (c8, 1040, .inl (fun _ => 0))), (q9, .inl (c9, 1040, .inl (fun _ => 0))), (q10, .inr (2, [.ref q2, .ref q11, .ref q12, .ref q13, .ref q15, .int 0, .int 16])), (q11, .inl (c11, 32, .inl (fun _ => 0))), (q12, .inl (c12, 256, .inl (fun _ => 0))), (q13, .inr (3, [.ref q14, .int 0])), (q14, .inl (c14, 2048, .inr (.inl (fun _ => 0)))), (q15, .inr (4, [.ref q16, .ref q17, .ref q18, .ref q19, .ref q20, .int 0, .int 0, .int 0])), (q16, .inl (c16, 512, .inl (fun _ => 0))), (q17, .inl (c17, 4096, .inl (fun _ => 0))), (q18, .inl (c18, 16, .inl (fun _ => 0))), (q19, .inl (c19, 16, .inl (fun _ => 0))), (q20, .inl (c20, 16, .inl (fun _ => 0))), (q21, .inr (5, [.ref q2, .ref q22, .ref q23, .ref q24, .ref q25, .int 0])), (q22, .inl (c22, 17680, .inr (.inl (fun _ => 0)))), (q23, .inl (c23, 1040, .inl (fun _ => 0))), (q24, .inl (c24, 1040, .inl (fun _ => 0))), (q25, .inl (c25, 1040, .inl (fun _ => 0))), (q26, .inr (6, [.ref q2, .ref q21, .ref q27, .ref q28, .ref q29, .ref q30, .ref q31, .ref q32, .int 0, .int 0, .int 0])), (q27, .inl (c27, 1040, .inl (fun _ => 0))), (q28, .inl (c28, 1040, .inl (fun _ => 0))), (q29, .inl (c29, 1040, .inl (fun _ => 0))), (q30, .inl (c30, 1040, .inl (fun _ => 0))), (q31, .inl (c31, 17, .inr (.inl (fun _ => 0)))), (q32, .inl (c32, 17, .inr (.inl (fun _ => 0)))), (q33, .inr (7, [.ref q2, .ref q21, .ref q26, .ref q34, .ref q35, .ref q36, .ref q37, .int 0, .int 0])), (q34, .inl (c34, 1040, .inl (fun _ => 0))), (q35, .inl (c35, 2080, .inl (fun _ => 0))), (q36, .inl (c36, 2080, .inl (fun _ => 0))), (q37, .inl (c37, 17, .inr (.inl (fun _ => 0)))), (q38, .inr (8, [.ref q2, .ref q26, .ref q39, .ref q40])), (q39, .inl (c39, 1041, .inl (fun _ => 0))), (q40, .inl (c40, 1040, .inl (fun _ => 0)))] := hD
  exact W.vret hx hb hr (fun t ht hW => ⟨⟨(), rfl, trivial, q1, q2, q3, q4, q5, q6, q7, q8, q9, q10, q11, q12, q13, q14, q15, q16, q17, q18, q19, q20, q21, q22, q23, q24, q25, q26, q27, q28, q29, q30, q31, q32, q33, q34, q35, q36, q37, q38, q39, q40, c1, c3, c4, c5, c6, c7, c8, c9, c11, c12, c14, c16, c17, c18, c19, c20, c22, c23, c24, c25, c27, c28, c29, c30, c31, c32, c34, c35, c36, c37, c39, c40, by rw [ht]; exact hP, va_K.moved hW.alike hK, hD⟩, hS.F ht⟩) hS.2.2 (by decide +kernel)

set_option maxHeartbeats 4000000 in
set_option maxRecDepth 100000 in
theorem k_M_init (l : Launch) (dC : Nat → ClassId) (dI : Nat → Nat → Nat) (h0 : Nat) (sz : Nat) : Met l ⟨"GuessFencesModel", "<init>", "()V"⟩ [.code ⟨"GuessFencesModel", "<init>", "()V"⟩ prog_13_method_1_code 1 none] (gc_rm 8 24 92274) (va_Pc [.ref h0] (gc_P dC dI sz [(h0, .inr (9, [.int 0, .null, .int 0, .null, .int 0, .int 0, .int 0, .int 0, .null, .null, .null, .int 0, .int 0, .null, .null, .null, .null, .null, .int 0, .int 0, .int 0, .null, .null, .null, .null, .null, .int 0, .int 0, .null, .null, .null, .null, .null, .null, .null, .null, .null, .int 0]))])) (va_Qv (fun _ : Unit => True) (fun _ t => ∃ (q1 q2 q3 q4 q5 q6 q7 q8 q9 q10 q11 q12 q13 q14 q15 q16 q17 q18 q19 q20 q21 q22 q23 q24 : Nat) (c1 c2 c3 c4 c5 c6 c7 c8 c9 c10 c11 c12 c13 c14 c15 c16 c17 c18 c19 c20 c21 c22 c23 c24 : ClassId), va_P (dC, dI) vwCl [(h0, .inr (9, [.int 0, .ref q1, .int 0, .ref q2, .int 0, .int 0, .int (-1), .int 0, .ref q3, .ref q4, .ref q5, .int 0, .int 16, .ref q6, .ref q7, .ref q8, .ref q9, .ref q10, .int 0, .int 0, .int 0, .ref q11, .ref q12, .ref q13, .ref q14, .ref q15, .int 0, .int 0, .ref q16, .ref q17, .ref q18, .ref q19, .ref q20, .ref q21, .ref q22, .ref q23, .ref q24, .int 0])), (q1, .inl (c1, 1040, .inl (fun _ => 0))), (q2, .inl (c2, 1040, .inl (fun _ => 0))), (q3, .inl (c3, 32, .inl (fun _ => 0))), (q4, .inl (c4, 256, .inl (fun _ => 0))), (q5, .inl (c5, 2048, .inr (.inl (fun _ => 0)))), (q6, .inl (c6, 512, .inl (fun _ => 0))), (q7, .inl (c7, 4096, .inl (fun _ => 0))), (q8, .inl (c8, 16, .inl (fun _ => 0))), (q9, .inl (c9, 16, .inl (fun _ => 0))), (q10, .inl (c10, 16, .inl (fun _ => 0))), (q11, .inl (c11, 1040, .inl (fun _ => 0))), (q12, .inl (c12, 1040, .inl (fun _ => 0))), (q13, .inl (c13, 1040, .inl (fun _ => 0))), (q14, .inl (c14, 1040, .inl (fun _ => 0))), (q15, .inl (c15, 1040, .inl (fun _ => 0))), (q16, .inl (c16, 34320, .inl (fun _ => 0))), (q17, .inl (c17, 34320, .inl (fun _ => 0))), (q18, .inl (c18, 1040, .inl (fun _ => 0))), (q19, .inl (c19, 1040, .inl (fun _ => 0))), (q20, .inl (c20, 2080, .inl (fun _ => 0))), (q21, .inl (c21, 2081, .inl (fun _ => 0))), (q22, .inl (c22, 1040, .inl (fun _ => 0))), (q23, .inl (c23, 1040, .inl (fun _ => 0))), (q24, .inl (c24, 1041, .inl (fun _ => 0)))] t.heap ∧ va_K (dC, dI) vwCl [(c1, .int), (c2, .int), (c3, .int), (c4, .int), (c5, .long), (c6, .int), (c7, .int), (c8, .int), (c9, .int), (c10, .int), (c11, .boolean), (c12, .boolean), (c13, .boolean), (c14, .boolean), (c15, .boolean), (c16, .int), (c17, .int), (c18, .boolean), (c19, .boolean), (c20, .int), (c21, .int), (c22, .boolean), (c23, .int), (c24, .int)] t ∧ va_D (va_A [(h0, .inr (9, [.int 0, .null, .int 0, .null, .int 0, .int 0, .int 0, .int 0, .null, .null, .null, .int 0, .int 0, .null, .null, .null, .null, .null, .int 0, .int 0, .int 0, .null, .null, .null, .null, .null, .int 0, .int 0, .null, .null, .null, .null, .null, .null, .null, .null, .null, .int 0]))] sz) [(h0, .inr (9, [.int 0, .ref q1, .int 0, .ref q2, .int 0, .int 0, .int (-1), .int 0, .ref q3, .ref q4, .ref q5, .int 0, .int 16, .ref q6, .ref q7, .ref q8, .ref q9, .ref q10, .int 0, .int 0, .int 0, .ref q11, .ref q12, .ref q13, .ref q14, .ref q15, .int 0, .int 0, .ref q16, .ref q17, .ref q18, .ref q19, .ref q20, .ref q21, .ref q22, .ref q23, .ref q24, .int 0])), (q1, .inl (c1, 1040, .inl (fun _ => 0))), (q2, .inl (c2, 1040, .inl (fun _ => 0))), (q3, .inl (c3, 32, .inl (fun _ => 0))), (q4, .inl (c4, 256, .inl (fun _ => 0))), (q5, .inl (c5, 2048, .inr (.inl (fun _ => 0)))), (q6, .inl (c6, 512, .inl (fun _ => 0))), (q7, .inl (c7, 4096, .inl (fun _ => 0))), (q8, .inl (c8, 16, .inl (fun _ => 0))), (q9, .inl (c9, 16, .inl (fun _ => 0))), (q10, .inl (c10, 16, .inl (fun _ => 0))), (q11, .inl (c11, 1040, .inl (fun _ => 0))), (q12, .inl (c12, 1040, .inl (fun _ => 0))), (q13, .inl (c13, 1040, .inl (fun _ => 0))), (q14, .inl (c14, 1040, .inl (fun _ => 0))), (q15, .inl (c15, 1040, .inl (fun _ => 0))), (q16, .inl (c16, 34320, .inl (fun _ => 0))), (q17, .inl (c17, 34320, .inl (fun _ => 0))), (q18, .inl (c18, 1040, .inl (fun _ => 0))), (q19, .inl (c19, 1040, .inl (fun _ => 0))), (q20, .inl (c20, 2080, .inl (fun _ => 0))), (q21, .inl (c21, 2081, .inl (fun _ => 0))), (q22, .inl (c22, 1040, .inl (fun _ => 0))), (q23, .inl (c23, 1040, .inl (fun _ => 0))), (q24, .inl (c24, 1041, .inl (fun _ => 0)))]) (va_A [(h0, .inr (9, [.int 0, .null, .int 0, .null, .int 0, .int 0, .int 0, .int 0, .null, .null, .null, .int 0, .int 0, .null, .null, .null, .null, .null, .int 0, .int 0, .int 0, .null, .null, .null, .null, .null, .int 0, .int 0, .null, .null, .null, .null, .null, .null, .null, .null, .null, .int 0]))] sz)) 24 92274 (va_A [(h0, .inr (9, [.int 0, .null, .int 0, .null, .int 0, .int 0, .int 0, .int 0, .null, .null, .null, .int 0, .int 0, .null, .null, .null, .null, .null, .int 0, .int 0, .int 0, .null, .null, .null, .null, .null, .int 0, .int 0, .null, .null, .null, .null, .null, .null, .null, .null, .null, .int 0]))] sz) := by
  refine Met.ofW (cc := prog_13_method_1_code) (maxL := 1) (ret := none) (by decide) rfl ?_
  intro p e s m args below meth c s₁ B hml hv
  obtain ⟨rfl, hsz, hT, hP, hK, hD0⟩ := hv
  have hx := B.exec
  have hb := B.bytes
  have hr := B.returns
  have hown : s.vm.findClass "GuessFencesModel" = some m.cls := findClass_of_methodNamed B.named
  have hlocks := B.notSynchronized
  have hin : meth.name = "<init>" := (name_of_methodNamed B.named B.method).1
  subst hsz
  generalize hargs : ([.ref h0] : List Value).toArray = args
  have hD := hD0.self (sz := s.heap.size)
  generalize hAe : va_A [(h0, .inr (9, [.int 0, .null, .int 0, .null, .int 0, .int 0, .int 0, .int 0, .null, .null, .null, .int 0, .int 0, .null, .null, .null, .null, .null, .int 0, .int 0, .int 0, .null, .null, .null, .null, .null, .int 0, .int 0, .null, .null, .null, .null, .null, .null, .null, .null, .null, .int 0]))] s.heap.size = A at hD ⊢
  have hA : ∀ q : Nat, s.heap.size ≤ q → A q := fun q h => by rw [← hAe]; exact Or.inr h
  have hS : va_S A s.heap s.heap [] := va_S.rf
  have hts := gc_hts hT args
  rw [← hargs]
  have hl := lv_entry ([.ref h0]) (n := 1) (Nat.le_of_ble_eq_true rfl)
  rw [lg_entry_eq]
  generalize (lg_sl ([.ref h0]) ++ List.replicate (1 - (lg_sl ([.ref h0])).length) Slot.unset).toArray = ls at hl ⊢
  rw [hargs]
  have hl : lv_has ls 1 [(0, .ref h0)] := hl
  refine lv_aload_n hx hb (show decode prog_13_method_1_code 0 = .ok (.aload_n 0, 1) from by decide +kernel) rfl (lv_at hl 0 rfl) ?_
  refine W.objInit hx hb hown (hts (.methodLink "GuessFencesModel" 1 objectInit) (gv_i6 120 rfl rfl)) (hts (.instanceMethod objectInit) (gv_i1 38 rfl rfl)) (hts (.code objectInit ⟨#[0xb1]⟩ 1 none) (gv_i1 39 rfl rfl)) rfl (by rw [hml]; exact hl.1) rfl (show decode prog_13_method_1_code 1 = .ok (.invokespecial 1, 3) from by decide +kernel) (Nat.le_of_ble_eq_true rfl) (Nat.le_of_ble_eq_true rfl) ?_
  refine W.eq (g2 := F0 m 4 ls []) rfl ?_
  refine lv_aload_n hx hb (show decode prog_13_method_1_code 4 = .ok (.aload_n 0, 1) from by decide +kernel) rfl (lv_at hl 0 rfl) ?_
  refine lv_sipush (n := 1040) (v := 1040) hx hb (by decide +kernel) (by decide) ?_
  refine va_newa (atype := .int) (ty := .int) (a0 := (1040, .inl (fun _ => 0))) hx hb (gc_arr hT args (ty := .int) (by simp)) rfl hK hP hD hS hA (fun _ => rfl) (by decide) (N' := 1040) (by decide) (by decide) (Nat.le_of_ble_eq_true rfl) (Nat.le_of_ble_eq_true rfl) (show decode prog_13_method_1_code 8 = .ok (.newarray .int, 2) from by decide +kernel) (fun q1 c1 H hK hP hD hS => ?_)
  have hP : va_P (dC, dI) vwCl [(h0, .inr (9, [.int 0, .null, .int 0, .null, .int 0, .int 0, .int 0, .int 0, .null, .null, .null, .int 0, .int 0, .null, .null, .null, .null, .null, .int 0, .int 0, .int 0, .null, .null, .null, .null, .null, .int 0, .int 0, .null, .null, .null, .null, .null, .null, .null, .null, .null, .int 0])), (q1, .inl (c1, 1040, .inl (fun _ => 0)))] H := hP
  have hD : va_D A [(h0, .inr (9, [.int 0, .null, .int 0, .null, .int 0, .int 0, .int 0, .int 0, .null, .null, .null, .int 0, .int 0, .null, .null, .null, .null, .null, .int 0, .int 0, .int 0, .null, .null, .null, .null, .null, .int 0, .int 0, .null, .null, .null, .null, .null, .null, .null, .null, .null, .int 0])), (q1, .inl (c1, 1040, .inl (fun _ => 0)))] := hD
  have hK : va_K (dC, dI) vwCl [(c1, .int)] s := hK
  refine W.widen (k := 1) (n := 1040) (Nat.le_refl _) (Nat.le_refl _) ?_
  refine va_putF (D := (dC, dI)) (ci := 9) (v := .ref q1) (ty := .array .int) (C := "GuessFencesModel") (T := gf_T9) (N := 38) hx hb hts lays_9 gf_y9 gf_ty9 gf_nm9 hown hK hP hD hS 0 rfl rfl 1 (by decide) (hts (.fieldLink "GuessFencesModel" 7 "GuessFencesModel" "words" "[I") (gv_i6 123 rfl rfl)) (fun _ h9 => h9) rfl hin rfl (by decide +kernel) rfl rfl (Nat.le_of_ble_eq_true rfl) (by decide +kernel) (fun H locs hP hD hS => ?_)
  have hP : va_P (dC, dI) vwCl [(h0, .inr (9, [.int 0, .ref q1, .int 0, .null, .int 0, .int 0, .int 0, .int 0, .null, .null, .null, .int 0, .int 0, .null, .null, .null, .null, .null, .int 0, .int 0, .int 0, .null, .null, .null, .null, .null, .int 0, .int 0, .null, .null, .null, .null, .null, .null, .null, .null, .null, .int 0])), (q1, .inl (c1, 1040, .inl (fun _ => 0)))] H := hP
  have hD : va_D A [(h0, .inr (9, [.int 0, .ref q1, .int 0, .null, .int 0, .int 0, .int 0, .int 0, .null, .null, .null, .int 0, .int 0, .null, .null, .null, .null, .null, .int 0, .int 0, .int 0, .null, .null, .null, .null, .null, .int 0, .int 0, .null, .null, .null, .null, .null, .null, .null, .null, .null, .int 0])), (q1, .inl (c1, 1040, .inl (fun _ => 0)))] := hD
  refine lv_aload_n hx hb (show decode prog_13_method_1_code 13 = .ok (.aload_n 0, 1) from by decide +kernel) rfl (lv_at hl 0 rfl) ?_
  refine lv_sipush (n := 1040) (v := 1040) hx hb (by decide +kernel) (by decide) ?_
  refine va_newa (atype := .int) (ty := .int) (a0 := (1040, .inl (fun _ => 0))) hx hb (gc_arr hT args (ty := .int) (by simp)) rfl hK hP hD hS hA (fun _ => rfl) (by decide) (N' := 1040) (by decide) (by decide) (Nat.le_of_ble_eq_true rfl) (Nat.le_of_ble_eq_true rfl) (show decode prog_13_method_1_code 17 = .ok (.newarray .int, 2) from by decide +kernel) (fun q2 c2 H hK hP hD hS => ?_)
  have hP : va_P (dC, dI) vwCl [(h0, .inr (9, [.int 0, .ref q1, .int 0, .null, .int 0, .int 0, .int 0, .int 0, .null, .null, .null, .int 0, .int 0, .null, .null, .null, .null, .null, .int 0, .int 0, .int 0, .null, .null, .null, .null, .null, .int 0, .int 0, .null, .null, .null, .null, .null, .null, .null, .null, .null, .int 0])), (q1, .inl (c1, 1040, .inl (fun _ => 0))), (q2, .inl (c2, 1040, .inl (fun _ => 0)))] H := hP
  have hD : va_D A [(h0, .inr (9, [.int 0, .ref q1, .int 0, .null, .int 0, .int 0, .int 0, .int 0, .null, .null, .null, .int 0, .int 0, .null, .null, .null, .null, .null, .int 0, .int 0, .int 0, .null, .null, .null, .null, .null, .int 0, .int 0, .null, .null, .null, .null, .null, .null, .null, .null, .null, .int 0])), (q1, .inl (c1, 1040, .inl (fun _ => 0))), (q2, .inl (c2, 1040, .inl (fun _ => 0)))] := hD
  have hK : va_K (dC, dI) vwCl [(c1, .int), (c2, .int)] s := hK
  refine W.widen (k := 2) (n := 2080) (Nat.le_refl _) (Nat.le_refl _) ?_
  refine va_putF (D := (dC, dI)) (ci := 9) (v := .ref q2) (ty := .array .int) (C := "GuessFencesModel") (T := gf_T9) (N := 38) hx hb hts lays_9 gf_y9 gf_ty9 gf_nm9 hown hK hP hD hS 0 rfl rfl 3 (by decide) (hts (.fieldLink "GuessFencesModel" 13 "GuessFencesModel" "homes" "[I") (gv_i6 125 rfl rfl)) (fun _ h9 => h9) rfl hin rfl (by decide +kernel) rfl rfl (Nat.le_of_ble_eq_true rfl) (by decide +kernel) (fun H locs hP hD hS => ?_)
  have hP : va_P (dC, dI) vwCl [(h0, .inr (9, [.int 0, .ref q1, .int 0, .ref q2, .int 0, .int 0, .int 0, .int 0, .null, .null, .null, .int 0, .int 0, .null, .null, .null, .null, .null, .int 0, .int 0, .int 0, .null, .null, .null, .null, .null, .int 0, .int 0, .null, .null, .null, .null, .null, .null, .null, .null, .null, .int 0])), (q1, .inl (c1, 1040, .inl (fun _ => 0))), (q2, .inl (c2, 1040, .inl (fun _ => 0)))] H := hP
  have hD : va_D A [(h0, .inr (9, [.int 0, .ref q1, .int 0, .ref q2, .int 0, .int 0, .int 0, .int 0, .null, .null, .null, .int 0, .int 0, .null, .null, .null, .null, .null, .int 0, .int 0, .int 0, .null, .null, .null, .null, .null, .int 0, .int 0, .null, .null, .null, .null, .null, .null, .null, .null, .null, .int 0])), (q1, .inl (c1, 1040, .inl (fun _ => 0))), (q2, .inl (c2, 1040, .inl (fun _ => 0)))] := hD
  refine lv_aload_n hx hb (show decode prog_13_method_1_code 22 = .ok (.aload_n 0, 1) from by decide +kernel) rfl (lv_at hl 0 rfl) ?_
  refine lv_iconst (n := (-1)) (v := (-1)) hx hb (by decide +kernel) (by decide) ?_
  refine va_put (D := (dC, dI)) (ci := 9) (v := .int (-1)) (ty := .int) (C := "GuessFencesModel") (T := gf_T9) (N := 38) hx hb hts lays_9 gf_y9 gf_ty9 gf_nm9 hown hK hP hD hS 0 rfl rfl 6 (by decide) (hts (.fieldLink "GuessFencesModel" 16 "GuessFencesModel" "faultPlace" "I") (gv_i6 128 rfl rfl)) (fun _ h9 => h9) rfl (by decide +kernel) rfl rfl (Nat.le_of_ble_eq_true rfl) (by decide +kernel) (fun H locs hP hD hS => ?_)
  have hP : va_P (dC, dI) vwCl [(h0, .inr (9, [.int 0, .ref q1, .int 0, .ref q2, .int 0, .int 0, .int (-1), .int 0, .null, .null, .null, .int 0, .int 0, .null, .null, .null, .null, .null, .int 0, .int 0, .int 0, .null, .null, .null, .null, .null, .int 0, .int 0, .null, .null, .null, .null, .null, .null, .null, .null, .null, .int 0])), (q1, .inl (c1, 1040, .inl (fun _ => 0))), (q2, .inl (c2, 1040, .inl (fun _ => 0)))] H := hP
  have hD : va_D A [(h0, .inr (9, [.int 0, .ref q1, .int 0, .ref q2, .int 0, .int 0, .int (-1), .int 0, .null, .null, .null, .int 0, .int 0, .null, .null, .null, .null, .null, .int 0, .int 0, .int 0, .null, .null, .null, .null, .null, .int 0, .int 0, .null, .null, .null, .null, .null, .null, .null, .null, .null, .int 0])), (q1, .inl (c1, 1040, .inl (fun _ => 0))), (q2, .inl (c2, 1040, .inl (fun _ => 0)))] := hD
  refine lv_aload_n hx hb (show decode prog_13_method_1_code 27 = .ok (.aload_n 0, 1) from by decide +kernel) rfl (lv_at hl 0 rfl) ?_
  refine lv_bipush (n := 32) (v := 32) hx hb (by decide +kernel) (by decide) ?_
  refine va_newa (atype := .int) (ty := .int) (a0 := (32, .inl (fun _ => 0))) hx hb (gc_arr hT args (ty := .int) (by simp)) rfl hK hP hD hS hA (fun _ => rfl) (by decide) (N' := 32) (by decide) (by decide) (Nat.le_of_ble_eq_true rfl) (Nat.le_of_ble_eq_true rfl) (show decode prog_13_method_1_code 30 = .ok (.newarray .int, 2) from by decide +kernel) (fun q3 c3 H hK hP hD hS => ?_)
  have hP : va_P (dC, dI) vwCl [(h0, .inr (9, [.int 0, .ref q1, .int 0, .ref q2, .int 0, .int 0, .int (-1), .int 0, .null, .null, .null, .int 0, .int 0, .null, .null, .null, .null, .null, .int 0, .int 0, .int 0, .null, .null, .null, .null, .null, .int 0, .int 0, .null, .null, .null, .null, .null, .null, .null, .null, .null, .int 0])), (q1, .inl (c1, 1040, .inl (fun _ => 0))), (q2, .inl (c2, 1040, .inl (fun _ => 0))), (q3, .inl (c3, 32, .inl (fun _ => 0)))] H := hP
  have hD : va_D A [(h0, .inr (9, [.int 0, .ref q1, .int 0, .ref q2, .int 0, .int 0, .int (-1), .int 0, .null, .null, .null, .int 0, .int 0, .null, .null, .null, .null, .null, .int 0, .int 0, .int 0, .null, .null, .null, .null, .null, .int 0, .int 0, .null, .null, .null, .null, .null, .null, .null, .null, .null, .int 0])), (q1, .inl (c1, 1040, .inl (fun _ => 0))), (q2, .inl (c2, 1040, .inl (fun _ => 0))), (q3, .inl (c3, 32, .inl (fun _ => 0)))] := hD
  have hK : va_K (dC, dI) vwCl [(c1, .int), (c2, .int), (c3, .int)] s := hK
  refine W.widen (k := 3) (n := 2112) (Nat.le_refl _) (Nat.le_refl _) ?_
  refine va_putF (D := (dC, dI)) (ci := 9) (v := .ref q3) (ty := .array .int) (C := "GuessFencesModel") (T := gf_T9) (N := 38) hx hb hts lays_9 gf_y9 gf_ty9 gf_nm9 hown hK hP hD hS 0 rfl rfl 8 (by decide) (hts (.fieldLink "GuessFencesModel" 20 "GuessFencesModel" "registers" "[I") (gv_i6 130 rfl rfl)) (fun _ h9 => h9) rfl hin rfl (by decide +kernel) rfl rfl (Nat.le_of_ble_eq_true rfl) (by decide +kernel) (fun H locs hP hD hS => ?_)
  have hP : va_P (dC, dI) vwCl [(h0, .inr (9, [.int 0, .ref q1, .int 0, .ref q2, .int 0, .int 0, .int (-1), .int 0, .ref q3, .null, .null, .int 0, .int 0, .null, .null, .null, .null, .null, .int 0, .int 0, .int 0, .null, .null, .null, .null, .null, .int 0, .int 0, .null, .null, .null, .null, .null, .null, .null, .null, .null, .int 0])), (q1, .inl (c1, 1040, .inl (fun _ => 0))), (q2, .inl (c2, 1040, .inl (fun _ => 0))), (q3, .inl (c3, 32, .inl (fun _ => 0)))] H := hP
  have hD : va_D A [(h0, .inr (9, [.int 0, .ref q1, .int 0, .ref q2, .int 0, .int 0, .int (-1), .int 0, .ref q3, .null, .null, .int 0, .int 0, .null, .null, .null, .null, .null, .int 0, .int 0, .int 0, .null, .null, .null, .null, .null, .int 0, .int 0, .null, .null, .null, .null, .null, .null, .null, .null, .null, .int 0])), (q1, .inl (c1, 1040, .inl (fun _ => 0))), (q2, .inl (c2, 1040, .inl (fun _ => 0))), (q3, .inl (c3, 32, .inl (fun _ => 0)))] := hD
  refine lv_aload_n hx hb (show decode prog_13_method_1_code 35 = .ok (.aload_n 0, 1) from by decide +kernel) rfl (lv_at hl 0 rfl) ?_
  refine lv_sipush (n := 256) (v := 256) hx hb (by decide +kernel) (by decide) ?_
  refine va_newa (atype := .int) (ty := .int) (a0 := (256, .inl (fun _ => 0))) hx hb (gc_arr hT args (ty := .int) (by simp)) rfl hK hP hD hS hA (fun _ => rfl) (by decide) (N' := 256) (by decide) (by decide) (Nat.le_of_ble_eq_true rfl) (Nat.le_of_ble_eq_true rfl) (show decode prog_13_method_1_code 39 = .ok (.newarray .int, 2) from by decide +kernel) (fun q4 c4 H hK hP hD hS => ?_)
  have hP : va_P (dC, dI) vwCl [(h0, .inr (9, [.int 0, .ref q1, .int 0, .ref q2, .int 0, .int 0, .int (-1), .int 0, .ref q3, .null, .null, .int 0, .int 0, .null, .null, .null, .null, .null, .int 0, .int 0, .int 0, .null, .null, .null, .null, .null, .int 0, .int 0, .null, .null, .null, .null, .null, .null, .null, .null, .null, .int 0])), (q1, .inl (c1, 1040, .inl (fun _ => 0))), (q2, .inl (c2, 1040, .inl (fun _ => 0))), (q3, .inl (c3, 32, .inl (fun _ => 0))), (q4, .inl (c4, 256, .inl (fun _ => 0)))] H := hP
  have hD : va_D A [(h0, .inr (9, [.int 0, .ref q1, .int 0, .ref q2, .int 0, .int 0, .int (-1), .int 0, .ref q3, .null, .null, .int 0, .int 0, .null, .null, .null, .null, .null, .int 0, .int 0, .int 0, .null, .null, .null, .null, .null, .int 0, .int 0, .null, .null, .null, .null, .null, .null, .null, .null, .null, .int 0])), (q1, .inl (c1, 1040, .inl (fun _ => 0))), (q2, .inl (c2, 1040, .inl (fun _ => 0))), (q3, .inl (c3, 32, .inl (fun _ => 0))), (q4, .inl (c4, 256, .inl (fun _ => 0)))] := hD
  have hK : va_K (dC, dI) vwCl [(c1, .int), (c2, .int), (c3, .int), (c4, .int)] s := hK
  refine W.widen (k := 4) (n := 2368) (Nat.le_refl _) (Nat.le_refl _) ?_
  refine va_putF (D := (dC, dI)) (ci := 9) (v := .ref q4) (ty := .array .int) (C := "GuessFencesModel") (T := gf_T9) (N := 38) hx hb hts lays_9 gf_y9 gf_ty9 gf_nm9 hown hK hP hD hS 0 rfl rfl 9 (by decide) (hts (.fieldLink "GuessFencesModel" 23 "GuessFencesModel" "memory" "[I") (gv_i6 131 rfl rfl)) (fun _ h9 => h9) rfl hin rfl (by decide +kernel) rfl rfl (Nat.le_of_ble_eq_true rfl) (by decide +kernel) (fun H locs hP hD hS => ?_)
  have hP : va_P (dC, dI) vwCl [(h0, .inr (9, [.int 0, .ref q1, .int 0, .ref q2, .int 0, .int 0, .int (-1), .int 0, .ref q3, .ref q4, .null, .int 0, .int 0, .null, .null, .null, .null, .null, .int 0, .int 0, .int 0, .null, .null, .null, .null, .null, .int 0, .int 0, .null, .null, .null, .null, .null, .null, .null, .null, .null, .int 0])), (q1, .inl (c1, 1040, .inl (fun _ => 0))), (q2, .inl (c2, 1040, .inl (fun _ => 0))), (q3, .inl (c3, 32, .inl (fun _ => 0))), (q4, .inl (c4, 256, .inl (fun _ => 0)))] H := hP
  have hD : va_D A [(h0, .inr (9, [.int 0, .ref q1, .int 0, .ref q2, .int 0, .int 0, .int (-1), .int 0, .ref q3, .ref q4, .null, .int 0, .int 0, .null, .null, .null, .null, .null, .int 0, .int 0, .int 0, .null, .null, .null, .null, .null, .int 0, .int 0, .null, .null, .null, .null, .null, .null, .null, .null, .null, .int 0])), (q1, .inl (c1, 1040, .inl (fun _ => 0))), (q2, .inl (c2, 1040, .inl (fun _ => 0))), (q3, .inl (c3, 32, .inl (fun _ => 0))), (q4, .inl (c4, 256, .inl (fun _ => 0)))] := hD
  refine lv_aload_n hx hb (show decode prog_13_method_1_code 44 = .ok (.aload_n 0, 1) from by decide +kernel) rfl (lv_at hl 0 rfl) ?_
  refine lv_sipush (n := 2048) (v := 2048) hx hb (by decide +kernel) (by decide) ?_
  refine va_newa (atype := .long) (ty := .long) (a0 := (2048, .inr (.inl (fun _ => 0)))) hx hb (gc_arr hT args (ty := .long) (by simp)) rfl hK hP hD hS hA (fun _ => rfl) (by decide) (N' := 2048) (by decide) (by decide) (Nat.le_of_ble_eq_true rfl) (Nat.le_of_ble_eq_true rfl) (show decode prog_13_method_1_code 48 = .ok (.newarray .long, 2) from by decide +kernel) (fun q5 c5 H hK hP hD hS => ?_)
  have hP : va_P (dC, dI) vwCl [(h0, .inr (9, [.int 0, .ref q1, .int 0, .ref q2, .int 0, .int 0, .int (-1), .int 0, .ref q3, .ref q4, .null, .int 0, .int 0, .null, .null, .null, .null, .null, .int 0, .int 0, .int 0, .null, .null, .null, .null, .null, .int 0, .int 0, .null, .null, .null, .null, .null, .null, .null, .null, .null, .int 0])), (q1, .inl (c1, 1040, .inl (fun _ => 0))), (q2, .inl (c2, 1040, .inl (fun _ => 0))), (q3, .inl (c3, 32, .inl (fun _ => 0))), (q4, .inl (c4, 256, .inl (fun _ => 0))), (q5, .inl (c5, 2048, .inr (.inl (fun _ => 0))))] H := hP
  have hD : va_D A [(h0, .inr (9, [.int 0, .ref q1, .int 0, .ref q2, .int 0, .int 0, .int (-1), .int 0, .ref q3, .ref q4, .null, .int 0, .int 0, .null, .null, .null, .null, .null, .int 0, .int 0, .int 0, .null, .null, .null, .null, .null, .int 0, .int 0, .null, .null, .null, .null, .null, .null, .null, .null, .null, .int 0])), (q1, .inl (c1, 1040, .inl (fun _ => 0))), (q2, .inl (c2, 1040, .inl (fun _ => 0))), (q3, .inl (c3, 32, .inl (fun _ => 0))), (q4, .inl (c4, 256, .inl (fun _ => 0))), (q5, .inl (c5, 2048, .inr (.inl (fun _ => 0))))] := hD
  have hK : va_K (dC, dI) vwCl [(c1, .int), (c2, .int), (c3, .int), (c4, .int), (c5, .long)] s := hK
  refine W.widen (k := 5) (n := 4416) (Nat.le_refl _) (Nat.le_refl _) ?_
  refine va_putF (D := (dC, dI)) (ci := 9) (v := .ref q5) (ty := .array .long) (C := "GuessFencesModel") (T := gf_T9) (N := 38) hx hb hts lays_9 gf_y9 gf_ty9 gf_nm9 hown hK hP hD hS 0 rfl rfl 10 (by decide) (hts (.fieldLink "GuessFencesModel" 26 "GuessFencesModel" "leaks" "[J") (gv_i6 132 rfl rfl)) (fun _ h9 => h9) rfl hin rfl (by decide +kernel) rfl rfl (Nat.le_of_ble_eq_true rfl) (by decide +kernel) (fun H locs hP hD hS => ?_)
  have hP : va_P (dC, dI) vwCl [(h0, .inr (9, [.int 0, .ref q1, .int 0, .ref q2, .int 0, .int 0, .int (-1), .int 0, .ref q3, .ref q4, .ref q5, .int 0, .int 0, .null, .null, .null, .null, .null, .int 0, .int 0, .int 0, .null, .null, .null, .null, .null, .int 0, .int 0, .null, .null, .null, .null, .null, .null, .null, .null, .null, .int 0])), (q1, .inl (c1, 1040, .inl (fun _ => 0))), (q2, .inl (c2, 1040, .inl (fun _ => 0))), (q3, .inl (c3, 32, .inl (fun _ => 0))), (q4, .inl (c4, 256, .inl (fun _ => 0))), (q5, .inl (c5, 2048, .inr (.inl (fun _ => 0))))] H := hP
  have hD : va_D A [(h0, .inr (9, [.int 0, .ref q1, .int 0, .ref q2, .int 0, .int 0, .int (-1), .int 0, .ref q3, .ref q4, .ref q5, .int 0, .int 0, .null, .null, .null, .null, .null, .int 0, .int 0, .int 0, .null, .null, .null, .null, .null, .int 0, .int 0, .null, .null, .null, .null, .null, .null, .null, .null, .null, .int 0])), (q1, .inl (c1, 1040, .inl (fun _ => 0))), (q2, .inl (c2, 1040, .inl (fun _ => 0))), (q3, .inl (c3, 32, .inl (fun _ => 0))), (q4, .inl (c4, 256, .inl (fun _ => 0))), (q5, .inl (c5, 2048, .inr (.inl (fun _ => 0))))] := hD
  refine lv_aload_n hx hb (show decode prog_13_method_1_code 53 = .ok (.aload_n 0, 1) from by decide +kernel) rfl (lv_at hl 0 rfl) ?_
  refine lv_bipush (n := 16) (v := 16) hx hb (by decide +kernel) (by decide) ?_
  refine va_put (D := (dC, dI)) (ci := 9) (v := .int 16) (ty := .int) (C := "GuessFencesModel") (T := gf_T9) (N := 38) hx hb hts lays_9 gf_y9 gf_ty9 gf_nm9 hown hK hP hD hS 0 rfl rfl 12 (by decide) (hts (.fieldLink "GuessFencesModel" 30 "GuessFencesModel" "window" "I") (gv_i6 134 rfl rfl)) (fun _ h9 => h9) rfl (by decide +kernel) rfl rfl (Nat.le_of_ble_eq_true rfl) (by decide +kernel) (fun H locs hP hD hS => ?_)
  have hP : va_P (dC, dI) vwCl [(h0, .inr (9, [.int 0, .ref q1, .int 0, .ref q2, .int 0, .int 0, .int (-1), .int 0, .ref q3, .ref q4, .ref q5, .int 0, .int 16, .null, .null, .null, .null, .null, .int 0, .int 0, .int 0, .null, .null, .null, .null, .null, .int 0, .int 0, .null, .null, .null, .null, .null, .null, .null, .null, .null, .int 0])), (q1, .inl (c1, 1040, .inl (fun _ => 0))), (q2, .inl (c2, 1040, .inl (fun _ => 0))), (q3, .inl (c3, 32, .inl (fun _ => 0))), (q4, .inl (c4, 256, .inl (fun _ => 0))), (q5, .inl (c5, 2048, .inr (.inl (fun _ => 0))))] H := hP
  have hD : va_D A [(h0, .inr (9, [.int 0, .ref q1, .int 0, .ref q2, .int 0, .int 0, .int (-1), .int 0, .ref q3, .ref q4, .ref q5, .int 0, .int 16, .null, .null, .null, .null, .null, .int 0, .int 0, .int 0, .null, .null, .null, .null, .null, .int 0, .int 0, .null, .null, .null, .null, .null, .null, .null, .null, .null, .int 0])), (q1, .inl (c1, 1040, .inl (fun _ => 0))), (q2, .inl (c2, 1040, .inl (fun _ => 0))), (q3, .inl (c3, 32, .inl (fun _ => 0))), (q4, .inl (c4, 256, .inl (fun _ => 0))), (q5, .inl (c5, 2048, .inr (.inl (fun _ => 0))))] := hD
  refine lv_aload_n hx hb (show decode prog_13_method_1_code 59 = .ok (.aload_n 0, 1) from by decide +kernel) rfl (lv_at hl 0 rfl) ?_
  refine lv_sipush (n := 512) (v := 512) hx hb (by decide +kernel) (by decide) ?_
  refine va_newa (atype := .int) (ty := .int) (a0 := (512, .inl (fun _ => 0))) hx hb (gc_arr hT args (ty := .int) (by simp)) rfl hK hP hD hS hA (fun _ => rfl) (by decide) (N' := 512) (by decide) (by decide) (Nat.le_of_ble_eq_true rfl) (Nat.le_of_ble_eq_true rfl) (show decode prog_13_method_1_code 63 = .ok (.newarray .int, 2) from by decide +kernel) (fun q6 c6 H hK hP hD hS => ?_)
  have hP : va_P (dC, dI) vwCl [(h0, .inr (9, [.int 0, .ref q1, .int 0, .ref q2, .int 0, .int 0, .int (-1), .int 0, .ref q3, .ref q4, .ref q5, .int 0, .int 16, .null, .null, .null, .null, .null, .int 0, .int 0, .int 0, .null, .null, .null, .null, .null, .int 0, .int 0, .null, .null, .null, .null, .null, .null, .null, .null, .null, .int 0])), (q1, .inl (c1, 1040, .inl (fun _ => 0))), (q2, .inl (c2, 1040, .inl (fun _ => 0))), (q3, .inl (c3, 32, .inl (fun _ => 0))), (q4, .inl (c4, 256, .inl (fun _ => 0))), (q5, .inl (c5, 2048, .inr (.inl (fun _ => 0)))), (q6, .inl (c6, 512, .inl (fun _ => 0)))] H := hP
  have hD : va_D A [(h0, .inr (9, [.int 0, .ref q1, .int 0, .ref q2, .int 0, .int 0, .int (-1), .int 0, .ref q3, .ref q4, .ref q5, .int 0, .int 16, .null, .null, .null, .null, .null, .int 0, .int 0, .int 0, .null, .null, .null, .null, .null, .int 0, .int 0, .null, .null, .null, .null, .null, .null, .null, .null, .null, .int 0])), (q1, .inl (c1, 1040, .inl (fun _ => 0))), (q2, .inl (c2, 1040, .inl (fun _ => 0))), (q3, .inl (c3, 32, .inl (fun _ => 0))), (q4, .inl (c4, 256, .inl (fun _ => 0))), (q5, .inl (c5, 2048, .inr (.inl (fun _ => 0)))), (q6, .inl (c6, 512, .inl (fun _ => 0)))] := hD
  have hK : va_K (dC, dI) vwCl [(c1, .int), (c2, .int), (c3, .int), (c4, .int), (c5, .long), (c6, .int)] s := hK
  refine W.widen (k := 6) (n := 4928) (Nat.le_refl _) (Nat.le_refl _) ?_
  refine va_putF (D := (dC, dI)) (ci := 9) (v := .ref q6) (ty := .array .int) (C := "GuessFencesModel") (T := gf_T9) (N := 38) hx hb hts lays_9 gf_y9 gf_ty9 gf_nm9 hown hK hP hD hS 0 rfl rfl 13 (by decide) (hts (.fieldLink "GuessFencesModel" 33 "GuessFencesModel" "keptRegisters" "[I") (gv_i6 135 rfl rfl)) (fun _ h9 => h9) rfl hin rfl (by decide +kernel) rfl rfl (Nat.le_of_ble_eq_true rfl) (by decide +kernel) (fun H locs hP hD hS => ?_)
  have hP : va_P (dC, dI) vwCl [(h0, .inr (9, [.int 0, .ref q1, .int 0, .ref q2, .int 0, .int 0, .int (-1), .int 0, .ref q3, .ref q4, .ref q5, .int 0, .int 16, .ref q6, .null, .null, .null, .null, .int 0, .int 0, .int 0, .null, .null, .null, .null, .null, .int 0, .int 0, .null, .null, .null, .null, .null, .null, .null, .null, .null, .int 0])), (q1, .inl (c1, 1040, .inl (fun _ => 0))), (q2, .inl (c2, 1040, .inl (fun _ => 0))), (q3, .inl (c3, 32, .inl (fun _ => 0))), (q4, .inl (c4, 256, .inl (fun _ => 0))), (q5, .inl (c5, 2048, .inr (.inl (fun _ => 0)))), (q6, .inl (c6, 512, .inl (fun _ => 0)))] H := hP
  have hD : va_D A [(h0, .inr (9, [.int 0, .ref q1, .int 0, .ref q2, .int 0, .int 0, .int (-1), .int 0, .ref q3, .ref q4, .ref q5, .int 0, .int 16, .ref q6, .null, .null, .null, .null, .int 0, .int 0, .int 0, .null, .null, .null, .null, .null, .int 0, .int 0, .null, .null, .null, .null, .null, .null, .null, .null, .null, .int 0])), (q1, .inl (c1, 1040, .inl (fun _ => 0))), (q2, .inl (c2, 1040, .inl (fun _ => 0))), (q3, .inl (c3, 32, .inl (fun _ => 0))), (q4, .inl (c4, 256, .inl (fun _ => 0))), (q5, .inl (c5, 2048, .inr (.inl (fun _ => 0)))), (q6, .inl (c6, 512, .inl (fun _ => 0)))] := hD
  refine lv_aload_n hx hb (show decode prog_13_method_1_code 68 = .ok (.aload_n 0, 1) from by decide +kernel) rfl (lv_at hl 0 rfl) ?_
  refine lv_sipush (n := 4096) (v := 4096) hx hb (by decide +kernel) (by decide) ?_
  refine va_newa (atype := .int) (ty := .int) (a0 := (4096, .inl (fun _ => 0))) hx hb (gc_arr hT args (ty := .int) (by simp)) rfl hK hP hD hS hA (fun _ => rfl) (by decide) (N' := 4096) (by decide) (by decide) (Nat.le_of_ble_eq_true rfl) (Nat.le_of_ble_eq_true rfl) (show decode prog_13_method_1_code 72 = .ok (.newarray .int, 2) from by decide +kernel) (fun q7 c7 H hK hP hD hS => ?_)
  have hP : va_P (dC, dI) vwCl [(h0, .inr (9, [.int 0, .ref q1, .int 0, .ref q2, .int 0, .int 0, .int (-1), .int 0, .ref q3, .ref q4, .ref q5, .int 0, .int 16, .ref q6, .null, .null, .null, .null, .int 0, .int 0, .int 0, .null, .null, .null, .null, .null, .int 0, .int 0, .null, .null, .null, .null, .null, .null, .null, .null, .null, .int 0])), (q1, .inl (c1, 1040, .inl (fun _ => 0))), (q2, .inl (c2, 1040, .inl (fun _ => 0))), (q3, .inl (c3, 32, .inl (fun _ => 0))), (q4, .inl (c4, 256, .inl (fun _ => 0))), (q5, .inl (c5, 2048, .inr (.inl (fun _ => 0)))), (q6, .inl (c6, 512, .inl (fun _ => 0))), (q7, .inl (c7, 4096, .inl (fun _ => 0)))] H := hP
  have hD : va_D A [(h0, .inr (9, [.int 0, .ref q1, .int 0, .ref q2, .int 0, .int 0, .int (-1), .int 0, .ref q3, .ref q4, .ref q5, .int 0, .int 16, .ref q6, .null, .null, .null, .null, .int 0, .int 0, .int 0, .null, .null, .null, .null, .null, .int 0, .int 0, .null, .null, .null, .null, .null, .null, .null, .null, .null, .int 0])), (q1, .inl (c1, 1040, .inl (fun _ => 0))), (q2, .inl (c2, 1040, .inl (fun _ => 0))), (q3, .inl (c3, 32, .inl (fun _ => 0))), (q4, .inl (c4, 256, .inl (fun _ => 0))), (q5, .inl (c5, 2048, .inr (.inl (fun _ => 0)))), (q6, .inl (c6, 512, .inl (fun _ => 0))), (q7, .inl (c7, 4096, .inl (fun _ => 0)))] := hD
  have hK : va_K (dC, dI) vwCl [(c1, .int), (c2, .int), (c3, .int), (c4, .int), (c5, .long), (c6, .int), (c7, .int)] s := hK
  refine W.widen (k := 7) (n := 9024) (Nat.le_refl _) (Nat.le_refl _) ?_
  refine va_putF (D := (dC, dI)) (ci := 9) (v := .ref q7) (ty := .array .int) (C := "GuessFencesModel") (T := gf_T9) (N := 38) hx hb hts lays_9 gf_y9 gf_ty9 gf_nm9 hown hK hP hD hS 0 rfl rfl 14 (by decide) (hts (.fieldLink "GuessFencesModel" 36 "GuessFencesModel" "keptMemory" "[I") (gv_i6 136 rfl rfl)) (fun _ h9 => h9) rfl hin rfl (by decide +kernel) rfl rfl (Nat.le_of_ble_eq_true rfl) (by decide +kernel) (fun H locs hP hD hS => ?_)
  have hP : va_P (dC, dI) vwCl [(h0, .inr (9, [.int 0, .ref q1, .int 0, .ref q2, .int 0, .int 0, .int (-1), .int 0, .ref q3, .ref q4, .ref q5, .int 0, .int 16, .ref q6, .ref q7, .null, .null, .null, .int 0, .int 0, .int 0, .null, .null, .null, .null, .null, .int 0, .int 0, .null, .null, .null, .null, .null, .null, .null, .null, .null, .int 0])), (q1, .inl (c1, 1040, .inl (fun _ => 0))), (q2, .inl (c2, 1040, .inl (fun _ => 0))), (q3, .inl (c3, 32, .inl (fun _ => 0))), (q4, .inl (c4, 256, .inl (fun _ => 0))), (q5, .inl (c5, 2048, .inr (.inl (fun _ => 0)))), (q6, .inl (c6, 512, .inl (fun _ => 0))), (q7, .inl (c7, 4096, .inl (fun _ => 0)))] H := hP
  have hD : va_D A [(h0, .inr (9, [.int 0, .ref q1, .int 0, .ref q2, .int 0, .int 0, .int (-1), .int 0, .ref q3, .ref q4, .ref q5, .int 0, .int 16, .ref q6, .ref q7, .null, .null, .null, .int 0, .int 0, .int 0, .null, .null, .null, .null, .null, .int 0, .int 0, .null, .null, .null, .null, .null, .null, .null, .null, .null, .int 0])), (q1, .inl (c1, 1040, .inl (fun _ => 0))), (q2, .inl (c2, 1040, .inl (fun _ => 0))), (q3, .inl (c3, 32, .inl (fun _ => 0))), (q4, .inl (c4, 256, .inl (fun _ => 0))), (q5, .inl (c5, 2048, .inr (.inl (fun _ => 0)))), (q6, .inl (c6, 512, .inl (fun _ => 0))), (q7, .inl (c7, 4096, .inl (fun _ => 0)))] := hD
  refine lv_aload_n hx hb (show decode prog_13_method_1_code 77 = .ok (.aload_n 0, 1) from by decide +kernel) rfl (lv_at hl 0 rfl) ?_
  refine lv_bipush (n := 16) (v := 16) hx hb (by decide +kernel) (by decide) ?_
  refine va_newa (atype := .int) (ty := .int) (a0 := (16, .inl (fun _ => 0))) hx hb (gc_arr hT args (ty := .int) (by simp)) rfl hK hP hD hS hA (fun _ => rfl) (by decide) (N' := 16) (by decide) (by decide) (Nat.le_of_ble_eq_true rfl) (Nat.le_of_ble_eq_true rfl) (show decode prog_13_method_1_code 80 = .ok (.newarray .int, 2) from by decide +kernel) (fun q8 c8 H hK hP hD hS => ?_)
  have hP : va_P (dC, dI) vwCl [(h0, .inr (9, [.int 0, .ref q1, .int 0, .ref q2, .int 0, .int 0, .int (-1), .int 0, .ref q3, .ref q4, .ref q5, .int 0, .int 16, .ref q6, .ref q7, .null, .null, .null, .int 0, .int 0, .int 0, .null, .null, .null, .null, .null, .int 0, .int 0, .null, .null, .null, .null, .null, .null, .null, .null, .null, .int 0])), (q1, .inl (c1, 1040, .inl (fun _ => 0))), (q2, .inl (c2, 1040, .inl (fun _ => 0))), (q3, .inl (c3, 32, .inl (fun _ => 0))), (q4, .inl (c4, 256, .inl (fun _ => 0))), (q5, .inl (c5, 2048, .inr (.inl (fun _ => 0)))), (q6, .inl (c6, 512, .inl (fun _ => 0))), (q7, .inl (c7, 4096, .inl (fun _ => 0))), (q8, .inl (c8, 16, .inl (fun _ => 0)))] H := hP
  have hD : va_D A [(h0, .inr (9, [.int 0, .ref q1, .int 0, .ref q2, .int 0, .int 0, .int (-1), .int 0, .ref q3, .ref q4, .ref q5, .int 0, .int 16, .ref q6, .ref q7, .null, .null, .null, .int 0, .int 0, .int 0, .null, .null, .null, .null, .null, .int 0, .int 0, .null, .null, .null, .null, .null, .null, .null, .null, .null, .int 0])), (q1, .inl (c1, 1040, .inl (fun _ => 0))), (q2, .inl (c2, 1040, .inl (fun _ => 0))), (q3, .inl (c3, 32, .inl (fun _ => 0))), (q4, .inl (c4, 256, .inl (fun _ => 0))), (q5, .inl (c5, 2048, .inr (.inl (fun _ => 0)))), (q6, .inl (c6, 512, .inl (fun _ => 0))), (q7, .inl (c7, 4096, .inl (fun _ => 0))), (q8, .inl (c8, 16, .inl (fun _ => 0)))] := hD
  have hK : va_K (dC, dI) vwCl [(c1, .int), (c2, .int), (c3, .int), (c4, .int), (c5, .long), (c6, .int), (c7, .int), (c8, .int)] s := hK
  refine W.widen (k := 8) (n := 9040) (Nat.le_refl _) (Nat.le_refl _) ?_
  refine va_putF (D := (dC, dI)) (ci := 9) (v := .ref q8) (ty := .array .int) (C := "GuessFencesModel") (T := gf_T9) (N := 38) hx hb hts lays_9 gf_y9 gf_ty9 gf_nm9 hown hK hP hD hS 0 rfl rfl 15 (by decide) (hts (.fieldLink "GuessFencesModel" 39 "GuessFencesModel" "keptPlaces" "[I") (gv_i6 137 rfl rfl)) (fun _ h9 => h9) rfl hin rfl (by decide +kernel) rfl rfl (Nat.le_of_ble_eq_true rfl) (by decide +kernel) (fun H locs hP hD hS => ?_)
  have hP : va_P (dC, dI) vwCl [(h0, .inr (9, [.int 0, .ref q1, .int 0, .ref q2, .int 0, .int 0, .int (-1), .int 0, .ref q3, .ref q4, .ref q5, .int 0, .int 16, .ref q6, .ref q7, .ref q8, .null, .null, .int 0, .int 0, .int 0, .null, .null, .null, .null, .null, .int 0, .int 0, .null, .null, .null, .null, .null, .null, .null, .null, .null, .int 0])), (q1, .inl (c1, 1040, .inl (fun _ => 0))), (q2, .inl (c2, 1040, .inl (fun _ => 0))), (q3, .inl (c3, 32, .inl (fun _ => 0))), (q4, .inl (c4, 256, .inl (fun _ => 0))), (q5, .inl (c5, 2048, .inr (.inl (fun _ => 0)))), (q6, .inl (c6, 512, .inl (fun _ => 0))), (q7, .inl (c7, 4096, .inl (fun _ => 0))), (q8, .inl (c8, 16, .inl (fun _ => 0)))] H := hP
  have hD : va_D A [(h0, .inr (9, [.int 0, .ref q1, .int 0, .ref q2, .int 0, .int 0, .int (-1), .int 0, .ref q3, .ref q4, .ref q5, .int 0, .int 16, .ref q6, .ref q7, .ref q8, .null, .null, .int 0, .int 0, .int 0, .null, .null, .null, .null, .null, .int 0, .int 0, .null, .null, .null, .null, .null, .null, .null, .null, .null, .int 0])), (q1, .inl (c1, 1040, .inl (fun _ => 0))), (q2, .inl (c2, 1040, .inl (fun _ => 0))), (q3, .inl (c3, 32, .inl (fun _ => 0))), (q4, .inl (c4, 256, .inl (fun _ => 0))), (q5, .inl (c5, 2048, .inr (.inl (fun _ => 0)))), (q6, .inl (c6, 512, .inl (fun _ => 0))), (q7, .inl (c7, 4096, .inl (fun _ => 0))), (q8, .inl (c8, 16, .inl (fun _ => 0)))] := hD
  refine lv_aload_n hx hb (show decode prog_13_method_1_code 85 = .ok (.aload_n 0, 1) from by decide +kernel) rfl (lv_at hl 0 rfl) ?_
  refine lv_bipush (n := 16) (v := 16) hx hb (by decide +kernel) (by decide) ?_
  refine va_newa (atype := .int) (ty := .int) (a0 := (16, .inl (fun _ => 0))) hx hb (gc_arr hT args (ty := .int) (by simp)) rfl hK hP hD hS hA (fun _ => rfl) (by decide) (N' := 16) (by decide) (by decide) (Nat.le_of_ble_eq_true rfl) (Nat.le_of_ble_eq_true rfl) (show decode prog_13_method_1_code 88 = .ok (.newarray .int, 2) from by decide +kernel) (fun q9 c9 H hK hP hD hS => ?_)
  have hP : va_P (dC, dI) vwCl [(h0, .inr (9, [.int 0, .ref q1, .int 0, .ref q2, .int 0, .int 0, .int (-1), .int 0, .ref q3, .ref q4, .ref q5, .int 0, .int 16, .ref q6, .ref q7, .ref q8, .null, .null, .int 0, .int 0, .int 0, .null, .null, .null, .null, .null, .int 0, .int 0, .null, .null, .null, .null, .null, .null, .null, .null, .null, .int 0])), (q1, .inl (c1, 1040, .inl (fun _ => 0))), (q2, .inl (c2, 1040, .inl (fun _ => 0))), (q3, .inl (c3, 32, .inl (fun _ => 0))), (q4, .inl (c4, 256, .inl (fun _ => 0))), (q5, .inl (c5, 2048, .inr (.inl (fun _ => 0)))), (q6, .inl (c6, 512, .inl (fun _ => 0))), (q7, .inl (c7, 4096, .inl (fun _ => 0))), (q8, .inl (c8, 16, .inl (fun _ => 0))), (q9, .inl (c9, 16, .inl (fun _ => 0)))] H := hP
  have hD : va_D A [(h0, .inr (9, [.int 0, .ref q1, .int 0, .ref q2, .int 0, .int 0, .int (-1), .int 0, .ref q3, .ref q4, .ref q5, .int 0, .int 16, .ref q6, .ref q7, .ref q8, .null, .null, .int 0, .int 0, .int 0, .null, .null, .null, .null, .null, .int 0, .int 0, .null, .null, .null, .null, .null, .null, .null, .null, .null, .int 0])), (q1, .inl (c1, 1040, .inl (fun _ => 0))), (q2, .inl (c2, 1040, .inl (fun _ => 0))), (q3, .inl (c3, 32, .inl (fun _ => 0))), (q4, .inl (c4, 256, .inl (fun _ => 0))), (q5, .inl (c5, 2048, .inr (.inl (fun _ => 0)))), (q6, .inl (c6, 512, .inl (fun _ => 0))), (q7, .inl (c7, 4096, .inl (fun _ => 0))), (q8, .inl (c8, 16, .inl (fun _ => 0))), (q9, .inl (c9, 16, .inl (fun _ => 0)))] := hD
  have hK : va_K (dC, dI) vwCl [(c1, .int), (c2, .int), (c3, .int), (c4, .int), (c5, .long), (c6, .int), (c7, .int), (c8, .int), (c9, .int)] s := hK
  refine W.widen (k := 9) (n := 9056) (Nat.le_refl _) (Nat.le_refl _) ?_
  refine va_putF (D := (dC, dI)) (ci := 9) (v := .ref q9) (ty := .array .int) (C := "GuessFencesModel") (T := gf_T9) (N := 38) hx hb hts lays_9 gf_y9 gf_ty9 gf_nm9 hown hK hP hD hS 0 rfl rfl 16 (by decide) (hts (.fieldLink "GuessFencesModel" 42 "GuessFencesModel" "keptWays" "[I") (gv_i6 138 rfl rfl)) (fun _ h9 => h9) rfl hin rfl (by decide +kernel) rfl rfl (Nat.le_of_ble_eq_true rfl) (by decide +kernel) (fun H locs hP hD hS => ?_)
  have hP : va_P (dC, dI) vwCl [(h0, .inr (9, [.int 0, .ref q1, .int 0, .ref q2, .int 0, .int 0, .int (-1), .int 0, .ref q3, .ref q4, .ref q5, .int 0, .int 16, .ref q6, .ref q7, .ref q8, .ref q9, .null, .int 0, .int 0, .int 0, .null, .null, .null, .null, .null, .int 0, .int 0, .null, .null, .null, .null, .null, .null, .null, .null, .null, .int 0])), (q1, .inl (c1, 1040, .inl (fun _ => 0))), (q2, .inl (c2, 1040, .inl (fun _ => 0))), (q3, .inl (c3, 32, .inl (fun _ => 0))), (q4, .inl (c4, 256, .inl (fun _ => 0))), (q5, .inl (c5, 2048, .inr (.inl (fun _ => 0)))), (q6, .inl (c6, 512, .inl (fun _ => 0))), (q7, .inl (c7, 4096, .inl (fun _ => 0))), (q8, .inl (c8, 16, .inl (fun _ => 0))), (q9, .inl (c9, 16, .inl (fun _ => 0)))] H := hP
  have hD : va_D A [(h0, .inr (9, [.int 0, .ref q1, .int 0, .ref q2, .int 0, .int 0, .int (-1), .int 0, .ref q3, .ref q4, .ref q5, .int 0, .int 16, .ref q6, .ref q7, .ref q8, .ref q9, .null, .int 0, .int 0, .int 0, .null, .null, .null, .null, .null, .int 0, .int 0, .null, .null, .null, .null, .null, .null, .null, .null, .null, .int 0])), (q1, .inl (c1, 1040, .inl (fun _ => 0))), (q2, .inl (c2, 1040, .inl (fun _ => 0))), (q3, .inl (c3, 32, .inl (fun _ => 0))), (q4, .inl (c4, 256, .inl (fun _ => 0))), (q5, .inl (c5, 2048, .inr (.inl (fun _ => 0)))), (q6, .inl (c6, 512, .inl (fun _ => 0))), (q7, .inl (c7, 4096, .inl (fun _ => 0))), (q8, .inl (c8, 16, .inl (fun _ => 0))), (q9, .inl (c9, 16, .inl (fun _ => 0)))] := hD
  refine lv_aload_n hx hb (show decode prog_13_method_1_code 93 = .ok (.aload_n 0, 1) from by decide +kernel) rfl (lv_at hl 0 rfl) ?_
  refine lv_bipush (n := 16) (v := 16) hx hb (by decide +kernel) (by decide) ?_
  refine va_newa (atype := .int) (ty := .int) (a0 := (16, .inl (fun _ => 0))) hx hb (gc_arr hT args (ty := .int) (by simp)) rfl hK hP hD hS hA (fun _ => rfl) (by decide) (N' := 16) (by decide) (by decide) (Nat.le_of_ble_eq_true rfl) (Nat.le_of_ble_eq_true rfl) (show decode prog_13_method_1_code 96 = .ok (.newarray .int, 2) from by decide +kernel) (fun q10 c10 H hK hP hD hS => ?_)
  have hP : va_P (dC, dI) vwCl [(h0, .inr (9, [.int 0, .ref q1, .int 0, .ref q2, .int 0, .int 0, .int (-1), .int 0, .ref q3, .ref q4, .ref q5, .int 0, .int 16, .ref q6, .ref q7, .ref q8, .ref q9, .null, .int 0, .int 0, .int 0, .null, .null, .null, .null, .null, .int 0, .int 0, .null, .null, .null, .null, .null, .null, .null, .null, .null, .int 0])), (q1, .inl (c1, 1040, .inl (fun _ => 0))), (q2, .inl (c2, 1040, .inl (fun _ => 0))), (q3, .inl (c3, 32, .inl (fun _ => 0))), (q4, .inl (c4, 256, .inl (fun _ => 0))), (q5, .inl (c5, 2048, .inr (.inl (fun _ => 0)))), (q6, .inl (c6, 512, .inl (fun _ => 0))), (q7, .inl (c7, 4096, .inl (fun _ => 0))), (q8, .inl (c8, 16, .inl (fun _ => 0))), (q9, .inl (c9, 16, .inl (fun _ => 0))), (q10, .inl (c10, 16, .inl (fun _ => 0)))] H := hP
  have hD : va_D A [(h0, .inr (9, [.int 0, .ref q1, .int 0, .ref q2, .int 0, .int 0, .int (-1), .int 0, .ref q3, .ref q4, .ref q5, .int 0, .int 16, .ref q6, .ref q7, .ref q8, .ref q9, .null, .int 0, .int 0, .int 0, .null, .null, .null, .null, .null, .int 0, .int 0, .null, .null, .null, .null, .null, .null, .null, .null, .null, .int 0])), (q1, .inl (c1, 1040, .inl (fun _ => 0))), (q2, .inl (c2, 1040, .inl (fun _ => 0))), (q3, .inl (c3, 32, .inl (fun _ => 0))), (q4, .inl (c4, 256, .inl (fun _ => 0))), (q5, .inl (c5, 2048, .inr (.inl (fun _ => 0)))), (q6, .inl (c6, 512, .inl (fun _ => 0))), (q7, .inl (c7, 4096, .inl (fun _ => 0))), (q8, .inl (c8, 16, .inl (fun _ => 0))), (q9, .inl (c9, 16, .inl (fun _ => 0))), (q10, .inl (c10, 16, .inl (fun _ => 0)))] := hD
  have hK : va_K (dC, dI) vwCl [(c1, .int), (c2, .int), (c3, .int), (c4, .int), (c5, .long), (c6, .int), (c7, .int), (c8, .int), (c9, .int), (c10, .int)] s := hK
  refine W.widen (k := 10) (n := 9072) (Nat.le_refl _) (Nat.le_refl _) ?_
  refine va_putF (D := (dC, dI)) (ci := 9) (v := .ref q10) (ty := .array .int) (C := "GuessFencesModel") (T := gf_T9) (N := 38) hx hb hts lays_9 gf_y9 gf_ty9 gf_nm9 hown hK hP hD hS 0 rfl rfl 17 (by decide) (hts (.fieldLink "GuessFencesModel" 45 "GuessFencesModel" "keptSteps" "[I") (gv_i6 139 rfl rfl)) (fun _ h9 => h9) rfl hin rfl (by decide +kernel) rfl rfl (Nat.le_of_ble_eq_true rfl) (by decide +kernel) (fun H locs hP hD hS => ?_)
  have hP : va_P (dC, dI) vwCl [(h0, .inr (9, [.int 0, .ref q1, .int 0, .ref q2, .int 0, .int 0, .int (-1), .int 0, .ref q3, .ref q4, .ref q5, .int 0, .int 16, .ref q6, .ref q7, .ref q8, .ref q9, .ref q10, .int 0, .int 0, .int 0, .null, .null, .null, .null, .null, .int 0, .int 0, .null, .null, .null, .null, .null, .null, .null, .null, .null, .int 0])), (q1, .inl (c1, 1040, .inl (fun _ => 0))), (q2, .inl (c2, 1040, .inl (fun _ => 0))), (q3, .inl (c3, 32, .inl (fun _ => 0))), (q4, .inl (c4, 256, .inl (fun _ => 0))), (q5, .inl (c5, 2048, .inr (.inl (fun _ => 0)))), (q6, .inl (c6, 512, .inl (fun _ => 0))), (q7, .inl (c7, 4096, .inl (fun _ => 0))), (q8, .inl (c8, 16, .inl (fun _ => 0))), (q9, .inl (c9, 16, .inl (fun _ => 0))), (q10, .inl (c10, 16, .inl (fun _ => 0)))] H := hP
  have hD : va_D A [(h0, .inr (9, [.int 0, .ref q1, .int 0, .ref q2, .int 0, .int 0, .int (-1), .int 0, .ref q3, .ref q4, .ref q5, .int 0, .int 16, .ref q6, .ref q7, .ref q8, .ref q9, .ref q10, .int 0, .int 0, .int 0, .null, .null, .null, .null, .null, .int 0, .int 0, .null, .null, .null, .null, .null, .null, .null, .null, .null, .int 0])), (q1, .inl (c1, 1040, .inl (fun _ => 0))), (q2, .inl (c2, 1040, .inl (fun _ => 0))), (q3, .inl (c3, 32, .inl (fun _ => 0))), (q4, .inl (c4, 256, .inl (fun _ => 0))), (q5, .inl (c5, 2048, .inr (.inl (fun _ => 0)))), (q6, .inl (c6, 512, .inl (fun _ => 0))), (q7, .inl (c7, 4096, .inl (fun _ => 0))), (q8, .inl (c8, 16, .inl (fun _ => 0))), (q9, .inl (c9, 16, .inl (fun _ => 0))), (q10, .inl (c10, 16, .inl (fun _ => 0)))] := hD
  refine lv_aload_n hx hb (show decode prog_13_method_1_code 101 = .ok (.aload_n 0, 1) from by decide +kernel) rfl (lv_at hl 0 rfl) ?_
  refine lv_sipush (n := 1040) (v := 1040) hx hb (by decide +kernel) (by decide) ?_
  refine va_newa (atype := .boolean) (ty := .boolean) (a0 := (1040, .inl (fun _ => 0))) hx hb (gc_arr hT args (ty := .boolean) (by simp)) rfl hK hP hD hS hA (fun _ => rfl) (by decide) (N' := 1040) (by decide) (by decide) (Nat.le_of_ble_eq_true rfl) (Nat.le_of_ble_eq_true rfl) (show decode prog_13_method_1_code 105 = .ok (.newarray .boolean, 2) from by decide +kernel) (fun q11 c11 H hK hP hD hS => ?_)
  have hP : va_P (dC, dI) vwCl [(h0, .inr (9, [.int 0, .ref q1, .int 0, .ref q2, .int 0, .int 0, .int (-1), .int 0, .ref q3, .ref q4, .ref q5, .int 0, .int 16, .ref q6, .ref q7, .ref q8, .ref q9, .ref q10, .int 0, .int 0, .int 0, .null, .null, .null, .null, .null, .int 0, .int 0, .null, .null, .null, .null, .null, .null, .null, .null, .null, .int 0])), (q1, .inl (c1, 1040, .inl (fun _ => 0))), (q2, .inl (c2, 1040, .inl (fun _ => 0))), (q3, .inl (c3, 32, .inl (fun _ => 0))), (q4, .inl (c4, 256, .inl (fun _ => 0))), (q5, .inl (c5, 2048, .inr (.inl (fun _ => 0)))), (q6, .inl (c6, 512, .inl (fun _ => 0))), (q7, .inl (c7, 4096, .inl (fun _ => 0))), (q8, .inl (c8, 16, .inl (fun _ => 0))), (q9, .inl (c9, 16, .inl (fun _ => 0))), (q10, .inl (c10, 16, .inl (fun _ => 0))), (q11, .inl (c11, 1040, .inl (fun _ => 0)))] H := hP
  have hD : va_D A [(h0, .inr (9, [.int 0, .ref q1, .int 0, .ref q2, .int 0, .int 0, .int (-1), .int 0, .ref q3, .ref q4, .ref q5, .int 0, .int 16, .ref q6, .ref q7, .ref q8, .ref q9, .ref q10, .int 0, .int 0, .int 0, .null, .null, .null, .null, .null, .int 0, .int 0, .null, .null, .null, .null, .null, .null, .null, .null, .null, .int 0])), (q1, .inl (c1, 1040, .inl (fun _ => 0))), (q2, .inl (c2, 1040, .inl (fun _ => 0))), (q3, .inl (c3, 32, .inl (fun _ => 0))), (q4, .inl (c4, 256, .inl (fun _ => 0))), (q5, .inl (c5, 2048, .inr (.inl (fun _ => 0)))), (q6, .inl (c6, 512, .inl (fun _ => 0))), (q7, .inl (c7, 4096, .inl (fun _ => 0))), (q8, .inl (c8, 16, .inl (fun _ => 0))), (q9, .inl (c9, 16, .inl (fun _ => 0))), (q10, .inl (c10, 16, .inl (fun _ => 0))), (q11, .inl (c11, 1040, .inl (fun _ => 0)))] := hD
  have hK : va_K (dC, dI) vwCl [(c1, .int), (c2, .int), (c3, .int), (c4, .int), (c5, .long), (c6, .int), (c7, .int), (c8, .int), (c9, .int), (c10, .int), (c11, .boolean)] s := hK
  refine W.widen (k := 11) (n := 10112) (Nat.le_refl _) (Nat.le_refl _) ?_
  refine va_putF (D := (dC, dI)) (ci := 9) (v := .ref q11) (ty := .array .boolean) (C := "GuessFencesModel") (T := gf_T9) (N := 38) hx hb hts lays_9 gf_y9 gf_ty9 gf_nm9 hown hK hP hD hS 0 rfl rfl 21 (by decide) (hts (.fieldLink "GuessFencesModel" 48 "GuessFencesModel" "guessed" "[Z") (gv_i6 143 rfl rfl)) (fun _ h9 => h9) rfl hin rfl (by decide +kernel) rfl rfl (Nat.le_of_ble_eq_true rfl) (by decide +kernel) (fun H locs hP hD hS => ?_)
  have hP : va_P (dC, dI) vwCl [(h0, .inr (9, [.int 0, .ref q1, .int 0, .ref q2, .int 0, .int 0, .int (-1), .int 0, .ref q3, .ref q4, .ref q5, .int 0, .int 16, .ref q6, .ref q7, .ref q8, .ref q9, .ref q10, .int 0, .int 0, .int 0, .ref q11, .null, .null, .null, .null, .int 0, .int 0, .null, .null, .null, .null, .null, .null, .null, .null, .null, .int 0])), (q1, .inl (c1, 1040, .inl (fun _ => 0))), (q2, .inl (c2, 1040, .inl (fun _ => 0))), (q3, .inl (c3, 32, .inl (fun _ => 0))), (q4, .inl (c4, 256, .inl (fun _ => 0))), (q5, .inl (c5, 2048, .inr (.inl (fun _ => 0)))), (q6, .inl (c6, 512, .inl (fun _ => 0))), (q7, .inl (c7, 4096, .inl (fun _ => 0))), (q8, .inl (c8, 16, .inl (fun _ => 0))), (q9, .inl (c9, 16, .inl (fun _ => 0))), (q10, .inl (c10, 16, .inl (fun _ => 0))), (q11, .inl (c11, 1040, .inl (fun _ => 0)))] H := hP
  have hD : va_D A [(h0, .inr (9, [.int 0, .ref q1, .int 0, .ref q2, .int 0, .int 0, .int (-1), .int 0, .ref q3, .ref q4, .ref q5, .int 0, .int 16, .ref q6, .ref q7, .ref q8, .ref q9, .ref q10, .int 0, .int 0, .int 0, .ref q11, .null, .null, .null, .null, .int 0, .int 0, .null, .null, .null, .null, .null, .null, .null, .null, .null, .int 0])), (q1, .inl (c1, 1040, .inl (fun _ => 0))), (q2, .inl (c2, 1040, .inl (fun _ => 0))), (q3, .inl (c3, 32, .inl (fun _ => 0))), (q4, .inl (c4, 256, .inl (fun _ => 0))), (q5, .inl (c5, 2048, .inr (.inl (fun _ => 0)))), (q6, .inl (c6, 512, .inl (fun _ => 0))), (q7, .inl (c7, 4096, .inl (fun _ => 0))), (q8, .inl (c8, 16, .inl (fun _ => 0))), (q9, .inl (c9, 16, .inl (fun _ => 0))), (q10, .inl (c10, 16, .inl (fun _ => 0))), (q11, .inl (c11, 1040, .inl (fun _ => 0)))] := hD
  refine lv_aload_n hx hb (show decode prog_13_method_1_code 110 = .ok (.aload_n 0, 1) from by decide +kernel) rfl (lv_at hl 0 rfl) ?_
  refine lv_sipush (n := 1040) (v := 1040) hx hb (by decide +kernel) (by decide) ?_
  refine va_newa (atype := .boolean) (ty := .boolean) (a0 := (1040, .inl (fun _ => 0))) hx hb (gc_arr hT args (ty := .boolean) (by simp)) rfl hK hP hD hS hA (fun _ => rfl) (by decide) (N' := 1040) (by decide) (by decide) (Nat.le_of_ble_eq_true rfl) (Nat.le_of_ble_eq_true rfl) (show decode prog_13_method_1_code 114 = .ok (.newarray .boolean, 2) from by decide +kernel) (fun q12 c12 H hK hP hD hS => ?_)
  have hP : va_P (dC, dI) vwCl [(h0, .inr (9, [.int 0, .ref q1, .int 0, .ref q2, .int 0, .int 0, .int (-1), .int 0, .ref q3, .ref q4, .ref q5, .int 0, .int 16, .ref q6, .ref q7, .ref q8, .ref q9, .ref q10, .int 0, .int 0, .int 0, .ref q11, .null, .null, .null, .null, .int 0, .int 0, .null, .null, .null, .null, .null, .null, .null, .null, .null, .int 0])), (q1, .inl (c1, 1040, .inl (fun _ => 0))), (q2, .inl (c2, 1040, .inl (fun _ => 0))), (q3, .inl (c3, 32, .inl (fun _ => 0))), (q4, .inl (c4, 256, .inl (fun _ => 0))), (q5, .inl (c5, 2048, .inr (.inl (fun _ => 0)))), (q6, .inl (c6, 512, .inl (fun _ => 0))), (q7, .inl (c7, 4096, .inl (fun _ => 0))), (q8, .inl (c8, 16, .inl (fun _ => 0))), (q9, .inl (c9, 16, .inl (fun _ => 0))), (q10, .inl (c10, 16, .inl (fun _ => 0))), (q11, .inl (c11, 1040, .inl (fun _ => 0))), (q12, .inl (c12, 1040, .inl (fun _ => 0)))] H := hP
  have hD : va_D A [(h0, .inr (9, [.int 0, .ref q1, .int 0, .ref q2, .int 0, .int 0, .int (-1), .int 0, .ref q3, .ref q4, .ref q5, .int 0, .int 16, .ref q6, .ref q7, .ref q8, .ref q9, .ref q10, .int 0, .int 0, .int 0, .ref q11, .null, .null, .null, .null, .int 0, .int 0, .null, .null, .null, .null, .null, .null, .null, .null, .null, .int 0])), (q1, .inl (c1, 1040, .inl (fun _ => 0))), (q2, .inl (c2, 1040, .inl (fun _ => 0))), (q3, .inl (c3, 32, .inl (fun _ => 0))), (q4, .inl (c4, 256, .inl (fun _ => 0))), (q5, .inl (c5, 2048, .inr (.inl (fun _ => 0)))), (q6, .inl (c6, 512, .inl (fun _ => 0))), (q7, .inl (c7, 4096, .inl (fun _ => 0))), (q8, .inl (c8, 16, .inl (fun _ => 0))), (q9, .inl (c9, 16, .inl (fun _ => 0))), (q10, .inl (c10, 16, .inl (fun _ => 0))), (q11, .inl (c11, 1040, .inl (fun _ => 0))), (q12, .inl (c12, 1040, .inl (fun _ => 0)))] := hD
  have hK : va_K (dC, dI) vwCl [(c1, .int), (c2, .int), (c3, .int), (c4, .int), (c5, .long), (c6, .int), (c7, .int), (c8, .int), (c9, .int), (c10, .int), (c11, .boolean), (c12, .boolean)] s := hK
  refine W.widen (k := 12) (n := 11152) (Nat.le_refl _) (Nat.le_refl _) ?_
  refine va_putF (D := (dC, dI)) (ci := 9) (v := .ref q12) (ty := .array .boolean) (C := "GuessFencesModel") (T := gf_T9) (N := 38) hx hb hts lays_9 gf_y9 gf_ty9 gf_nm9 hown hK hP hD hS 0 rfl rfl 22 (by decide) (hts (.fieldLink "GuessFencesModel" 52 "GuessFencesModel" "tainted" "[Z") (gv_i6 144 rfl rfl)) (fun _ h9 => h9) rfl hin rfl (by decide +kernel) rfl rfl (Nat.le_of_ble_eq_true rfl) (by decide +kernel) (fun H locs hP hD hS => ?_)
  have hP : va_P (dC, dI) vwCl [(h0, .inr (9, [.int 0, .ref q1, .int 0, .ref q2, .int 0, .int 0, .int (-1), .int 0, .ref q3, .ref q4, .ref q5, .int 0, .int 16, .ref q6, .ref q7, .ref q8, .ref q9, .ref q10, .int 0, .int 0, .int 0, .ref q11, .ref q12, .null, .null, .null, .int 0, .int 0, .null, .null, .null, .null, .null, .null, .null, .null, .null, .int 0])), (q1, .inl (c1, 1040, .inl (fun _ => 0))), (q2, .inl (c2, 1040, .inl (fun _ => 0))), (q3, .inl (c3, 32, .inl (fun _ => 0))), (q4, .inl (c4, 256, .inl (fun _ => 0))), (q5, .inl (c5, 2048, .inr (.inl (fun _ => 0)))), (q6, .inl (c6, 512, .inl (fun _ => 0))), (q7, .inl (c7, 4096, .inl (fun _ => 0))), (q8, .inl (c8, 16, .inl (fun _ => 0))), (q9, .inl (c9, 16, .inl (fun _ => 0))), (q10, .inl (c10, 16, .inl (fun _ => 0))), (q11, .inl (c11, 1040, .inl (fun _ => 0))), (q12, .inl (c12, 1040, .inl (fun _ => 0)))] H := hP
  have hD : va_D A [(h0, .inr (9, [.int 0, .ref q1, .int 0, .ref q2, .int 0, .int 0, .int (-1), .int 0, .ref q3, .ref q4, .ref q5, .int 0, .int 16, .ref q6, .ref q7, .ref q8, .ref q9, .ref q10, .int 0, .int 0, .int 0, .ref q11, .ref q12, .null, .null, .null, .int 0, .int 0, .null, .null, .null, .null, .null, .null, .null, .null, .null, .int 0])), (q1, .inl (c1, 1040, .inl (fun _ => 0))), (q2, .inl (c2, 1040, .inl (fun _ => 0))), (q3, .inl (c3, 32, .inl (fun _ => 0))), (q4, .inl (c4, 256, .inl (fun _ => 0))), (q5, .inl (c5, 2048, .inr (.inl (fun _ => 0)))), (q6, .inl (c6, 512, .inl (fun _ => 0))), (q7, .inl (c7, 4096, .inl (fun _ => 0))), (q8, .inl (c8, 16, .inl (fun _ => 0))), (q9, .inl (c9, 16, .inl (fun _ => 0))), (q10, .inl (c10, 16, .inl (fun _ => 0))), (q11, .inl (c11, 1040, .inl (fun _ => 0))), (q12, .inl (c12, 1040, .inl (fun _ => 0)))] := hD
  refine lv_aload_n hx hb (show decode prog_13_method_1_code 119 = .ok (.aload_n 0, 1) from by decide +kernel) rfl (lv_at hl 0 rfl) ?_
  refine lv_sipush (n := 1040) (v := 1040) hx hb (by decide +kernel) (by decide) ?_
  refine va_newa (atype := .boolean) (ty := .boolean) (a0 := (1040, .inl (fun _ => 0))) hx hb (gc_arr hT args (ty := .boolean) (by simp)) rfl hK hP hD hS hA (fun _ => rfl) (by decide) (N' := 1040) (by decide) (by decide) (Nat.le_of_ble_eq_true rfl) (Nat.le_of_ble_eq_true rfl) (show decode prog_13_method_1_code 123 = .ok (.newarray .boolean, 2) from by decide +kernel) (fun q13 c13 H hK hP hD hS => ?_)
  have hP : va_P (dC, dI) vwCl [(h0, .inr (9, [.int 0, .ref q1, .int 0, .ref q2, .int 0, .int 0, .int (-1), .int 0, .ref q3, .ref q4, .ref q5, .int 0, .int 16, .ref q6, .ref q7, .ref q8, .ref q9, .ref q10, .int 0, .int 0, .int 0, .ref q11, .ref q12, .null, .null, .null, .int 0, .int 0, .null, .null, .null, .null, .null, .null, .null, .null, .null, .int 0])), (q1, .inl (c1, 1040, .inl (fun _ => 0))), (q2, .inl (c2, 1040, .inl (fun _ => 0))), (q3, .inl (c3, 32, .inl (fun _ => 0))), (q4, .inl (c4, 256, .inl (fun _ => 0))), (q5, .inl (c5, 2048, .inr (.inl (fun _ => 0)))), (q6, .inl (c6, 512, .inl (fun _ => 0))), (q7, .inl (c7, 4096, .inl (fun _ => 0))), (q8, .inl (c8, 16, .inl (fun _ => 0))), (q9, .inl (c9, 16, .inl (fun _ => 0))), (q10, .inl (c10, 16, .inl (fun _ => 0))), (q11, .inl (c11, 1040, .inl (fun _ => 0))), (q12, .inl (c12, 1040, .inl (fun _ => 0))), (q13, .inl (c13, 1040, .inl (fun _ => 0)))] H := hP
  have hD : va_D A [(h0, .inr (9, [.int 0, .ref q1, .int 0, .ref q2, .int 0, .int 0, .int (-1), .int 0, .ref q3, .ref q4, .ref q5, .int 0, .int 16, .ref q6, .ref q7, .ref q8, .ref q9, .ref q10, .int 0, .int 0, .int 0, .ref q11, .ref q12, .null, .null, .null, .int 0, .int 0, .null, .null, .null, .null, .null, .null, .null, .null, .null, .int 0])), (q1, .inl (c1, 1040, .inl (fun _ => 0))), (q2, .inl (c2, 1040, .inl (fun _ => 0))), (q3, .inl (c3, 32, .inl (fun _ => 0))), (q4, .inl (c4, 256, .inl (fun _ => 0))), (q5, .inl (c5, 2048, .inr (.inl (fun _ => 0)))), (q6, .inl (c6, 512, .inl (fun _ => 0))), (q7, .inl (c7, 4096, .inl (fun _ => 0))), (q8, .inl (c8, 16, .inl (fun _ => 0))), (q9, .inl (c9, 16, .inl (fun _ => 0))), (q10, .inl (c10, 16, .inl (fun _ => 0))), (q11, .inl (c11, 1040, .inl (fun _ => 0))), (q12, .inl (c12, 1040, .inl (fun _ => 0))), (q13, .inl (c13, 1040, .inl (fun _ => 0)))] := hD
  have hK : va_K (dC, dI) vwCl [(c1, .int), (c2, .int), (c3, .int), (c4, .int), (c5, .long), (c6, .int), (c7, .int), (c8, .int), (c9, .int), (c10, .int), (c11, .boolean), (c12, .boolean), (c13, .boolean)] s := hK
  refine W.widen (k := 13) (n := 12192) (Nat.le_refl _) (Nat.le_refl _) ?_
  refine va_putF (D := (dC, dI)) (ci := 9) (v := .ref q13) (ty := .array .boolean) (C := "GuessFencesModel") (T := gf_T9) (N := 38) hx hb hts lays_9 gf_y9 gf_ty9 gf_nm9 hown hK hP hD hS 0 rfl rfl 23 (by decide) (hts (.fieldLink "GuessFencesModel" 55 "GuessFencesModel" "exposed" "[Z") (gv_i6 145 rfl rfl)) (fun _ h9 => h9) rfl hin rfl (by decide +kernel) rfl rfl (Nat.le_of_ble_eq_true rfl) (by decide +kernel) (fun H locs hP hD hS => ?_)
  have hP : va_P (dC, dI) vwCl [(h0, .inr (9, [.int 0, .ref q1, .int 0, .ref q2, .int 0, .int 0, .int (-1), .int 0, .ref q3, .ref q4, .ref q5, .int 0, .int 16, .ref q6, .ref q7, .ref q8, .ref q9, .ref q10, .int 0, .int 0, .int 0, .ref q11, .ref q12, .ref q13, .null, .null, .int 0, .int 0, .null, .null, .null, .null, .null, .null, .null, .null, .null, .int 0])), (q1, .inl (c1, 1040, .inl (fun _ => 0))), (q2, .inl (c2, 1040, .inl (fun _ => 0))), (q3, .inl (c3, 32, .inl (fun _ => 0))), (q4, .inl (c4, 256, .inl (fun _ => 0))), (q5, .inl (c5, 2048, .inr (.inl (fun _ => 0)))), (q6, .inl (c6, 512, .inl (fun _ => 0))), (q7, .inl (c7, 4096, .inl (fun _ => 0))), (q8, .inl (c8, 16, .inl (fun _ => 0))), (q9, .inl (c9, 16, .inl (fun _ => 0))), (q10, .inl (c10, 16, .inl (fun _ => 0))), (q11, .inl (c11, 1040, .inl (fun _ => 0))), (q12, .inl (c12, 1040, .inl (fun _ => 0))), (q13, .inl (c13, 1040, .inl (fun _ => 0)))] H := hP
  have hD : va_D A [(h0, .inr (9, [.int 0, .ref q1, .int 0, .ref q2, .int 0, .int 0, .int (-1), .int 0, .ref q3, .ref q4, .ref q5, .int 0, .int 16, .ref q6, .ref q7, .ref q8, .ref q9, .ref q10, .int 0, .int 0, .int 0, .ref q11, .ref q12, .ref q13, .null, .null, .int 0, .int 0, .null, .null, .null, .null, .null, .null, .null, .null, .null, .int 0])), (q1, .inl (c1, 1040, .inl (fun _ => 0))), (q2, .inl (c2, 1040, .inl (fun _ => 0))), (q3, .inl (c3, 32, .inl (fun _ => 0))), (q4, .inl (c4, 256, .inl (fun _ => 0))), (q5, .inl (c5, 2048, .inr (.inl (fun _ => 0)))), (q6, .inl (c6, 512, .inl (fun _ => 0))), (q7, .inl (c7, 4096, .inl (fun _ => 0))), (q8, .inl (c8, 16, .inl (fun _ => 0))), (q9, .inl (c9, 16, .inl (fun _ => 0))), (q10, .inl (c10, 16, .inl (fun _ => 0))), (q11, .inl (c11, 1040, .inl (fun _ => 0))), (q12, .inl (c12, 1040, .inl (fun _ => 0))), (q13, .inl (c13, 1040, .inl (fun _ => 0)))] := hD
  refine lv_aload_n hx hb (show decode prog_13_method_1_code 128 = .ok (.aload_n 0, 1) from by decide +kernel) rfl (lv_at hl 0 rfl) ?_
  refine lv_sipush (n := 1040) (v := 1040) hx hb (by decide +kernel) (by decide) ?_
  refine va_newa (atype := .boolean) (ty := .boolean) (a0 := (1040, .inl (fun _ => 0))) hx hb (gc_arr hT args (ty := .boolean) (by simp)) rfl hK hP hD hS hA (fun _ => rfl) (by decide) (N' := 1040) (by decide) (by decide) (Nat.le_of_ble_eq_true rfl) (Nat.le_of_ble_eq_true rfl) (show decode prog_13_method_1_code 132 = .ok (.newarray .boolean, 2) from by decide +kernel) (fun q14 c14 H hK hP hD hS => ?_)
  have hP : va_P (dC, dI) vwCl [(h0, .inr (9, [.int 0, .ref q1, .int 0, .ref q2, .int 0, .int 0, .int (-1), .int 0, .ref q3, .ref q4, .ref q5, .int 0, .int 16, .ref q6, .ref q7, .ref q8, .ref q9, .ref q10, .int 0, .int 0, .int 0, .ref q11, .ref q12, .ref q13, .null, .null, .int 0, .int 0, .null, .null, .null, .null, .null, .null, .null, .null, .null, .int 0])), (q1, .inl (c1, 1040, .inl (fun _ => 0))), (q2, .inl (c2, 1040, .inl (fun _ => 0))), (q3, .inl (c3, 32, .inl (fun _ => 0))), (q4, .inl (c4, 256, .inl (fun _ => 0))), (q5, .inl (c5, 2048, .inr (.inl (fun _ => 0)))), (q6, .inl (c6, 512, .inl (fun _ => 0))), (q7, .inl (c7, 4096, .inl (fun _ => 0))), (q8, .inl (c8, 16, .inl (fun _ => 0))), (q9, .inl (c9, 16, .inl (fun _ => 0))), (q10, .inl (c10, 16, .inl (fun _ => 0))), (q11, .inl (c11, 1040, .inl (fun _ => 0))), (q12, .inl (c12, 1040, .inl (fun _ => 0))), (q13, .inl (c13, 1040, .inl (fun _ => 0))), (q14, .inl (c14, 1040, .inl (fun _ => 0)))] H := hP
  have hD : va_D A [(h0, .inr (9, [.int 0, .ref q1, .int 0, .ref q2, .int 0, .int 0, .int (-1), .int 0, .ref q3, .ref q4, .ref q5, .int 0, .int 16, .ref q6, .ref q7, .ref q8, .ref q9, .ref q10, .int 0, .int 0, .int 0, .ref q11, .ref q12, .ref q13, .null, .null, .int 0, .int 0, .null, .null, .null, .null, .null, .null, .null, .null, .null, .int 0])), (q1, .inl (c1, 1040, .inl (fun _ => 0))), (q2, .inl (c2, 1040, .inl (fun _ => 0))), (q3, .inl (c3, 32, .inl (fun _ => 0))), (q4, .inl (c4, 256, .inl (fun _ => 0))), (q5, .inl (c5, 2048, .inr (.inl (fun _ => 0)))), (q6, .inl (c6, 512, .inl (fun _ => 0))), (q7, .inl (c7, 4096, .inl (fun _ => 0))), (q8, .inl (c8, 16, .inl (fun _ => 0))), (q9, .inl (c9, 16, .inl (fun _ => 0))), (q10, .inl (c10, 16, .inl (fun _ => 0))), (q11, .inl (c11, 1040, .inl (fun _ => 0))), (q12, .inl (c12, 1040, .inl (fun _ => 0))), (q13, .inl (c13, 1040, .inl (fun _ => 0))), (q14, .inl (c14, 1040, .inl (fun _ => 0)))] := hD
  have hK : va_K (dC, dI) vwCl [(c1, .int), (c2, .int), (c3, .int), (c4, .int), (c5, .long), (c6, .int), (c7, .int), (c8, .int), (c9, .int), (c10, .int), (c11, .boolean), (c12, .boolean), (c13, .boolean), (c14, .boolean)] s := hK
  refine W.widen (k := 14) (n := 13232) (Nat.le_refl _) (Nat.le_refl _) ?_
  refine va_putF (D := (dC, dI)) (ci := 9) (v := .ref q14) (ty := .array .boolean) (C := "GuessFencesModel") (T := gf_T9) (N := 38) hx hb hts lays_9 gf_y9 gf_ty9 gf_nm9 hown hK hP hD hS 0 rfl rfl 24 (by decide) (hts (.fieldLink "GuessFencesModel" 58 "GuessFencesModel" "ends" "[Z") (gv_i6 146 rfl rfl)) (fun _ h9 => h9) rfl hin rfl (by decide +kernel) rfl rfl (Nat.le_of_ble_eq_true rfl) (by decide +kernel) (fun H locs hP hD hS => ?_)
  have hP : va_P (dC, dI) vwCl [(h0, .inr (9, [.int 0, .ref q1, .int 0, .ref q2, .int 0, .int 0, .int (-1), .int 0, .ref q3, .ref q4, .ref q5, .int 0, .int 16, .ref q6, .ref q7, .ref q8, .ref q9, .ref q10, .int 0, .int 0, .int 0, .ref q11, .ref q12, .ref q13, .ref q14, .null, .int 0, .int 0, .null, .null, .null, .null, .null, .null, .null, .null, .null, .int 0])), (q1, .inl (c1, 1040, .inl (fun _ => 0))), (q2, .inl (c2, 1040, .inl (fun _ => 0))), (q3, .inl (c3, 32, .inl (fun _ => 0))), (q4, .inl (c4, 256, .inl (fun _ => 0))), (q5, .inl (c5, 2048, .inr (.inl (fun _ => 0)))), (q6, .inl (c6, 512, .inl (fun _ => 0))), (q7, .inl (c7, 4096, .inl (fun _ => 0))), (q8, .inl (c8, 16, .inl (fun _ => 0))), (q9, .inl (c9, 16, .inl (fun _ => 0))), (q10, .inl (c10, 16, .inl (fun _ => 0))), (q11, .inl (c11, 1040, .inl (fun _ => 0))), (q12, .inl (c12, 1040, .inl (fun _ => 0))), (q13, .inl (c13, 1040, .inl (fun _ => 0))), (q14, .inl (c14, 1040, .inl (fun _ => 0)))] H := hP
  have hD : va_D A [(h0, .inr (9, [.int 0, .ref q1, .int 0, .ref q2, .int 0, .int 0, .int (-1), .int 0, .ref q3, .ref q4, .ref q5, .int 0, .int 16, .ref q6, .ref q7, .ref q8, .ref q9, .ref q10, .int 0, .int 0, .int 0, .ref q11, .ref q12, .ref q13, .ref q14, .null, .int 0, .int 0, .null, .null, .null, .null, .null, .null, .null, .null, .null, .int 0])), (q1, .inl (c1, 1040, .inl (fun _ => 0))), (q2, .inl (c2, 1040, .inl (fun _ => 0))), (q3, .inl (c3, 32, .inl (fun _ => 0))), (q4, .inl (c4, 256, .inl (fun _ => 0))), (q5, .inl (c5, 2048, .inr (.inl (fun _ => 0)))), (q6, .inl (c6, 512, .inl (fun _ => 0))), (q7, .inl (c7, 4096, .inl (fun _ => 0))), (q8, .inl (c8, 16, .inl (fun _ => 0))), (q9, .inl (c9, 16, .inl (fun _ => 0))), (q10, .inl (c10, 16, .inl (fun _ => 0))), (q11, .inl (c11, 1040, .inl (fun _ => 0))), (q12, .inl (c12, 1040, .inl (fun _ => 0))), (q13, .inl (c13, 1040, .inl (fun _ => 0))), (q14, .inl (c14, 1040, .inl (fun _ => 0)))] := hD
  refine lv_aload_n hx hb (show decode prog_13_method_1_code 137 = .ok (.aload_n 0, 1) from by decide +kernel) rfl (lv_at hl 0 rfl) ?_
  refine lv_sipush (n := 1040) (v := 1040) hx hb (by decide +kernel) (by decide) ?_
  refine va_newa (atype := .boolean) (ty := .boolean) (a0 := (1040, .inl (fun _ => 0))) hx hb (gc_arr hT args (ty := .boolean) (by simp)) rfl hK hP hD hS hA (fun _ => rfl) (by decide) (N' := 1040) (by decide) (by decide) (Nat.le_of_ble_eq_true rfl) (Nat.le_of_ble_eq_true rfl) (show decode prog_13_method_1_code 141 = .ok (.newarray .boolean, 2) from by decide +kernel) (fun q15 c15 H hK hP hD hS => ?_)
  have hP : va_P (dC, dI) vwCl [(h0, .inr (9, [.int 0, .ref q1, .int 0, .ref q2, .int 0, .int 0, .int (-1), .int 0, .ref q3, .ref q4, .ref q5, .int 0, .int 16, .ref q6, .ref q7, .ref q8, .ref q9, .ref q10, .int 0, .int 0, .int 0, .ref q11, .ref q12, .ref q13, .ref q14, .null, .int 0, .int 0, .null, .null, .null, .null, .null, .null, .null, .null, .null, .int 0])), (q1, .inl (c1, 1040, .inl (fun _ => 0))), (q2, .inl (c2, 1040, .inl (fun _ => 0))), (q3, .inl (c3, 32, .inl (fun _ => 0))), (q4, .inl (c4, 256, .inl (fun _ => 0))), (q5, .inl (c5, 2048, .inr (.inl (fun _ => 0)))), (q6, .inl (c6, 512, .inl (fun _ => 0))), (q7, .inl (c7, 4096, .inl (fun _ => 0))), (q8, .inl (c8, 16, .inl (fun _ => 0))), (q9, .inl (c9, 16, .inl (fun _ => 0))), (q10, .inl (c10, 16, .inl (fun _ => 0))), (q11, .inl (c11, 1040, .inl (fun _ => 0))), (q12, .inl (c12, 1040, .inl (fun _ => 0))), (q13, .inl (c13, 1040, .inl (fun _ => 0))), (q14, .inl (c14, 1040, .inl (fun _ => 0))), (q15, .inl (c15, 1040, .inl (fun _ => 0)))] H := hP
  have hD : va_D A [(h0, .inr (9, [.int 0, .ref q1, .int 0, .ref q2, .int 0, .int 0, .int (-1), .int 0, .ref q3, .ref q4, .ref q5, .int 0, .int 16, .ref q6, .ref q7, .ref q8, .ref q9, .ref q10, .int 0, .int 0, .int 0, .ref q11, .ref q12, .ref q13, .ref q14, .null, .int 0, .int 0, .null, .null, .null, .null, .null, .null, .null, .null, .null, .int 0])), (q1, .inl (c1, 1040, .inl (fun _ => 0))), (q2, .inl (c2, 1040, .inl (fun _ => 0))), (q3, .inl (c3, 32, .inl (fun _ => 0))), (q4, .inl (c4, 256, .inl (fun _ => 0))), (q5, .inl (c5, 2048, .inr (.inl (fun _ => 0)))), (q6, .inl (c6, 512, .inl (fun _ => 0))), (q7, .inl (c7, 4096, .inl (fun _ => 0))), (q8, .inl (c8, 16, .inl (fun _ => 0))), (q9, .inl (c9, 16, .inl (fun _ => 0))), (q10, .inl (c10, 16, .inl (fun _ => 0))), (q11, .inl (c11, 1040, .inl (fun _ => 0))), (q12, .inl (c12, 1040, .inl (fun _ => 0))), (q13, .inl (c13, 1040, .inl (fun _ => 0))), (q14, .inl (c14, 1040, .inl (fun _ => 0))), (q15, .inl (c15, 1040, .inl (fun _ => 0)))] := hD
  have hK : va_K (dC, dI) vwCl [(c1, .int), (c2, .int), (c3, .int), (c4, .int), (c5, .long), (c6, .int), (c7, .int), (c8, .int), (c9, .int), (c10, .int), (c11, .boolean), (c12, .boolean), (c13, .boolean), (c14, .boolean), (c15, .boolean)] s := hK
  refine W.widen (k := 15) (n := 14272) (Nat.le_refl _) (Nat.le_refl _) ?_
  refine va_putF (D := (dC, dI)) (ci := 9) (v := .ref q15) (ty := .array .boolean) (C := "GuessFencesModel") (T := gf_T9) (N := 38) hx hb hts lays_9 gf_y9 gf_ty9 gf_nm9 hown hK hP hD hS 0 rfl rfl 25 (by decide) (hts (.fieldLink "GuessFencesModel" 61 "GuessFencesModel" "inCut" "[Z") (gv_i6 147 rfl rfl)) (fun _ h9 => h9) rfl hin rfl (by decide +kernel) rfl rfl (Nat.le_of_ble_eq_true rfl) (by decide +kernel) (fun H locs hP hD hS => ?_)
  have hP : va_P (dC, dI) vwCl [(h0, .inr (9, [.int 0, .ref q1, .int 0, .ref q2, .int 0, .int 0, .int (-1), .int 0, .ref q3, .ref q4, .ref q5, .int 0, .int 16, .ref q6, .ref q7, .ref q8, .ref q9, .ref q10, .int 0, .int 0, .int 0, .ref q11, .ref q12, .ref q13, .ref q14, .ref q15, .int 0, .int 0, .null, .null, .null, .null, .null, .null, .null, .null, .null, .int 0])), (q1, .inl (c1, 1040, .inl (fun _ => 0))), (q2, .inl (c2, 1040, .inl (fun _ => 0))), (q3, .inl (c3, 32, .inl (fun _ => 0))), (q4, .inl (c4, 256, .inl (fun _ => 0))), (q5, .inl (c5, 2048, .inr (.inl (fun _ => 0)))), (q6, .inl (c6, 512, .inl (fun _ => 0))), (q7, .inl (c7, 4096, .inl (fun _ => 0))), (q8, .inl (c8, 16, .inl (fun _ => 0))), (q9, .inl (c9, 16, .inl (fun _ => 0))), (q10, .inl (c10, 16, .inl (fun _ => 0))), (q11, .inl (c11, 1040, .inl (fun _ => 0))), (q12, .inl (c12, 1040, .inl (fun _ => 0))), (q13, .inl (c13, 1040, .inl (fun _ => 0))), (q14, .inl (c14, 1040, .inl (fun _ => 0))), (q15, .inl (c15, 1040, .inl (fun _ => 0)))] H := hP
  have hD : va_D A [(h0, .inr (9, [.int 0, .ref q1, .int 0, .ref q2, .int 0, .int 0, .int (-1), .int 0, .ref q3, .ref q4, .ref q5, .int 0, .int 16, .ref q6, .ref q7, .ref q8, .ref q9, .ref q10, .int 0, .int 0, .int 0, .ref q11, .ref q12, .ref q13, .ref q14, .ref q15, .int 0, .int 0, .null, .null, .null, .null, .null, .null, .null, .null, .null, .int 0])), (q1, .inl (c1, 1040, .inl (fun _ => 0))), (q2, .inl (c2, 1040, .inl (fun _ => 0))), (q3, .inl (c3, 32, .inl (fun _ => 0))), (q4, .inl (c4, 256, .inl (fun _ => 0))), (q5, .inl (c5, 2048, .inr (.inl (fun _ => 0)))), (q6, .inl (c6, 512, .inl (fun _ => 0))), (q7, .inl (c7, 4096, .inl (fun _ => 0))), (q8, .inl (c8, 16, .inl (fun _ => 0))), (q9, .inl (c9, 16, .inl (fun _ => 0))), (q10, .inl (c10, 16, .inl (fun _ => 0))), (q11, .inl (c11, 1040, .inl (fun _ => 0))), (q12, .inl (c12, 1040, .inl (fun _ => 0))), (q13, .inl (c13, 1040, .inl (fun _ => 0))), (q14, .inl (c14, 1040, .inl (fun _ => 0))), (q15, .inl (c15, 1040, .inl (fun _ => 0)))] := hD
  refine lv_aload_n hx hb (show decode prog_13_method_1_code 146 = .ok (.aload_n 0, 1) from by decide +kernel) rfl (lv_at hl 0 rfl) ?_
  refine lv_ldc (v := 34320) hx hb hown (hts (.constant "GuessFencesModel" 64 34320) (gv_i6 121 rfl rfl)) (by decide +kernel) ?_
  refine va_newa (atype := .int) (ty := .int) (a0 := (34320, .inl (fun _ => 0))) hx hb (gc_arr hT args (ty := .int) (by simp)) rfl hK hP hD hS hA (fun _ => rfl) (by decide) (N' := 34320) (by decide) (by decide) (Nat.le_of_ble_eq_true rfl) (Nat.le_of_ble_eq_true rfl) (show decode prog_13_method_1_code 149 = .ok (.newarray .int, 2) from by decide +kernel) (fun q16 c16 H hK hP hD hS => ?_)
  have hP : va_P (dC, dI) vwCl [(h0, .inr (9, [.int 0, .ref q1, .int 0, .ref q2, .int 0, .int 0, .int (-1), .int 0, .ref q3, .ref q4, .ref q5, .int 0, .int 16, .ref q6, .ref q7, .ref q8, .ref q9, .ref q10, .int 0, .int 0, .int 0, .ref q11, .ref q12, .ref q13, .ref q14, .ref q15, .int 0, .int 0, .null, .null, .null, .null, .null, .null, .null, .null, .null, .int 0])), (q1, .inl (c1, 1040, .inl (fun _ => 0))), (q2, .inl (c2, 1040, .inl (fun _ => 0))), (q3, .inl (c3, 32, .inl (fun _ => 0))), (q4, .inl (c4, 256, .inl (fun _ => 0))), (q5, .inl (c5, 2048, .inr (.inl (fun _ => 0)))), (q6, .inl (c6, 512, .inl (fun _ => 0))), (q7, .inl (c7, 4096, .inl (fun _ => 0))), (q8, .inl (c8, 16, .inl (fun _ => 0))), (q9, .inl (c9, 16, .inl (fun _ => 0))), (q10, .inl (c10, 16, .inl (fun _ => 0))), (q11, .inl (c11, 1040, .inl (fun _ => 0))), (q12, .inl (c12, 1040, .inl (fun _ => 0))), (q13, .inl (c13, 1040, .inl (fun _ => 0))), (q14, .inl (c14, 1040, .inl (fun _ => 0))), (q15, .inl (c15, 1040, .inl (fun _ => 0))), (q16, .inl (c16, 34320, .inl (fun _ => 0)))] H := hP
  have hD : va_D A [(h0, .inr (9, [.int 0, .ref q1, .int 0, .ref q2, .int 0, .int 0, .int (-1), .int 0, .ref q3, .ref q4, .ref q5, .int 0, .int 16, .ref q6, .ref q7, .ref q8, .ref q9, .ref q10, .int 0, .int 0, .int 0, .ref q11, .ref q12, .ref q13, .ref q14, .ref q15, .int 0, .int 0, .null, .null, .null, .null, .null, .null, .null, .null, .null, .int 0])), (q1, .inl (c1, 1040, .inl (fun _ => 0))), (q2, .inl (c2, 1040, .inl (fun _ => 0))), (q3, .inl (c3, 32, .inl (fun _ => 0))), (q4, .inl (c4, 256, .inl (fun _ => 0))), (q5, .inl (c5, 2048, .inr (.inl (fun _ => 0)))), (q6, .inl (c6, 512, .inl (fun _ => 0))), (q7, .inl (c7, 4096, .inl (fun _ => 0))), (q8, .inl (c8, 16, .inl (fun _ => 0))), (q9, .inl (c9, 16, .inl (fun _ => 0))), (q10, .inl (c10, 16, .inl (fun _ => 0))), (q11, .inl (c11, 1040, .inl (fun _ => 0))), (q12, .inl (c12, 1040, .inl (fun _ => 0))), (q13, .inl (c13, 1040, .inl (fun _ => 0))), (q14, .inl (c14, 1040, .inl (fun _ => 0))), (q15, .inl (c15, 1040, .inl (fun _ => 0))), (q16, .inl (c16, 34320, .inl (fun _ => 0)))] := hD
  have hK : va_K (dC, dI) vwCl [(c1, .int), (c2, .int), (c3, .int), (c4, .int), (c5, .long), (c6, .int), (c7, .int), (c8, .int), (c9, .int), (c10, .int), (c11, .boolean), (c12, .boolean), (c13, .boolean), (c14, .boolean), (c15, .boolean), (c16, .int)] s := hK
  refine W.widen (k := 16) (n := 48592) (Nat.le_refl _) (Nat.le_refl _) ?_
  refine va_putF (D := (dC, dI)) (ci := 9) (v := .ref q16) (ty := .array .int) (C := "GuessFencesModel") (T := gf_T9) (N := 38) hx hb hts lays_9 gf_y9 gf_ty9 gf_nm9 hown hK hP hD hS 0 rfl rfl 28 (by decide) (hts (.fieldLink "GuessFencesModel" 65 "GuessFencesModel" "reach" "[I") (gv_i6 150 rfl rfl)) (fun _ h9 => h9) rfl hin rfl (by decide +kernel) rfl rfl (Nat.le_of_ble_eq_true rfl) (by decide +kernel) (fun H locs hP hD hS => ?_)
  have hP : va_P (dC, dI) vwCl [(h0, .inr (9, [.int 0, .ref q1, .int 0, .ref q2, .int 0, .int 0, .int (-1), .int 0, .ref q3, .ref q4, .ref q5, .int 0, .int 16, .ref q6, .ref q7, .ref q8, .ref q9, .ref q10, .int 0, .int 0, .int 0, .ref q11, .ref q12, .ref q13, .ref q14, .ref q15, .int 0, .int 0, .ref q16, .null, .null, .null, .null, .null, .null, .null, .null, .int 0])), (q1, .inl (c1, 1040, .inl (fun _ => 0))), (q2, .inl (c2, 1040, .inl (fun _ => 0))), (q3, .inl (c3, 32, .inl (fun _ => 0))), (q4, .inl (c4, 256, .inl (fun _ => 0))), (q5, .inl (c5, 2048, .inr (.inl (fun _ => 0)))), (q6, .inl (c6, 512, .inl (fun _ => 0))), (q7, .inl (c7, 4096, .inl (fun _ => 0))), (q8, .inl (c8, 16, .inl (fun _ => 0))), (q9, .inl (c9, 16, .inl (fun _ => 0))), (q10, .inl (c10, 16, .inl (fun _ => 0))), (q11, .inl (c11, 1040, .inl (fun _ => 0))), (q12, .inl (c12, 1040, .inl (fun _ => 0))), (q13, .inl (c13, 1040, .inl (fun _ => 0))), (q14, .inl (c14, 1040, .inl (fun _ => 0))), (q15, .inl (c15, 1040, .inl (fun _ => 0))), (q16, .inl (c16, 34320, .inl (fun _ => 0)))] H := hP
  have hD : va_D A [(h0, .inr (9, [.int 0, .ref q1, .int 0, .ref q2, .int 0, .int 0, .int (-1), .int 0, .ref q3, .ref q4, .ref q5, .int 0, .int 16, .ref q6, .ref q7, .ref q8, .ref q9, .ref q10, .int 0, .int 0, .int 0, .ref q11, .ref q12, .ref q13, .ref q14, .ref q15, .int 0, .int 0, .ref q16, .null, .null, .null, .null, .null, .null, .null, .null, .int 0])), (q1, .inl (c1, 1040, .inl (fun _ => 0))), (q2, .inl (c2, 1040, .inl (fun _ => 0))), (q3, .inl (c3, 32, .inl (fun _ => 0))), (q4, .inl (c4, 256, .inl (fun _ => 0))), (q5, .inl (c5, 2048, .inr (.inl (fun _ => 0)))), (q6, .inl (c6, 512, .inl (fun _ => 0))), (q7, .inl (c7, 4096, .inl (fun _ => 0))), (q8, .inl (c8, 16, .inl (fun _ => 0))), (q9, .inl (c9, 16, .inl (fun _ => 0))), (q10, .inl (c10, 16, .inl (fun _ => 0))), (q11, .inl (c11, 1040, .inl (fun _ => 0))), (q12, .inl (c12, 1040, .inl (fun _ => 0))), (q13, .inl (c13, 1040, .inl (fun _ => 0))), (q14, .inl (c14, 1040, .inl (fun _ => 0))), (q15, .inl (c15, 1040, .inl (fun _ => 0))), (q16, .inl (c16, 34320, .inl (fun _ => 0)))] := hD
  refine lv_aload_n hx hb (show decode prog_13_method_1_code 154 = .ok (.aload_n 0, 1) from by decide +kernel) rfl (lv_at hl 0 rfl) ?_
  refine lv_ldc (v := 34320) hx hb hown (hts (.constant "GuessFencesModel" 64 34320) (gv_i6 121 rfl rfl)) (by decide +kernel) ?_
  refine va_newa (atype := .int) (ty := .int) (a0 := (34320, .inl (fun _ => 0))) hx hb (gc_arr hT args (ty := .int) (by simp)) rfl hK hP hD hS hA (fun _ => rfl) (by decide) (N' := 34320) (by decide) (by decide) (Nat.le_of_ble_eq_true rfl) (Nat.le_of_ble_eq_true rfl) (show decode prog_13_method_1_code 157 = .ok (.newarray .int, 2) from by decide +kernel) (fun q17 c17 H hK hP hD hS => ?_)
  have hP : va_P (dC, dI) vwCl [(h0, .inr (9, [.int 0, .ref q1, .int 0, .ref q2, .int 0, .int 0, .int (-1), .int 0, .ref q3, .ref q4, .ref q5, .int 0, .int 16, .ref q6, .ref q7, .ref q8, .ref q9, .ref q10, .int 0, .int 0, .int 0, .ref q11, .ref q12, .ref q13, .ref q14, .ref q15, .int 0, .int 0, .ref q16, .null, .null, .null, .null, .null, .null, .null, .null, .int 0])), (q1, .inl (c1, 1040, .inl (fun _ => 0))), (q2, .inl (c2, 1040, .inl (fun _ => 0))), (q3, .inl (c3, 32, .inl (fun _ => 0))), (q4, .inl (c4, 256, .inl (fun _ => 0))), (q5, .inl (c5, 2048, .inr (.inl (fun _ => 0)))), (q6, .inl (c6, 512, .inl (fun _ => 0))), (q7, .inl (c7, 4096, .inl (fun _ => 0))), (q8, .inl (c8, 16, .inl (fun _ => 0))), (q9, .inl (c9, 16, .inl (fun _ => 0))), (q10, .inl (c10, 16, .inl (fun _ => 0))), (q11, .inl (c11, 1040, .inl (fun _ => 0))), (q12, .inl (c12, 1040, .inl (fun _ => 0))), (q13, .inl (c13, 1040, .inl (fun _ => 0))), (q14, .inl (c14, 1040, .inl (fun _ => 0))), (q15, .inl (c15, 1040, .inl (fun _ => 0))), (q16, .inl (c16, 34320, .inl (fun _ => 0))), (q17, .inl (c17, 34320, .inl (fun _ => 0)))] H := hP
  have hD : va_D A [(h0, .inr (9, [.int 0, .ref q1, .int 0, .ref q2, .int 0, .int 0, .int (-1), .int 0, .ref q3, .ref q4, .ref q5, .int 0, .int 16, .ref q6, .ref q7, .ref q8, .ref q9, .ref q10, .int 0, .int 0, .int 0, .ref q11, .ref q12, .ref q13, .ref q14, .ref q15, .int 0, .int 0, .ref q16, .null, .null, .null, .null, .null, .null, .null, .null, .int 0])), (q1, .inl (c1, 1040, .inl (fun _ => 0))), (q2, .inl (c2, 1040, .inl (fun _ => 0))), (q3, .inl (c3, 32, .inl (fun _ => 0))), (q4, .inl (c4, 256, .inl (fun _ => 0))), (q5, .inl (c5, 2048, .inr (.inl (fun _ => 0)))), (q6, .inl (c6, 512, .inl (fun _ => 0))), (q7, .inl (c7, 4096, .inl (fun _ => 0))), (q8, .inl (c8, 16, .inl (fun _ => 0))), (q9, .inl (c9, 16, .inl (fun _ => 0))), (q10, .inl (c10, 16, .inl (fun _ => 0))), (q11, .inl (c11, 1040, .inl (fun _ => 0))), (q12, .inl (c12, 1040, .inl (fun _ => 0))), (q13, .inl (c13, 1040, .inl (fun _ => 0))), (q14, .inl (c14, 1040, .inl (fun _ => 0))), (q15, .inl (c15, 1040, .inl (fun _ => 0))), (q16, .inl (c16, 34320, .inl (fun _ => 0))), (q17, .inl (c17, 34320, .inl (fun _ => 0)))] := hD
  have hK : va_K (dC, dI) vwCl [(c1, .int), (c2, .int), (c3, .int), (c4, .int), (c5, .long), (c6, .int), (c7, .int), (c8, .int), (c9, .int), (c10, .int), (c11, .boolean), (c12, .boolean), (c13, .boolean), (c14, .boolean), (c15, .boolean), (c16, .int), (c17, .int)] s := hK
  refine W.widen (k := 17) (n := 82912) (Nat.le_refl _) (Nat.le_refl _) ?_
  refine va_putF (D := (dC, dI)) (ci := 9) (v := .ref q17) (ty := .array .int) (C := "GuessFencesModel") (T := gf_T9) (N := 38) hx hb hts lays_9 gf_y9 gf_ty9 gf_nm9 hown hK hP hD hS 0 rfl rfl 29 (by decide) (hts (.fieldLink "GuessFencesModel" 68 "GuessFencesModel" "flow" "[I") (gv_i6 151 rfl rfl)) (fun _ h9 => h9) rfl hin rfl (by decide +kernel) rfl rfl (Nat.le_of_ble_eq_true rfl) (by decide +kernel) (fun H locs hP hD hS => ?_)
  have hP : va_P (dC, dI) vwCl [(h0, .inr (9, [.int 0, .ref q1, .int 0, .ref q2, .int 0, .int 0, .int (-1), .int 0, .ref q3, .ref q4, .ref q5, .int 0, .int 16, .ref q6, .ref q7, .ref q8, .ref q9, .ref q10, .int 0, .int 0, .int 0, .ref q11, .ref q12, .ref q13, .ref q14, .ref q15, .int 0, .int 0, .ref q16, .ref q17, .null, .null, .null, .null, .null, .null, .null, .int 0])), (q1, .inl (c1, 1040, .inl (fun _ => 0))), (q2, .inl (c2, 1040, .inl (fun _ => 0))), (q3, .inl (c3, 32, .inl (fun _ => 0))), (q4, .inl (c4, 256, .inl (fun _ => 0))), (q5, .inl (c5, 2048, .inr (.inl (fun _ => 0)))), (q6, .inl (c6, 512, .inl (fun _ => 0))), (q7, .inl (c7, 4096, .inl (fun _ => 0))), (q8, .inl (c8, 16, .inl (fun _ => 0))), (q9, .inl (c9, 16, .inl (fun _ => 0))), (q10, .inl (c10, 16, .inl (fun _ => 0))), (q11, .inl (c11, 1040, .inl (fun _ => 0))), (q12, .inl (c12, 1040, .inl (fun _ => 0))), (q13, .inl (c13, 1040, .inl (fun _ => 0))), (q14, .inl (c14, 1040, .inl (fun _ => 0))), (q15, .inl (c15, 1040, .inl (fun _ => 0))), (q16, .inl (c16, 34320, .inl (fun _ => 0))), (q17, .inl (c17, 34320, .inl (fun _ => 0)))] H := hP
  have hD : va_D A [(h0, .inr (9, [.int 0, .ref q1, .int 0, .ref q2, .int 0, .int 0, .int (-1), .int 0, .ref q3, .ref q4, .ref q5, .int 0, .int 16, .ref q6, .ref q7, .ref q8, .ref q9, .ref q10, .int 0, .int 0, .int 0, .ref q11, .ref q12, .ref q13, .ref q14, .ref q15, .int 0, .int 0, .ref q16, .ref q17, .null, .null, .null, .null, .null, .null, .null, .int 0])), (q1, .inl (c1, 1040, .inl (fun _ => 0))), (q2, .inl (c2, 1040, .inl (fun _ => 0))), (q3, .inl (c3, 32, .inl (fun _ => 0))), (q4, .inl (c4, 256, .inl (fun _ => 0))), (q5, .inl (c5, 2048, .inr (.inl (fun _ => 0)))), (q6, .inl (c6, 512, .inl (fun _ => 0))), (q7, .inl (c7, 4096, .inl (fun _ => 0))), (q8, .inl (c8, 16, .inl (fun _ => 0))), (q9, .inl (c9, 16, .inl (fun _ => 0))), (q10, .inl (c10, 16, .inl (fun _ => 0))), (q11, .inl (c11, 1040, .inl (fun _ => 0))), (q12, .inl (c12, 1040, .inl (fun _ => 0))), (q13, .inl (c13, 1040, .inl (fun _ => 0))), (q14, .inl (c14, 1040, .inl (fun _ => 0))), (q15, .inl (c15, 1040, .inl (fun _ => 0))), (q16, .inl (c16, 34320, .inl (fun _ => 0))), (q17, .inl (c17, 34320, .inl (fun _ => 0)))] := hD
  refine lv_aload_n hx hb (show decode prog_13_method_1_code 162 = .ok (.aload_n 0, 1) from by decide +kernel) rfl (lv_at hl 0 rfl) ?_
  refine lv_sipush (n := 1040) (v := 1040) hx hb (by decide +kernel) (by decide) ?_
  refine va_newa (atype := .boolean) (ty := .boolean) (a0 := (1040, .inl (fun _ => 0))) hx hb (gc_arr hT args (ty := .boolean) (by simp)) rfl hK hP hD hS hA (fun _ => rfl) (by decide) (N' := 1040) (by decide) (by decide) (Nat.le_of_ble_eq_true rfl) (Nat.le_of_ble_eq_true rfl) (show decode prog_13_method_1_code 166 = .ok (.newarray .boolean, 2) from by decide +kernel) (fun q18 c18 H hK hP hD hS => ?_)
  have hP : va_P (dC, dI) vwCl [(h0, .inr (9, [.int 0, .ref q1, .int 0, .ref q2, .int 0, .int 0, .int (-1), .int 0, .ref q3, .ref q4, .ref q5, .int 0, .int 16, .ref q6, .ref q7, .ref q8, .ref q9, .ref q10, .int 0, .int 0, .int 0, .ref q11, .ref q12, .ref q13, .ref q14, .ref q15, .int 0, .int 0, .ref q16, .ref q17, .null, .null, .null, .null, .null, .null, .null, .int 0])), (q1, .inl (c1, 1040, .inl (fun _ => 0))), (q2, .inl (c2, 1040, .inl (fun _ => 0))), (q3, .inl (c3, 32, .inl (fun _ => 0))), (q4, .inl (c4, 256, .inl (fun _ => 0))), (q5, .inl (c5, 2048, .inr (.inl (fun _ => 0)))), (q6, .inl (c6, 512, .inl (fun _ => 0))), (q7, .inl (c7, 4096, .inl (fun _ => 0))), (q8, .inl (c8, 16, .inl (fun _ => 0))), (q9, .inl (c9, 16, .inl (fun _ => 0))), (q10, .inl (c10, 16, .inl (fun _ => 0))), (q11, .inl (c11, 1040, .inl (fun _ => 0))), (q12, .inl (c12, 1040, .inl (fun _ => 0))), (q13, .inl (c13, 1040, .inl (fun _ => 0))), (q14, .inl (c14, 1040, .inl (fun _ => 0))), (q15, .inl (c15, 1040, .inl (fun _ => 0))), (q16, .inl (c16, 34320, .inl (fun _ => 0))), (q17, .inl (c17, 34320, .inl (fun _ => 0))), (q18, .inl (c18, 1040, .inl (fun _ => 0)))] H := hP
  have hD : va_D A [(h0, .inr (9, [.int 0, .ref q1, .int 0, .ref q2, .int 0, .int 0, .int (-1), .int 0, .ref q3, .ref q4, .ref q5, .int 0, .int 16, .ref q6, .ref q7, .ref q8, .ref q9, .ref q10, .int 0, .int 0, .int 0, .ref q11, .ref q12, .ref q13, .ref q14, .ref q15, .int 0, .int 0, .ref q16, .ref q17, .null, .null, .null, .null, .null, .null, .null, .int 0])), (q1, .inl (c1, 1040, .inl (fun _ => 0))), (q2, .inl (c2, 1040, .inl (fun _ => 0))), (q3, .inl (c3, 32, .inl (fun _ => 0))), (q4, .inl (c4, 256, .inl (fun _ => 0))), (q5, .inl (c5, 2048, .inr (.inl (fun _ => 0)))), (q6, .inl (c6, 512, .inl (fun _ => 0))), (q7, .inl (c7, 4096, .inl (fun _ => 0))), (q8, .inl (c8, 16, .inl (fun _ => 0))), (q9, .inl (c9, 16, .inl (fun _ => 0))), (q10, .inl (c10, 16, .inl (fun _ => 0))), (q11, .inl (c11, 1040, .inl (fun _ => 0))), (q12, .inl (c12, 1040, .inl (fun _ => 0))), (q13, .inl (c13, 1040, .inl (fun _ => 0))), (q14, .inl (c14, 1040, .inl (fun _ => 0))), (q15, .inl (c15, 1040, .inl (fun _ => 0))), (q16, .inl (c16, 34320, .inl (fun _ => 0))), (q17, .inl (c17, 34320, .inl (fun _ => 0))), (q18, .inl (c18, 1040, .inl (fun _ => 0)))] := hD
  have hK : va_K (dC, dI) vwCl [(c1, .int), (c2, .int), (c3, .int), (c4, .int), (c5, .long), (c6, .int), (c7, .int), (c8, .int), (c9, .int), (c10, .int), (c11, .boolean), (c12, .boolean), (c13, .boolean), (c14, .boolean), (c15, .boolean), (c16, .int), (c17, .int), (c18, .boolean)] s := hK
  refine W.widen (k := 18) (n := 83952) (Nat.le_refl _) (Nat.le_refl _) ?_
  refine va_putF (D := (dC, dI)) (ci := 9) (v := .ref q18) (ty := .array .boolean) (C := "GuessFencesModel") (T := gf_T9) (N := 38) hx hb hts lays_9 gf_y9 gf_ty9 gf_nm9 hown hK hP hD hS 0 rfl rfl 30 (by decide) (hts (.fieldLink "GuessFencesModel" 71 "GuessFencesModel" "through" "[Z") (gv_i6 152 rfl rfl)) (fun _ h9 => h9) rfl hin rfl (by decide +kernel) rfl rfl (Nat.le_of_ble_eq_true rfl) (by decide +kernel) (fun H locs hP hD hS => ?_)
  have hP : va_P (dC, dI) vwCl [(h0, .inr (9, [.int 0, .ref q1, .int 0, .ref q2, .int 0, .int 0, .int (-1), .int 0, .ref q3, .ref q4, .ref q5, .int 0, .int 16, .ref q6, .ref q7, .ref q8, .ref q9, .ref q10, .int 0, .int 0, .int 0, .ref q11, .ref q12, .ref q13, .ref q14, .ref q15, .int 0, .int 0, .ref q16, .ref q17, .ref q18, .null, .null, .null, .null, .null, .null, .int 0])), (q1, .inl (c1, 1040, .inl (fun _ => 0))), (q2, .inl (c2, 1040, .inl (fun _ => 0))), (q3, .inl (c3, 32, .inl (fun _ => 0))), (q4, .inl (c4, 256, .inl (fun _ => 0))), (q5, .inl (c5, 2048, .inr (.inl (fun _ => 0)))), (q6, .inl (c6, 512, .inl (fun _ => 0))), (q7, .inl (c7, 4096, .inl (fun _ => 0))), (q8, .inl (c8, 16, .inl (fun _ => 0))), (q9, .inl (c9, 16, .inl (fun _ => 0))), (q10, .inl (c10, 16, .inl (fun _ => 0))), (q11, .inl (c11, 1040, .inl (fun _ => 0))), (q12, .inl (c12, 1040, .inl (fun _ => 0))), (q13, .inl (c13, 1040, .inl (fun _ => 0))), (q14, .inl (c14, 1040, .inl (fun _ => 0))), (q15, .inl (c15, 1040, .inl (fun _ => 0))), (q16, .inl (c16, 34320, .inl (fun _ => 0))), (q17, .inl (c17, 34320, .inl (fun _ => 0))), (q18, .inl (c18, 1040, .inl (fun _ => 0)))] H := hP
  have hD : va_D A [(h0, .inr (9, [.int 0, .ref q1, .int 0, .ref q2, .int 0, .int 0, .int (-1), .int 0, .ref q3, .ref q4, .ref q5, .int 0, .int 16, .ref q6, .ref q7, .ref q8, .ref q9, .ref q10, .int 0, .int 0, .int 0, .ref q11, .ref q12, .ref q13, .ref q14, .ref q15, .int 0, .int 0, .ref q16, .ref q17, .ref q18, .null, .null, .null, .null, .null, .null, .int 0])), (q1, .inl (c1, 1040, .inl (fun _ => 0))), (q2, .inl (c2, 1040, .inl (fun _ => 0))), (q3, .inl (c3, 32, .inl (fun _ => 0))), (q4, .inl (c4, 256, .inl (fun _ => 0))), (q5, .inl (c5, 2048, .inr (.inl (fun _ => 0)))), (q6, .inl (c6, 512, .inl (fun _ => 0))), (q7, .inl (c7, 4096, .inl (fun _ => 0))), (q8, .inl (c8, 16, .inl (fun _ => 0))), (q9, .inl (c9, 16, .inl (fun _ => 0))), (q10, .inl (c10, 16, .inl (fun _ => 0))), (q11, .inl (c11, 1040, .inl (fun _ => 0))), (q12, .inl (c12, 1040, .inl (fun _ => 0))), (q13, .inl (c13, 1040, .inl (fun _ => 0))), (q14, .inl (c14, 1040, .inl (fun _ => 0))), (q15, .inl (c15, 1040, .inl (fun _ => 0))), (q16, .inl (c16, 34320, .inl (fun _ => 0))), (q17, .inl (c17, 34320, .inl (fun _ => 0))), (q18, .inl (c18, 1040, .inl (fun _ => 0)))] := hD
  refine lv_aload_n hx hb (show decode prog_13_method_1_code 171 = .ok (.aload_n 0, 1) from by decide +kernel) rfl (lv_at hl 0 rfl) ?_
  refine lv_sipush (n := 1040) (v := 1040) hx hb (by decide +kernel) (by decide) ?_
  refine va_newa (atype := .boolean) (ty := .boolean) (a0 := (1040, .inl (fun _ => 0))) hx hb (gc_arr hT args (ty := .boolean) (by simp)) rfl hK hP hD hS hA (fun _ => rfl) (by decide) (N' := 1040) (by decide) (by decide) (Nat.le_of_ble_eq_true rfl) (Nat.le_of_ble_eq_true rfl) (show decode prog_13_method_1_code 175 = .ok (.newarray .boolean, 2) from by decide +kernel) (fun q19 c19 H hK hP hD hS => ?_)
  have hP : va_P (dC, dI) vwCl [(h0, .inr (9, [.int 0, .ref q1, .int 0, .ref q2, .int 0, .int 0, .int (-1), .int 0, .ref q3, .ref q4, .ref q5, .int 0, .int 16, .ref q6, .ref q7, .ref q8, .ref q9, .ref q10, .int 0, .int 0, .int 0, .ref q11, .ref q12, .ref q13, .ref q14, .ref q15, .int 0, .int 0, .ref q16, .ref q17, .ref q18, .null, .null, .null, .null, .null, .null, .int 0])), (q1, .inl (c1, 1040, .inl (fun _ => 0))), (q2, .inl (c2, 1040, .inl (fun _ => 0))), (q3, .inl (c3, 32, .inl (fun _ => 0))), (q4, .inl (c4, 256, .inl (fun _ => 0))), (q5, .inl (c5, 2048, .inr (.inl (fun _ => 0)))), (q6, .inl (c6, 512, .inl (fun _ => 0))), (q7, .inl (c7, 4096, .inl (fun _ => 0))), (q8, .inl (c8, 16, .inl (fun _ => 0))), (q9, .inl (c9, 16, .inl (fun _ => 0))), (q10, .inl (c10, 16, .inl (fun _ => 0))), (q11, .inl (c11, 1040, .inl (fun _ => 0))), (q12, .inl (c12, 1040, .inl (fun _ => 0))), (q13, .inl (c13, 1040, .inl (fun _ => 0))), (q14, .inl (c14, 1040, .inl (fun _ => 0))), (q15, .inl (c15, 1040, .inl (fun _ => 0))), (q16, .inl (c16, 34320, .inl (fun _ => 0))), (q17, .inl (c17, 34320, .inl (fun _ => 0))), (q18, .inl (c18, 1040, .inl (fun _ => 0))), (q19, .inl (c19, 1040, .inl (fun _ => 0)))] H := hP
  have hD : va_D A [(h0, .inr (9, [.int 0, .ref q1, .int 0, .ref q2, .int 0, .int 0, .int (-1), .int 0, .ref q3, .ref q4, .ref q5, .int 0, .int 16, .ref q6, .ref q7, .ref q8, .ref q9, .ref q10, .int 0, .int 0, .int 0, .ref q11, .ref q12, .ref q13, .ref q14, .ref q15, .int 0, .int 0, .ref q16, .ref q17, .ref q18, .null, .null, .null, .null, .null, .null, .int 0])), (q1, .inl (c1, 1040, .inl (fun _ => 0))), (q2, .inl (c2, 1040, .inl (fun _ => 0))), (q3, .inl (c3, 32, .inl (fun _ => 0))), (q4, .inl (c4, 256, .inl (fun _ => 0))), (q5, .inl (c5, 2048, .inr (.inl (fun _ => 0)))), (q6, .inl (c6, 512, .inl (fun _ => 0))), (q7, .inl (c7, 4096, .inl (fun _ => 0))), (q8, .inl (c8, 16, .inl (fun _ => 0))), (q9, .inl (c9, 16, .inl (fun _ => 0))), (q10, .inl (c10, 16, .inl (fun _ => 0))), (q11, .inl (c11, 1040, .inl (fun _ => 0))), (q12, .inl (c12, 1040, .inl (fun _ => 0))), (q13, .inl (c13, 1040, .inl (fun _ => 0))), (q14, .inl (c14, 1040, .inl (fun _ => 0))), (q15, .inl (c15, 1040, .inl (fun _ => 0))), (q16, .inl (c16, 34320, .inl (fun _ => 0))), (q17, .inl (c17, 34320, .inl (fun _ => 0))), (q18, .inl (c18, 1040, .inl (fun _ => 0))), (q19, .inl (c19, 1040, .inl (fun _ => 0)))] := hD
  have hK : va_K (dC, dI) vwCl [(c1, .int), (c2, .int), (c3, .int), (c4, .int), (c5, .long), (c6, .int), (c7, .int), (c8, .int), (c9, .int), (c10, .int), (c11, .boolean), (c12, .boolean), (c13, .boolean), (c14, .boolean), (c15, .boolean), (c16, .int), (c17, .int), (c18, .boolean), (c19, .boolean)] s := hK
  refine W.widen (k := 19) (n := 84992) (Nat.le_refl _) (Nat.le_refl _) ?_
  refine va_putF (D := (dC, dI)) (ci := 9) (v := .ref q19) (ty := .array .boolean) (C := "GuessFencesModel") (T := gf_T9) (N := 38) hx hb hts lays_9 gf_y9 gf_ty9 gf_nm9 hown hK hP hD hS 0 rfl rfl 31 (by decide) (hts (.fieldLink "GuessFencesModel" 74 "GuessFencesModel" "ended" "[Z") (gv_i6 153 rfl rfl)) (fun _ h9 => h9) rfl hin rfl (by decide +kernel) rfl rfl (Nat.le_of_ble_eq_true rfl) (by decide +kernel) (fun H locs hP hD hS => ?_)
  have hP : va_P (dC, dI) vwCl [(h0, .inr (9, [.int 0, .ref q1, .int 0, .ref q2, .int 0, .int 0, .int (-1), .int 0, .ref q3, .ref q4, .ref q5, .int 0, .int 16, .ref q6, .ref q7, .ref q8, .ref q9, .ref q10, .int 0, .int 0, .int 0, .ref q11, .ref q12, .ref q13, .ref q14, .ref q15, .int 0, .int 0, .ref q16, .ref q17, .ref q18, .ref q19, .null, .null, .null, .null, .null, .int 0])), (q1, .inl (c1, 1040, .inl (fun _ => 0))), (q2, .inl (c2, 1040, .inl (fun _ => 0))), (q3, .inl (c3, 32, .inl (fun _ => 0))), (q4, .inl (c4, 256, .inl (fun _ => 0))), (q5, .inl (c5, 2048, .inr (.inl (fun _ => 0)))), (q6, .inl (c6, 512, .inl (fun _ => 0))), (q7, .inl (c7, 4096, .inl (fun _ => 0))), (q8, .inl (c8, 16, .inl (fun _ => 0))), (q9, .inl (c9, 16, .inl (fun _ => 0))), (q10, .inl (c10, 16, .inl (fun _ => 0))), (q11, .inl (c11, 1040, .inl (fun _ => 0))), (q12, .inl (c12, 1040, .inl (fun _ => 0))), (q13, .inl (c13, 1040, .inl (fun _ => 0))), (q14, .inl (c14, 1040, .inl (fun _ => 0))), (q15, .inl (c15, 1040, .inl (fun _ => 0))), (q16, .inl (c16, 34320, .inl (fun _ => 0))), (q17, .inl (c17, 34320, .inl (fun _ => 0))), (q18, .inl (c18, 1040, .inl (fun _ => 0))), (q19, .inl (c19, 1040, .inl (fun _ => 0)))] H := hP
  have hD : va_D A [(h0, .inr (9, [.int 0, .ref q1, .int 0, .ref q2, .int 0, .int 0, .int (-1), .int 0, .ref q3, .ref q4, .ref q5, .int 0, .int 16, .ref q6, .ref q7, .ref q8, .ref q9, .ref q10, .int 0, .int 0, .int 0, .ref q11, .ref q12, .ref q13, .ref q14, .ref q15, .int 0, .int 0, .ref q16, .ref q17, .ref q18, .ref q19, .null, .null, .null, .null, .null, .int 0])), (q1, .inl (c1, 1040, .inl (fun _ => 0))), (q2, .inl (c2, 1040, .inl (fun _ => 0))), (q3, .inl (c3, 32, .inl (fun _ => 0))), (q4, .inl (c4, 256, .inl (fun _ => 0))), (q5, .inl (c5, 2048, .inr (.inl (fun _ => 0)))), (q6, .inl (c6, 512, .inl (fun _ => 0))), (q7, .inl (c7, 4096, .inl (fun _ => 0))), (q8, .inl (c8, 16, .inl (fun _ => 0))), (q9, .inl (c9, 16, .inl (fun _ => 0))), (q10, .inl (c10, 16, .inl (fun _ => 0))), (q11, .inl (c11, 1040, .inl (fun _ => 0))), (q12, .inl (c12, 1040, .inl (fun _ => 0))), (q13, .inl (c13, 1040, .inl (fun _ => 0))), (q14, .inl (c14, 1040, .inl (fun _ => 0))), (q15, .inl (c15, 1040, .inl (fun _ => 0))), (q16, .inl (c16, 34320, .inl (fun _ => 0))), (q17, .inl (c17, 34320, .inl (fun _ => 0))), (q18, .inl (c18, 1040, .inl (fun _ => 0))), (q19, .inl (c19, 1040, .inl (fun _ => 0)))] := hD
  refine lv_aload_n hx hb (show decode prog_13_method_1_code 180 = .ok (.aload_n 0, 1) from by decide +kernel) rfl (lv_at hl 0 rfl) ?_
  refine lv_sipush (n := 2080) (v := 2080) hx hb (by decide +kernel) (by decide) ?_
  refine va_newa (atype := .int) (ty := .int) (a0 := (2080, .inl (fun _ => 0))) hx hb (gc_arr hT args (ty := .int) (by simp)) rfl hK hP hD hS hA (fun _ => rfl) (by decide) (N' := 2080) (by decide) (by decide) (Nat.le_of_ble_eq_true rfl) (Nat.le_of_ble_eq_true rfl) (show decode prog_13_method_1_code 184 = .ok (.newarray .int, 2) from by decide +kernel) (fun q20 c20 H hK hP hD hS => ?_)
  have hP : va_P (dC, dI) vwCl [(h0, .inr (9, [.int 0, .ref q1, .int 0, .ref q2, .int 0, .int 0, .int (-1), .int 0, .ref q3, .ref q4, .ref q5, .int 0, .int 16, .ref q6, .ref q7, .ref q8, .ref q9, .ref q10, .int 0, .int 0, .int 0, .ref q11, .ref q12, .ref q13, .ref q14, .ref q15, .int 0, .int 0, .ref q16, .ref q17, .ref q18, .ref q19, .null, .null, .null, .null, .null, .int 0])), (q1, .inl (c1, 1040, .inl (fun _ => 0))), (q2, .inl (c2, 1040, .inl (fun _ => 0))), (q3, .inl (c3, 32, .inl (fun _ => 0))), (q4, .inl (c4, 256, .inl (fun _ => 0))), (q5, .inl (c5, 2048, .inr (.inl (fun _ => 0)))), (q6, .inl (c6, 512, .inl (fun _ => 0))), (q7, .inl (c7, 4096, .inl (fun _ => 0))), (q8, .inl (c8, 16, .inl (fun _ => 0))), (q9, .inl (c9, 16, .inl (fun _ => 0))), (q10, .inl (c10, 16, .inl (fun _ => 0))), (q11, .inl (c11, 1040, .inl (fun _ => 0))), (q12, .inl (c12, 1040, .inl (fun _ => 0))), (q13, .inl (c13, 1040, .inl (fun _ => 0))), (q14, .inl (c14, 1040, .inl (fun _ => 0))), (q15, .inl (c15, 1040, .inl (fun _ => 0))), (q16, .inl (c16, 34320, .inl (fun _ => 0))), (q17, .inl (c17, 34320, .inl (fun _ => 0))), (q18, .inl (c18, 1040, .inl (fun _ => 0))), (q19, .inl (c19, 1040, .inl (fun _ => 0))), (q20, .inl (c20, 2080, .inl (fun _ => 0)))] H := hP
  have hD : va_D A [(h0, .inr (9, [.int 0, .ref q1, .int 0, .ref q2, .int 0, .int 0, .int (-1), .int 0, .ref q3, .ref q4, .ref q5, .int 0, .int 16, .ref q6, .ref q7, .ref q8, .ref q9, .ref q10, .int 0, .int 0, .int 0, .ref q11, .ref q12, .ref q13, .ref q14, .ref q15, .int 0, .int 0, .ref q16, .ref q17, .ref q18, .ref q19, .null, .null, .null, .null, .null, .int 0])), (q1, .inl (c1, 1040, .inl (fun _ => 0))), (q2, .inl (c2, 1040, .inl (fun _ => 0))), (q3, .inl (c3, 32, .inl (fun _ => 0))), (q4, .inl (c4, 256, .inl (fun _ => 0))), (q5, .inl (c5, 2048, .inr (.inl (fun _ => 0)))), (q6, .inl (c6, 512, .inl (fun _ => 0))), (q7, .inl (c7, 4096, .inl (fun _ => 0))), (q8, .inl (c8, 16, .inl (fun _ => 0))), (q9, .inl (c9, 16, .inl (fun _ => 0))), (q10, .inl (c10, 16, .inl (fun _ => 0))), (q11, .inl (c11, 1040, .inl (fun _ => 0))), (q12, .inl (c12, 1040, .inl (fun _ => 0))), (q13, .inl (c13, 1040, .inl (fun _ => 0))), (q14, .inl (c14, 1040, .inl (fun _ => 0))), (q15, .inl (c15, 1040, .inl (fun _ => 0))), (q16, .inl (c16, 34320, .inl (fun _ => 0))), (q17, .inl (c17, 34320, .inl (fun _ => 0))), (q18, .inl (c18, 1040, .inl (fun _ => 0))), (q19, .inl (c19, 1040, .inl (fun _ => 0))), (q20, .inl (c20, 2080, .inl (fun _ => 0)))] := hD
  have hK : va_K (dC, dI) vwCl [(c1, .int), (c2, .int), (c3, .int), (c4, .int), (c5, .long), (c6, .int), (c7, .int), (c8, .int), (c9, .int), (c10, .int), (c11, .boolean), (c12, .boolean), (c13, .boolean), (c14, .boolean), (c15, .boolean), (c16, .int), (c17, .int), (c18, .boolean), (c19, .boolean), (c20, .int)] s := hK
  refine W.widen (k := 20) (n := 87072) (Nat.le_refl _) (Nat.le_refl _) ?_
  refine va_putF (D := (dC, dI)) (ci := 9) (v := .ref q20) (ty := .array .int) (C := "GuessFencesModel") (T := gf_T9) (N := 38) hx hb hts lays_9 gf_y9 gf_ty9 gf_nm9 hown hK hP hD hS 0 rfl rfl 32 (by decide) (hts (.fieldLink "GuessFencesModel" 77 "GuessFencesModel" "from" "[I") (gv_i6 154 rfl rfl)) (fun _ h9 => h9) rfl hin rfl (by decide +kernel) rfl rfl (Nat.le_of_ble_eq_true rfl) (by decide +kernel) (fun H locs hP hD hS => ?_)
  have hP : va_P (dC, dI) vwCl [(h0, .inr (9, [.int 0, .ref q1, .int 0, .ref q2, .int 0, .int 0, .int (-1), .int 0, .ref q3, .ref q4, .ref q5, .int 0, .int 16, .ref q6, .ref q7, .ref q8, .ref q9, .ref q10, .int 0, .int 0, .int 0, .ref q11, .ref q12, .ref q13, .ref q14, .ref q15, .int 0, .int 0, .ref q16, .ref q17, .ref q18, .ref q19, .ref q20, .null, .null, .null, .null, .int 0])), (q1, .inl (c1, 1040, .inl (fun _ => 0))), (q2, .inl (c2, 1040, .inl (fun _ => 0))), (q3, .inl (c3, 32, .inl (fun _ => 0))), (q4, .inl (c4, 256, .inl (fun _ => 0))), (q5, .inl (c5, 2048, .inr (.inl (fun _ => 0)))), (q6, .inl (c6, 512, .inl (fun _ => 0))), (q7, .inl (c7, 4096, .inl (fun _ => 0))), (q8, .inl (c8, 16, .inl (fun _ => 0))), (q9, .inl (c9, 16, .inl (fun _ => 0))), (q10, .inl (c10, 16, .inl (fun _ => 0))), (q11, .inl (c11, 1040, .inl (fun _ => 0))), (q12, .inl (c12, 1040, .inl (fun _ => 0))), (q13, .inl (c13, 1040, .inl (fun _ => 0))), (q14, .inl (c14, 1040, .inl (fun _ => 0))), (q15, .inl (c15, 1040, .inl (fun _ => 0))), (q16, .inl (c16, 34320, .inl (fun _ => 0))), (q17, .inl (c17, 34320, .inl (fun _ => 0))), (q18, .inl (c18, 1040, .inl (fun _ => 0))), (q19, .inl (c19, 1040, .inl (fun _ => 0))), (q20, .inl (c20, 2080, .inl (fun _ => 0)))] H := hP
  have hD : va_D A [(h0, .inr (9, [.int 0, .ref q1, .int 0, .ref q2, .int 0, .int 0, .int (-1), .int 0, .ref q3, .ref q4, .ref q5, .int 0, .int 16, .ref q6, .ref q7, .ref q8, .ref q9, .ref q10, .int 0, .int 0, .int 0, .ref q11, .ref q12, .ref q13, .ref q14, .ref q15, .int 0, .int 0, .ref q16, .ref q17, .ref q18, .ref q19, .ref q20, .null, .null, .null, .null, .int 0])), (q1, .inl (c1, 1040, .inl (fun _ => 0))), (q2, .inl (c2, 1040, .inl (fun _ => 0))), (q3, .inl (c3, 32, .inl (fun _ => 0))), (q4, .inl (c4, 256, .inl (fun _ => 0))), (q5, .inl (c5, 2048, .inr (.inl (fun _ => 0)))), (q6, .inl (c6, 512, .inl (fun _ => 0))), (q7, .inl (c7, 4096, .inl (fun _ => 0))), (q8, .inl (c8, 16, .inl (fun _ => 0))), (q9, .inl (c9, 16, .inl (fun _ => 0))), (q10, .inl (c10, 16, .inl (fun _ => 0))), (q11, .inl (c11, 1040, .inl (fun _ => 0))), (q12, .inl (c12, 1040, .inl (fun _ => 0))), (q13, .inl (c13, 1040, .inl (fun _ => 0))), (q14, .inl (c14, 1040, .inl (fun _ => 0))), (q15, .inl (c15, 1040, .inl (fun _ => 0))), (q16, .inl (c16, 34320, .inl (fun _ => 0))), (q17, .inl (c17, 34320, .inl (fun _ => 0))), (q18, .inl (c18, 1040, .inl (fun _ => 0))), (q19, .inl (c19, 1040, .inl (fun _ => 0))), (q20, .inl (c20, 2080, .inl (fun _ => 0)))] := hD
  refine lv_aload_n hx hb (show decode prog_13_method_1_code 189 = .ok (.aload_n 0, 1) from by decide +kernel) rfl (lv_at hl 0 rfl) ?_
  refine lv_sipush (n := 2081) (v := 2081) hx hb (by decide +kernel) (by decide) ?_
  refine va_newa (atype := .int) (ty := .int) (a0 := (2081, .inl (fun _ => 0))) hx hb (gc_arr hT args (ty := .int) (by simp)) rfl hK hP hD hS hA (fun _ => rfl) (by decide) (N' := 2081) (by decide) (by decide) (Nat.le_of_ble_eq_true rfl) (Nat.le_of_ble_eq_true rfl) (show decode prog_13_method_1_code 193 = .ok (.newarray .int, 2) from by decide +kernel) (fun q21 c21 H hK hP hD hS => ?_)
  have hP : va_P (dC, dI) vwCl [(h0, .inr (9, [.int 0, .ref q1, .int 0, .ref q2, .int 0, .int 0, .int (-1), .int 0, .ref q3, .ref q4, .ref q5, .int 0, .int 16, .ref q6, .ref q7, .ref q8, .ref q9, .ref q10, .int 0, .int 0, .int 0, .ref q11, .ref q12, .ref q13, .ref q14, .ref q15, .int 0, .int 0, .ref q16, .ref q17, .ref q18, .ref q19, .ref q20, .null, .null, .null, .null, .int 0])), (q1, .inl (c1, 1040, .inl (fun _ => 0))), (q2, .inl (c2, 1040, .inl (fun _ => 0))), (q3, .inl (c3, 32, .inl (fun _ => 0))), (q4, .inl (c4, 256, .inl (fun _ => 0))), (q5, .inl (c5, 2048, .inr (.inl (fun _ => 0)))), (q6, .inl (c6, 512, .inl (fun _ => 0))), (q7, .inl (c7, 4096, .inl (fun _ => 0))), (q8, .inl (c8, 16, .inl (fun _ => 0))), (q9, .inl (c9, 16, .inl (fun _ => 0))), (q10, .inl (c10, 16, .inl (fun _ => 0))), (q11, .inl (c11, 1040, .inl (fun _ => 0))), (q12, .inl (c12, 1040, .inl (fun _ => 0))), (q13, .inl (c13, 1040, .inl (fun _ => 0))), (q14, .inl (c14, 1040, .inl (fun _ => 0))), (q15, .inl (c15, 1040, .inl (fun _ => 0))), (q16, .inl (c16, 34320, .inl (fun _ => 0))), (q17, .inl (c17, 34320, .inl (fun _ => 0))), (q18, .inl (c18, 1040, .inl (fun _ => 0))), (q19, .inl (c19, 1040, .inl (fun _ => 0))), (q20, .inl (c20, 2080, .inl (fun _ => 0))), (q21, .inl (c21, 2081, .inl (fun _ => 0)))] H := hP
  have hD : va_D A [(h0, .inr (9, [.int 0, .ref q1, .int 0, .ref q2, .int 0, .int 0, .int (-1), .int 0, .ref q3, .ref q4, .ref q5, .int 0, .int 16, .ref q6, .ref q7, .ref q8, .ref q9, .ref q10, .int 0, .int 0, .int 0, .ref q11, .ref q12, .ref q13, .ref q14, .ref q15, .int 0, .int 0, .ref q16, .ref q17, .ref q18, .ref q19, .ref q20, .null, .null, .null, .null, .int 0])), (q1, .inl (c1, 1040, .inl (fun _ => 0))), (q2, .inl (c2, 1040, .inl (fun _ => 0))), (q3, .inl (c3, 32, .inl (fun _ => 0))), (q4, .inl (c4, 256, .inl (fun _ => 0))), (q5, .inl (c5, 2048, .inr (.inl (fun _ => 0)))), (q6, .inl (c6, 512, .inl (fun _ => 0))), (q7, .inl (c7, 4096, .inl (fun _ => 0))), (q8, .inl (c8, 16, .inl (fun _ => 0))), (q9, .inl (c9, 16, .inl (fun _ => 0))), (q10, .inl (c10, 16, .inl (fun _ => 0))), (q11, .inl (c11, 1040, .inl (fun _ => 0))), (q12, .inl (c12, 1040, .inl (fun _ => 0))), (q13, .inl (c13, 1040, .inl (fun _ => 0))), (q14, .inl (c14, 1040, .inl (fun _ => 0))), (q15, .inl (c15, 1040, .inl (fun _ => 0))), (q16, .inl (c16, 34320, .inl (fun _ => 0))), (q17, .inl (c17, 34320, .inl (fun _ => 0))), (q18, .inl (c18, 1040, .inl (fun _ => 0))), (q19, .inl (c19, 1040, .inl (fun _ => 0))), (q20, .inl (c20, 2080, .inl (fun _ => 0))), (q21, .inl (c21, 2081, .inl (fun _ => 0)))] := hD
  have hK : va_K (dC, dI) vwCl [(c1, .int), (c2, .int), (c3, .int), (c4, .int), (c5, .long), (c6, .int), (c7, .int), (c8, .int), (c9, .int), (c10, .int), (c11, .boolean), (c12, .boolean), (c13, .boolean), (c14, .boolean), (c15, .boolean), (c16, .int), (c17, .int), (c18, .boolean), (c19, .boolean), (c20, .int), (c21, .int)] s := hK
  refine W.widen (k := 21) (n := 89153) (Nat.le_refl _) (Nat.le_refl _) ?_
  refine va_putF (D := (dC, dI)) (ci := 9) (v := .ref q21) (ty := .array .int) (C := "GuessFencesModel") (T := gf_T9) (N := 38) hx hb hts lays_9 gf_y9 gf_ty9 gf_nm9 hown hK hP hD hS 0 rfl rfl 33 (by decide) (hts (.fieldLink "GuessFencesModel" 80 "GuessFencesModel" "queue" "[I") (gv_i6 155 rfl rfl)) (fun _ h9 => h9) rfl hin rfl (by decide +kernel) rfl rfl (Nat.le_of_ble_eq_true rfl) (by decide +kernel) (fun H locs hP hD hS => ?_)
  have hP : va_P (dC, dI) vwCl [(h0, .inr (9, [.int 0, .ref q1, .int 0, .ref q2, .int 0, .int 0, .int (-1), .int 0, .ref q3, .ref q4, .ref q5, .int 0, .int 16, .ref q6, .ref q7, .ref q8, .ref q9, .ref q10, .int 0, .int 0, .int 0, .ref q11, .ref q12, .ref q13, .ref q14, .ref q15, .int 0, .int 0, .ref q16, .ref q17, .ref q18, .ref q19, .ref q20, .ref q21, .null, .null, .null, .int 0])), (q1, .inl (c1, 1040, .inl (fun _ => 0))), (q2, .inl (c2, 1040, .inl (fun _ => 0))), (q3, .inl (c3, 32, .inl (fun _ => 0))), (q4, .inl (c4, 256, .inl (fun _ => 0))), (q5, .inl (c5, 2048, .inr (.inl (fun _ => 0)))), (q6, .inl (c6, 512, .inl (fun _ => 0))), (q7, .inl (c7, 4096, .inl (fun _ => 0))), (q8, .inl (c8, 16, .inl (fun _ => 0))), (q9, .inl (c9, 16, .inl (fun _ => 0))), (q10, .inl (c10, 16, .inl (fun _ => 0))), (q11, .inl (c11, 1040, .inl (fun _ => 0))), (q12, .inl (c12, 1040, .inl (fun _ => 0))), (q13, .inl (c13, 1040, .inl (fun _ => 0))), (q14, .inl (c14, 1040, .inl (fun _ => 0))), (q15, .inl (c15, 1040, .inl (fun _ => 0))), (q16, .inl (c16, 34320, .inl (fun _ => 0))), (q17, .inl (c17, 34320, .inl (fun _ => 0))), (q18, .inl (c18, 1040, .inl (fun _ => 0))), (q19, .inl (c19, 1040, .inl (fun _ => 0))), (q20, .inl (c20, 2080, .inl (fun _ => 0))), (q21, .inl (c21, 2081, .inl (fun _ => 0)))] H := hP
  have hD : va_D A [(h0, .inr (9, [.int 0, .ref q1, .int 0, .ref q2, .int 0, .int 0, .int (-1), .int 0, .ref q3, .ref q4, .ref q5, .int 0, .int 16, .ref q6, .ref q7, .ref q8, .ref q9, .ref q10, .int 0, .int 0, .int 0, .ref q11, .ref q12, .ref q13, .ref q14, .ref q15, .int 0, .int 0, .ref q16, .ref q17, .ref q18, .ref q19, .ref q20, .ref q21, .null, .null, .null, .int 0])), (q1, .inl (c1, 1040, .inl (fun _ => 0))), (q2, .inl (c2, 1040, .inl (fun _ => 0))), (q3, .inl (c3, 32, .inl (fun _ => 0))), (q4, .inl (c4, 256, .inl (fun _ => 0))), (q5, .inl (c5, 2048, .inr (.inl (fun _ => 0)))), (q6, .inl (c6, 512, .inl (fun _ => 0))), (q7, .inl (c7, 4096, .inl (fun _ => 0))), (q8, .inl (c8, 16, .inl (fun _ => 0))), (q9, .inl (c9, 16, .inl (fun _ => 0))), (q10, .inl (c10, 16, .inl (fun _ => 0))), (q11, .inl (c11, 1040, .inl (fun _ => 0))), (q12, .inl (c12, 1040, .inl (fun _ => 0))), (q13, .inl (c13, 1040, .inl (fun _ => 0))), (q14, .inl (c14, 1040, .inl (fun _ => 0))), (q15, .inl (c15, 1040, .inl (fun _ => 0))), (q16, .inl (c16, 34320, .inl (fun _ => 0))), (q17, .inl (c17, 34320, .inl (fun _ => 0))), (q18, .inl (c18, 1040, .inl (fun _ => 0))), (q19, .inl (c19, 1040, .inl (fun _ => 0))), (q20, .inl (c20, 2080, .inl (fun _ => 0))), (q21, .inl (c21, 2081, .inl (fun _ => 0)))] := hD
  refine lv_aload_n hx hb (show decode prog_13_method_1_code 198 = .ok (.aload_n 0, 1) from by decide +kernel) rfl (lv_at hl 0 rfl) ?_
  refine lv_sipush (n := 1040) (v := 1040) hx hb (by decide +kernel) (by decide) ?_
  refine va_newa (atype := .boolean) (ty := .boolean) (a0 := (1040, .inl (fun _ => 0))) hx hb (gc_arr hT args (ty := .boolean) (by simp)) rfl hK hP hD hS hA (fun _ => rfl) (by decide) (N' := 1040) (by decide) (by decide) (Nat.le_of_ble_eq_true rfl) (Nat.le_of_ble_eq_true rfl) (show decode prog_13_method_1_code 202 = .ok (.newarray .boolean, 2) from by decide +kernel) (fun q22 c22 H hK hP hD hS => ?_)
  have hP : va_P (dC, dI) vwCl [(h0, .inr (9, [.int 0, .ref q1, .int 0, .ref q2, .int 0, .int 0, .int (-1), .int 0, .ref q3, .ref q4, .ref q5, .int 0, .int 16, .ref q6, .ref q7, .ref q8, .ref q9, .ref q10, .int 0, .int 0, .int 0, .ref q11, .ref q12, .ref q13, .ref q14, .ref q15, .int 0, .int 0, .ref q16, .ref q17, .ref q18, .ref q19, .ref q20, .ref q21, .null, .null, .null, .int 0])), (q1, .inl (c1, 1040, .inl (fun _ => 0))), (q2, .inl (c2, 1040, .inl (fun _ => 0))), (q3, .inl (c3, 32, .inl (fun _ => 0))), (q4, .inl (c4, 256, .inl (fun _ => 0))), (q5, .inl (c5, 2048, .inr (.inl (fun _ => 0)))), (q6, .inl (c6, 512, .inl (fun _ => 0))), (q7, .inl (c7, 4096, .inl (fun _ => 0))), (q8, .inl (c8, 16, .inl (fun _ => 0))), (q9, .inl (c9, 16, .inl (fun _ => 0))), (q10, .inl (c10, 16, .inl (fun _ => 0))), (q11, .inl (c11, 1040, .inl (fun _ => 0))), (q12, .inl (c12, 1040, .inl (fun _ => 0))), (q13, .inl (c13, 1040, .inl (fun _ => 0))), (q14, .inl (c14, 1040, .inl (fun _ => 0))), (q15, .inl (c15, 1040, .inl (fun _ => 0))), (q16, .inl (c16, 34320, .inl (fun _ => 0))), (q17, .inl (c17, 34320, .inl (fun _ => 0))), (q18, .inl (c18, 1040, .inl (fun _ => 0))), (q19, .inl (c19, 1040, .inl (fun _ => 0))), (q20, .inl (c20, 2080, .inl (fun _ => 0))), (q21, .inl (c21, 2081, .inl (fun _ => 0))), (q22, .inl (c22, 1040, .inl (fun _ => 0)))] H := hP
  have hD : va_D A [(h0, .inr (9, [.int 0, .ref q1, .int 0, .ref q2, .int 0, .int 0, .int (-1), .int 0, .ref q3, .ref q4, .ref q5, .int 0, .int 16, .ref q6, .ref q7, .ref q8, .ref q9, .ref q10, .int 0, .int 0, .int 0, .ref q11, .ref q12, .ref q13, .ref q14, .ref q15, .int 0, .int 0, .ref q16, .ref q17, .ref q18, .ref q19, .ref q20, .ref q21, .null, .null, .null, .int 0])), (q1, .inl (c1, 1040, .inl (fun _ => 0))), (q2, .inl (c2, 1040, .inl (fun _ => 0))), (q3, .inl (c3, 32, .inl (fun _ => 0))), (q4, .inl (c4, 256, .inl (fun _ => 0))), (q5, .inl (c5, 2048, .inr (.inl (fun _ => 0)))), (q6, .inl (c6, 512, .inl (fun _ => 0))), (q7, .inl (c7, 4096, .inl (fun _ => 0))), (q8, .inl (c8, 16, .inl (fun _ => 0))), (q9, .inl (c9, 16, .inl (fun _ => 0))), (q10, .inl (c10, 16, .inl (fun _ => 0))), (q11, .inl (c11, 1040, .inl (fun _ => 0))), (q12, .inl (c12, 1040, .inl (fun _ => 0))), (q13, .inl (c13, 1040, .inl (fun _ => 0))), (q14, .inl (c14, 1040, .inl (fun _ => 0))), (q15, .inl (c15, 1040, .inl (fun _ => 0))), (q16, .inl (c16, 34320, .inl (fun _ => 0))), (q17, .inl (c17, 34320, .inl (fun _ => 0))), (q18, .inl (c18, 1040, .inl (fun _ => 0))), (q19, .inl (c19, 1040, .inl (fun _ => 0))), (q20, .inl (c20, 2080, .inl (fun _ => 0))), (q21, .inl (c21, 2081, .inl (fun _ => 0))), (q22, .inl (c22, 1040, .inl (fun _ => 0)))] := hD
  have hK : va_K (dC, dI) vwCl [(c1, .int), (c2, .int), (c3, .int), (c4, .int), (c5, .long), (c6, .int), (c7, .int), (c8, .int), (c9, .int), (c10, .int), (c11, .boolean), (c12, .boolean), (c13, .boolean), (c14, .boolean), (c15, .boolean), (c16, .int), (c17, .int), (c18, .boolean), (c19, .boolean), (c20, .int), (c21, .int), (c22, .boolean)] s := hK
  refine W.widen (k := 22) (n := 90193) (Nat.le_refl _) (Nat.le_refl _) ?_
  refine va_putF (D := (dC, dI)) (ci := 9) (v := .ref q22) (ty := .array .boolean) (C := "GuessFencesModel") (T := gf_T9) (N := 38) hx hb hts lays_9 gf_y9 gf_ty9 gf_nm9 hown hK hP hD hS 0 rfl rfl 34 (by decide) (hts (.fieldLink "GuessFencesModel" 83 "GuessFencesModel" "seen" "[Z") (gv_i6 156 rfl rfl)) (fun _ h9 => h9) rfl hin rfl (by decide +kernel) rfl rfl (Nat.le_of_ble_eq_true rfl) (by decide +kernel) (fun H locs hP hD hS => ?_)
  have hP : va_P (dC, dI) vwCl [(h0, .inr (9, [.int 0, .ref q1, .int 0, .ref q2, .int 0, .int 0, .int (-1), .int 0, .ref q3, .ref q4, .ref q5, .int 0, .int 16, .ref q6, .ref q7, .ref q8, .ref q9, .ref q10, .int 0, .int 0, .int 0, .ref q11, .ref q12, .ref q13, .ref q14, .ref q15, .int 0, .int 0, .ref q16, .ref q17, .ref q18, .ref q19, .ref q20, .ref q21, .ref q22, .null, .null, .int 0])), (q1, .inl (c1, 1040, .inl (fun _ => 0))), (q2, .inl (c2, 1040, .inl (fun _ => 0))), (q3, .inl (c3, 32, .inl (fun _ => 0))), (q4, .inl (c4, 256, .inl (fun _ => 0))), (q5, .inl (c5, 2048, .inr (.inl (fun _ => 0)))), (q6, .inl (c6, 512, .inl (fun _ => 0))), (q7, .inl (c7, 4096, .inl (fun _ => 0))), (q8, .inl (c8, 16, .inl (fun _ => 0))), (q9, .inl (c9, 16, .inl (fun _ => 0))), (q10, .inl (c10, 16, .inl (fun _ => 0))), (q11, .inl (c11, 1040, .inl (fun _ => 0))), (q12, .inl (c12, 1040, .inl (fun _ => 0))), (q13, .inl (c13, 1040, .inl (fun _ => 0))), (q14, .inl (c14, 1040, .inl (fun _ => 0))), (q15, .inl (c15, 1040, .inl (fun _ => 0))), (q16, .inl (c16, 34320, .inl (fun _ => 0))), (q17, .inl (c17, 34320, .inl (fun _ => 0))), (q18, .inl (c18, 1040, .inl (fun _ => 0))), (q19, .inl (c19, 1040, .inl (fun _ => 0))), (q20, .inl (c20, 2080, .inl (fun _ => 0))), (q21, .inl (c21, 2081, .inl (fun _ => 0))), (q22, .inl (c22, 1040, .inl (fun _ => 0)))] H := hP
  have hD : va_D A [(h0, .inr (9, [.int 0, .ref q1, .int 0, .ref q2, .int 0, .int 0, .int (-1), .int 0, .ref q3, .ref q4, .ref q5, .int 0, .int 16, .ref q6, .ref q7, .ref q8, .ref q9, .ref q10, .int 0, .int 0, .int 0, .ref q11, .ref q12, .ref q13, .ref q14, .ref q15, .int 0, .int 0, .ref q16, .ref q17, .ref q18, .ref q19, .ref q20, .ref q21, .ref q22, .null, .null, .int 0])), (q1, .inl (c1, 1040, .inl (fun _ => 0))), (q2, .inl (c2, 1040, .inl (fun _ => 0))), (q3, .inl (c3, 32, .inl (fun _ => 0))), (q4, .inl (c4, 256, .inl (fun _ => 0))), (q5, .inl (c5, 2048, .inr (.inl (fun _ => 0)))), (q6, .inl (c6, 512, .inl (fun _ => 0))), (q7, .inl (c7, 4096, .inl (fun _ => 0))), (q8, .inl (c8, 16, .inl (fun _ => 0))), (q9, .inl (c9, 16, .inl (fun _ => 0))), (q10, .inl (c10, 16, .inl (fun _ => 0))), (q11, .inl (c11, 1040, .inl (fun _ => 0))), (q12, .inl (c12, 1040, .inl (fun _ => 0))), (q13, .inl (c13, 1040, .inl (fun _ => 0))), (q14, .inl (c14, 1040, .inl (fun _ => 0))), (q15, .inl (c15, 1040, .inl (fun _ => 0))), (q16, .inl (c16, 34320, .inl (fun _ => 0))), (q17, .inl (c17, 34320, .inl (fun _ => 0))), (q18, .inl (c18, 1040, .inl (fun _ => 0))), (q19, .inl (c19, 1040, .inl (fun _ => 0))), (q20, .inl (c20, 2080, .inl (fun _ => 0))), (q21, .inl (c21, 2081, .inl (fun _ => 0))), (q22, .inl (c22, 1040, .inl (fun _ => 0)))] := hD
  refine lv_aload_n hx hb (show decode prog_13_method_1_code 207 = .ok (.aload_n 0, 1) from by decide +kernel) rfl (lv_at hl 0 rfl) ?_
  refine lv_sipush (n := 1040) (v := 1040) hx hb (by decide +kernel) (by decide) ?_
  refine va_newa (atype := .int) (ty := .int) (a0 := (1040, .inl (fun _ => 0))) hx hb (gc_arr hT args (ty := .int) (by simp)) rfl hK hP hD hS hA (fun _ => rfl) (by decide) (N' := 1040) (by decide) (by decide) (Nat.le_of_ble_eq_true rfl) (Nat.le_of_ble_eq_true rfl) (show decode prog_13_method_1_code 211 = .ok (.newarray .int, 2) from by decide +kernel) (fun q23 c23 H hK hP hD hS => ?_)
  have hP : va_P (dC, dI) vwCl [(h0, .inr (9, [.int 0, .ref q1, .int 0, .ref q2, .int 0, .int 0, .int (-1), .int 0, .ref q3, .ref q4, .ref q5, .int 0, .int 16, .ref q6, .ref q7, .ref q8, .ref q9, .ref q10, .int 0, .int 0, .int 0, .ref q11, .ref q12, .ref q13, .ref q14, .ref q15, .int 0, .int 0, .ref q16, .ref q17, .ref q18, .ref q19, .ref q20, .ref q21, .ref q22, .null, .null, .int 0])), (q1, .inl (c1, 1040, .inl (fun _ => 0))), (q2, .inl (c2, 1040, .inl (fun _ => 0))), (q3, .inl (c3, 32, .inl (fun _ => 0))), (q4, .inl (c4, 256, .inl (fun _ => 0))), (q5, .inl (c5, 2048, .inr (.inl (fun _ => 0)))), (q6, .inl (c6, 512, .inl (fun _ => 0))), (q7, .inl (c7, 4096, .inl (fun _ => 0))), (q8, .inl (c8, 16, .inl (fun _ => 0))), (q9, .inl (c9, 16, .inl (fun _ => 0))), (q10, .inl (c10, 16, .inl (fun _ => 0))), (q11, .inl (c11, 1040, .inl (fun _ => 0))), (q12, .inl (c12, 1040, .inl (fun _ => 0))), (q13, .inl (c13, 1040, .inl (fun _ => 0))), (q14, .inl (c14, 1040, .inl (fun _ => 0))), (q15, .inl (c15, 1040, .inl (fun _ => 0))), (q16, .inl (c16, 34320, .inl (fun _ => 0))), (q17, .inl (c17, 34320, .inl (fun _ => 0))), (q18, .inl (c18, 1040, .inl (fun _ => 0))), (q19, .inl (c19, 1040, .inl (fun _ => 0))), (q20, .inl (c20, 2080, .inl (fun _ => 0))), (q21, .inl (c21, 2081, .inl (fun _ => 0))), (q22, .inl (c22, 1040, .inl (fun _ => 0))), (q23, .inl (c23, 1040, .inl (fun _ => 0)))] H := hP
  have hD : va_D A [(h0, .inr (9, [.int 0, .ref q1, .int 0, .ref q2, .int 0, .int 0, .int (-1), .int 0, .ref q3, .ref q4, .ref q5, .int 0, .int 16, .ref q6, .ref q7, .ref q8, .ref q9, .ref q10, .int 0, .int 0, .int 0, .ref q11, .ref q12, .ref q13, .ref q14, .ref q15, .int 0, .int 0, .ref q16, .ref q17, .ref q18, .ref q19, .ref q20, .ref q21, .ref q22, .null, .null, .int 0])), (q1, .inl (c1, 1040, .inl (fun _ => 0))), (q2, .inl (c2, 1040, .inl (fun _ => 0))), (q3, .inl (c3, 32, .inl (fun _ => 0))), (q4, .inl (c4, 256, .inl (fun _ => 0))), (q5, .inl (c5, 2048, .inr (.inl (fun _ => 0)))), (q6, .inl (c6, 512, .inl (fun _ => 0))), (q7, .inl (c7, 4096, .inl (fun _ => 0))), (q8, .inl (c8, 16, .inl (fun _ => 0))), (q9, .inl (c9, 16, .inl (fun _ => 0))), (q10, .inl (c10, 16, .inl (fun _ => 0))), (q11, .inl (c11, 1040, .inl (fun _ => 0))), (q12, .inl (c12, 1040, .inl (fun _ => 0))), (q13, .inl (c13, 1040, .inl (fun _ => 0))), (q14, .inl (c14, 1040, .inl (fun _ => 0))), (q15, .inl (c15, 1040, .inl (fun _ => 0))), (q16, .inl (c16, 34320, .inl (fun _ => 0))), (q17, .inl (c17, 34320, .inl (fun _ => 0))), (q18, .inl (c18, 1040, .inl (fun _ => 0))), (q19, .inl (c19, 1040, .inl (fun _ => 0))), (q20, .inl (c20, 2080, .inl (fun _ => 0))), (q21, .inl (c21, 2081, .inl (fun _ => 0))), (q22, .inl (c22, 1040, .inl (fun _ => 0))), (q23, .inl (c23, 1040, .inl (fun _ => 0)))] := hD
  have hK : va_K (dC, dI) vwCl [(c1, .int), (c2, .int), (c3, .int), (c4, .int), (c5, .long), (c6, .int), (c7, .int), (c8, .int), (c9, .int), (c10, .int), (c11, .boolean), (c12, .boolean), (c13, .boolean), (c14, .boolean), (c15, .boolean), (c16, .int), (c17, .int), (c18, .boolean), (c19, .boolean), (c20, .int), (c21, .int), (c22, .boolean), (c23, .int)] s := hK
  refine W.widen (k := 23) (n := 91233) (Nat.le_refl _) (Nat.le_refl _) ?_
  refine va_putF (D := (dC, dI)) (ci := 9) (v := .ref q23) (ty := .array .int) (C := "GuessFencesModel") (T := gf_T9) (N := 38) hx hb hts lays_9 gf_y9 gf_ty9 gf_nm9 hown hK hP hD hS 0 rfl rfl 35 (by decide) (hts (.fieldLink "GuessFencesModel" 86 "GuessFencesModel" "fresh" "[I") (gv_i6 157 rfl rfl)) (fun _ h9 => h9) rfl hin rfl (by decide +kernel) rfl rfl (Nat.le_of_ble_eq_true rfl) (by decide +kernel) (fun H locs hP hD hS => ?_)
  have hP : va_P (dC, dI) vwCl [(h0, .inr (9, [.int 0, .ref q1, .int 0, .ref q2, .int 0, .int 0, .int (-1), .int 0, .ref q3, .ref q4, .ref q5, .int 0, .int 16, .ref q6, .ref q7, .ref q8, .ref q9, .ref q10, .int 0, .int 0, .int 0, .ref q11, .ref q12, .ref q13, .ref q14, .ref q15, .int 0, .int 0, .ref q16, .ref q17, .ref q18, .ref q19, .ref q20, .ref q21, .ref q22, .ref q23, .null, .int 0])), (q1, .inl (c1, 1040, .inl (fun _ => 0))), (q2, .inl (c2, 1040, .inl (fun _ => 0))), (q3, .inl (c3, 32, .inl (fun _ => 0))), (q4, .inl (c4, 256, .inl (fun _ => 0))), (q5, .inl (c5, 2048, .inr (.inl (fun _ => 0)))), (q6, .inl (c6, 512, .inl (fun _ => 0))), (q7, .inl (c7, 4096, .inl (fun _ => 0))), (q8, .inl (c8, 16, .inl (fun _ => 0))), (q9, .inl (c9, 16, .inl (fun _ => 0))), (q10, .inl (c10, 16, .inl (fun _ => 0))), (q11, .inl (c11, 1040, .inl (fun _ => 0))), (q12, .inl (c12, 1040, .inl (fun _ => 0))), (q13, .inl (c13, 1040, .inl (fun _ => 0))), (q14, .inl (c14, 1040, .inl (fun _ => 0))), (q15, .inl (c15, 1040, .inl (fun _ => 0))), (q16, .inl (c16, 34320, .inl (fun _ => 0))), (q17, .inl (c17, 34320, .inl (fun _ => 0))), (q18, .inl (c18, 1040, .inl (fun _ => 0))), (q19, .inl (c19, 1040, .inl (fun _ => 0))), (q20, .inl (c20, 2080, .inl (fun _ => 0))), (q21, .inl (c21, 2081, .inl (fun _ => 0))), (q22, .inl (c22, 1040, .inl (fun _ => 0))), (q23, .inl (c23, 1040, .inl (fun _ => 0)))] H := hP
  have hD : va_D A [(h0, .inr (9, [.int 0, .ref q1, .int 0, .ref q2, .int 0, .int 0, .int (-1), .int 0, .ref q3, .ref q4, .ref q5, .int 0, .int 16, .ref q6, .ref q7, .ref q8, .ref q9, .ref q10, .int 0, .int 0, .int 0, .ref q11, .ref q12, .ref q13, .ref q14, .ref q15, .int 0, .int 0, .ref q16, .ref q17, .ref q18, .ref q19, .ref q20, .ref q21, .ref q22, .ref q23, .null, .int 0])), (q1, .inl (c1, 1040, .inl (fun _ => 0))), (q2, .inl (c2, 1040, .inl (fun _ => 0))), (q3, .inl (c3, 32, .inl (fun _ => 0))), (q4, .inl (c4, 256, .inl (fun _ => 0))), (q5, .inl (c5, 2048, .inr (.inl (fun _ => 0)))), (q6, .inl (c6, 512, .inl (fun _ => 0))), (q7, .inl (c7, 4096, .inl (fun _ => 0))), (q8, .inl (c8, 16, .inl (fun _ => 0))), (q9, .inl (c9, 16, .inl (fun _ => 0))), (q10, .inl (c10, 16, .inl (fun _ => 0))), (q11, .inl (c11, 1040, .inl (fun _ => 0))), (q12, .inl (c12, 1040, .inl (fun _ => 0))), (q13, .inl (c13, 1040, .inl (fun _ => 0))), (q14, .inl (c14, 1040, .inl (fun _ => 0))), (q15, .inl (c15, 1040, .inl (fun _ => 0))), (q16, .inl (c16, 34320, .inl (fun _ => 0))), (q17, .inl (c17, 34320, .inl (fun _ => 0))), (q18, .inl (c18, 1040, .inl (fun _ => 0))), (q19, .inl (c19, 1040, .inl (fun _ => 0))), (q20, .inl (c20, 2080, .inl (fun _ => 0))), (q21, .inl (c21, 2081, .inl (fun _ => 0))), (q22, .inl (c22, 1040, .inl (fun _ => 0))), (q23, .inl (c23, 1040, .inl (fun _ => 0)))] := hD
  refine lv_aload_n hx hb (show decode prog_13_method_1_code 216 = .ok (.aload_n 0, 1) from by decide +kernel) rfl (lv_at hl 0 rfl) ?_
  refine lv_sipush (n := 1041) (v := 1041) hx hb (by decide +kernel) (by decide) ?_
  refine va_newa (atype := .int) (ty := .int) (a0 := (1041, .inl (fun _ => 0))) hx hb (gc_arr hT args (ty := .int) (by simp)) rfl hK hP hD hS hA (fun _ => rfl) (by decide) (N' := 1041) (by decide) (by decide) (Nat.le_of_ble_eq_true rfl) (Nat.le_of_ble_eq_true rfl) (show decode prog_13_method_1_code 220 = .ok (.newarray .int, 2) from by decide +kernel) (fun q24 c24 H hK hP hD hS => ?_)
  have hP : va_P (dC, dI) vwCl [(h0, .inr (9, [.int 0, .ref q1, .int 0, .ref q2, .int 0, .int 0, .int (-1), .int 0, .ref q3, .ref q4, .ref q5, .int 0, .int 16, .ref q6, .ref q7, .ref q8, .ref q9, .ref q10, .int 0, .int 0, .int 0, .ref q11, .ref q12, .ref q13, .ref q14, .ref q15, .int 0, .int 0, .ref q16, .ref q17, .ref q18, .ref q19, .ref q20, .ref q21, .ref q22, .ref q23, .null, .int 0])), (q1, .inl (c1, 1040, .inl (fun _ => 0))), (q2, .inl (c2, 1040, .inl (fun _ => 0))), (q3, .inl (c3, 32, .inl (fun _ => 0))), (q4, .inl (c4, 256, .inl (fun _ => 0))), (q5, .inl (c5, 2048, .inr (.inl (fun _ => 0)))), (q6, .inl (c6, 512, .inl (fun _ => 0))), (q7, .inl (c7, 4096, .inl (fun _ => 0))), (q8, .inl (c8, 16, .inl (fun _ => 0))), (q9, .inl (c9, 16, .inl (fun _ => 0))), (q10, .inl (c10, 16, .inl (fun _ => 0))), (q11, .inl (c11, 1040, .inl (fun _ => 0))), (q12, .inl (c12, 1040, .inl (fun _ => 0))), (q13, .inl (c13, 1040, .inl (fun _ => 0))), (q14, .inl (c14, 1040, .inl (fun _ => 0))), (q15, .inl (c15, 1040, .inl (fun _ => 0))), (q16, .inl (c16, 34320, .inl (fun _ => 0))), (q17, .inl (c17, 34320, .inl (fun _ => 0))), (q18, .inl (c18, 1040, .inl (fun _ => 0))), (q19, .inl (c19, 1040, .inl (fun _ => 0))), (q20, .inl (c20, 2080, .inl (fun _ => 0))), (q21, .inl (c21, 2081, .inl (fun _ => 0))), (q22, .inl (c22, 1040, .inl (fun _ => 0))), (q23, .inl (c23, 1040, .inl (fun _ => 0))), (q24, .inl (c24, 1041, .inl (fun _ => 0)))] H := hP
  have hD : va_D A [(h0, .inr (9, [.int 0, .ref q1, .int 0, .ref q2, .int 0, .int 0, .int (-1), .int 0, .ref q3, .ref q4, .ref q5, .int 0, .int 16, .ref q6, .ref q7, .ref q8, .ref q9, .ref q10, .int 0, .int 0, .int 0, .ref q11, .ref q12, .ref q13, .ref q14, .ref q15, .int 0, .int 0, .ref q16, .ref q17, .ref q18, .ref q19, .ref q20, .ref q21, .ref q22, .ref q23, .null, .int 0])), (q1, .inl (c1, 1040, .inl (fun _ => 0))), (q2, .inl (c2, 1040, .inl (fun _ => 0))), (q3, .inl (c3, 32, .inl (fun _ => 0))), (q4, .inl (c4, 256, .inl (fun _ => 0))), (q5, .inl (c5, 2048, .inr (.inl (fun _ => 0)))), (q6, .inl (c6, 512, .inl (fun _ => 0))), (q7, .inl (c7, 4096, .inl (fun _ => 0))), (q8, .inl (c8, 16, .inl (fun _ => 0))), (q9, .inl (c9, 16, .inl (fun _ => 0))), (q10, .inl (c10, 16, .inl (fun _ => 0))), (q11, .inl (c11, 1040, .inl (fun _ => 0))), (q12, .inl (c12, 1040, .inl (fun _ => 0))), (q13, .inl (c13, 1040, .inl (fun _ => 0))), (q14, .inl (c14, 1040, .inl (fun _ => 0))), (q15, .inl (c15, 1040, .inl (fun _ => 0))), (q16, .inl (c16, 34320, .inl (fun _ => 0))), (q17, .inl (c17, 34320, .inl (fun _ => 0))), (q18, .inl (c18, 1040, .inl (fun _ => 0))), (q19, .inl (c19, 1040, .inl (fun _ => 0))), (q20, .inl (c20, 2080, .inl (fun _ => 0))), (q21, .inl (c21, 2081, .inl (fun _ => 0))), (q22, .inl (c22, 1040, .inl (fun _ => 0))), (q23, .inl (c23, 1040, .inl (fun _ => 0))), (q24, .inl (c24, 1041, .inl (fun _ => 0)))] := hD
  have hK : va_K (dC, dI) vwCl [(c1, .int), (c2, .int), (c3, .int), (c4, .int), (c5, .long), (c6, .int), (c7, .int), (c8, .int), (c9, .int), (c10, .int), (c11, .boolean), (c12, .boolean), (c13, .boolean), (c14, .boolean), (c15, .boolean), (c16, .int), (c17, .int), (c18, .boolean), (c19, .boolean), (c20, .int), (c21, .int), (c22, .boolean), (c23, .int), (c24, .int)] s := hK
  refine W.widen (k := 24) (n := 92274) (Nat.le_refl _) (Nat.le_refl _) ?_
  refine va_putF (D := (dC, dI)) (ci := 9) (v := .ref q24) (ty := .array .int) (C := "GuessFencesModel") (T := gf_T9) (N := 38) hx hb hts lays_9 gf_y9 gf_ty9 gf_nm9 hown hK hP hD hS 0 rfl rfl 36 (by decide) (hts (.fieldLink "GuessFencesModel" 89 "GuessFencesModel" "where" "[I") (gv_i6 158 rfl rfl)) (fun _ h9 => h9) rfl hin rfl (by decide +kernel) rfl rfl (Nat.le_of_ble_eq_true rfl) (by decide +kernel) (fun H locs hP hD hS => ?_)
  have hP : va_P (dC, dI) vwCl [(h0, .inr (9, [.int 0, .ref q1, .int 0, .ref q2, .int 0, .int 0, .int (-1), .int 0, .ref q3, .ref q4, .ref q5, .int 0, .int 16, .ref q6, .ref q7, .ref q8, .ref q9, .ref q10, .int 0, .int 0, .int 0, .ref q11, .ref q12, .ref q13, .ref q14, .ref q15, .int 0, .int 0, .ref q16, .ref q17, .ref q18, .ref q19, .ref q20, .ref q21, .ref q22, .ref q23, .ref q24, .int 0])), (q1, .inl (c1, 1040, .inl (fun _ => 0))), (q2, .inl (c2, 1040, .inl (fun _ => 0))), (q3, .inl (c3, 32, .inl (fun _ => 0))), (q4, .inl (c4, 256, .inl (fun _ => 0))), (q5, .inl (c5, 2048, .inr (.inl (fun _ => 0)))), (q6, .inl (c6, 512, .inl (fun _ => 0))), (q7, .inl (c7, 4096, .inl (fun _ => 0))), (q8, .inl (c8, 16, .inl (fun _ => 0))), (q9, .inl (c9, 16, .inl (fun _ => 0))), (q10, .inl (c10, 16, .inl (fun _ => 0))), (q11, .inl (c11, 1040, .inl (fun _ => 0))), (q12, .inl (c12, 1040, .inl (fun _ => 0))), (q13, .inl (c13, 1040, .inl (fun _ => 0))), (q14, .inl (c14, 1040, .inl (fun _ => 0))), (q15, .inl (c15, 1040, .inl (fun _ => 0))), (q16, .inl (c16, 34320, .inl (fun _ => 0))), (q17, .inl (c17, 34320, .inl (fun _ => 0))), (q18, .inl (c18, 1040, .inl (fun _ => 0))), (q19, .inl (c19, 1040, .inl (fun _ => 0))), (q20, .inl (c20, 2080, .inl (fun _ => 0))), (q21, .inl (c21, 2081, .inl (fun _ => 0))), (q22, .inl (c22, 1040, .inl (fun _ => 0))), (q23, .inl (c23, 1040, .inl (fun _ => 0))), (q24, .inl (c24, 1041, .inl (fun _ => 0)))] H := hP
  have hD : va_D A [(h0, .inr (9, [.int 0, .ref q1, .int 0, .ref q2, .int 0, .int 0, .int (-1), .int 0, .ref q3, .ref q4, .ref q5, .int 0, .int 16, .ref q6, .ref q7, .ref q8, .ref q9, .ref q10, .int 0, .int 0, .int 0, .ref q11, .ref q12, .ref q13, .ref q14, .ref q15, .int 0, .int 0, .ref q16, .ref q17, .ref q18, .ref q19, .ref q20, .ref q21, .ref q22, .ref q23, .ref q24, .int 0])), (q1, .inl (c1, 1040, .inl (fun _ => 0))), (q2, .inl (c2, 1040, .inl (fun _ => 0))), (q3, .inl (c3, 32, .inl (fun _ => 0))), (q4, .inl (c4, 256, .inl (fun _ => 0))), (q5, .inl (c5, 2048, .inr (.inl (fun _ => 0)))), (q6, .inl (c6, 512, .inl (fun _ => 0))), (q7, .inl (c7, 4096, .inl (fun _ => 0))), (q8, .inl (c8, 16, .inl (fun _ => 0))), (q9, .inl (c9, 16, .inl (fun _ => 0))), (q10, .inl (c10, 16, .inl (fun _ => 0))), (q11, .inl (c11, 1040, .inl (fun _ => 0))), (q12, .inl (c12, 1040, .inl (fun _ => 0))), (q13, .inl (c13, 1040, .inl (fun _ => 0))), (q14, .inl (c14, 1040, .inl (fun _ => 0))), (q15, .inl (c15, 1040, .inl (fun _ => 0))), (q16, .inl (c16, 34320, .inl (fun _ => 0))), (q17, .inl (c17, 34320, .inl (fun _ => 0))), (q18, .inl (c18, 1040, .inl (fun _ => 0))), (q19, .inl (c19, 1040, .inl (fun _ => 0))), (q20, .inl (c20, 2080, .inl (fun _ => 0))), (q21, .inl (c21, 2081, .inl (fun _ => 0))), (q22, .inl (c22, 1040, .inl (fun _ => 0))), (q23, .inl (c23, 1040, .inl (fun _ => 0))), (q24, .inl (c24, 1041, .inl (fun _ => 0)))] := hD
  exact W.vret hx hb hr (fun t ht hW => ⟨⟨(), rfl, trivial, q1, q2, q3, q4, q5, q6, q7, q8, q9, q10, q11, q12, q13, q14, q15, q16, q17, q18, q19, q20, q21, q22, q23, q24, c1, c2, c3, c4, c5, c6, c7, c8, c9, c10, c11, c12, c13, c14, c15, c16, c17, c18, c19, c20, c21, c22, c23, c24, by rw [ht]; exact hP, va_K.moved hW.alike hK, hD⟩, hS.F ht⟩) hS.2.2 (by decide +kernel)
end
section
def R_law : String := "GuessFencesLaw"
def lw_P (b : Addr) (xs : List Int32) (args : Array Value) (s : State) : Prop := args = #[.ref b] ∧ s.IntsAt b xs ∧ xs.length ≤ 1536 ∧ (Jvm.Cond.and given_1 narrow_1).before args s = true
def lw_Q (_ : Array Value) (s : State) (o : Outcome) (t : State) : Prop := o = .returned (some (.int 1)) ∧ Framed s o t [] 601024 7293034
def lw_Z (below : List Frame) (a : Array Value) (s : State) : State → Prop := fun t => ∃ o, t.status = .running ∧ Ended t below o ∧ lw_Q a s o t
theorem lw_ret {p : Program} {l : Launch} {e : Env} {s : State} {m : MethodId} {below : List Frame} {meth : Method} {c : Code} {b : Nat} (hx : p.tables.exec = Jvm.exec) (hb : c.code = code) (hr : meth.sig.returnType = ret) (hlocks : meth.locks = false) {pc : Nat} {H : Heap} {ls : Array Slot} (hdg : decode code pc = .ok (.ireturn, 1)) : W p l e room_1 s m #[Value.ref b] below meth c H [] 601024 7293034 (lw_Z below #[Value.ref b] s) (F0 m pc ls [.int 1]) := by
  intro T hT X
  obtain ⟨fs, hret, hrun, hended, hW, hframe⟩ := X.leave (v := some (.int 1)) (hlocks := hlocks) (fun h => by rw [hr] at h; cases h)
  have hmeth' : T.vm.method? m = some meth := X.method'
  refine ⟨T.setFrames fs, ?_, .returned (some (.int 1)), hrun, hended, rfl, ⟨_, rfl⟩, hW, hframe⟩
  jvm_step X.here [X.here.top, hx, hb, hdg, hmeth', hr, ret, narrow_b1]
  (try refine ⟨rfl, ?_⟩); (try refine ⟨rfl, ?_⟩)
  first | (intro acts; rw [hret _ acts rfl rfl rfl]) | rw [hret _ _ rfl rfl rfl]
  exact Steps.refl _
def lw_At (p : Program) (s : State) (m : MethodId) (meth : Method) (c : Code) (b L : Nat) (xs : Nat → Int32) : Prop :=
  p.tables.exec = Jvm.exec ∧ c.code = code ∧ meth.sig.returnType = ret ∧ c.maxLocals = 7 ∧ s.vm.findClass R_law = some m.cls ∧ (∀ w ∈ lw_tbl, w.before #[Value.ref b] s = true) ∧ va_X b L xs s s.heap ∧ b < s.heap.size ∧ meth.locks = false ∧ (Jvm.Cond.and given_1 narrow_1).before #[Value.ref b] s = true

theorem gc_same {D : va_G} {cl : List vw_C} {tys : List (ClassId × FieldType)} {U : State} (h : va_K D cl tys U) {i j : Nat} {c c' : ClassId} {ty : FieldType} (hi : tys[i]? = some (c, ty)) (hj : tys[j]? = some (c', ty)) (ht : ty = .int ∨ ty = .byte ∨ ty = .long ∨ ty = .boolean) : c' = c := by
  have h1 := (h.2 i _ hi).2
  have h2 := (h.2 j _ hj).2
  rcases ht with rfl | rfl | rfl | rfl <;> exact Option.some.inj (h2.symm.trans h1)
def gv_z (scr : List Int32) : gS := (fun _ _ => 0, fun _ _ => 0, fun _ _ => 0, scr)
def gv_s0 (scr : List Int32) : gS := gs_I (gs_I (gs_I (gs_I (gv_z scr) 0 8 (-1)) 10 6 16) 41 6 (-1)) 41 12 16
def gc_ad (b : Nat) (q : List Nat) (i : Nat) : Nat := if i = 900 then b else q.getD i 0
def gc_cA (cI cB cZ cL : ClassId) (ty : FieldType) : ClassId := match ty with
  | .int => cI
  | .byte => cB
  | .boolean => cZ
  | .long => cL
  | _ => 0
theorem gc_Tc {s : State} {b : Nat} (hts : ∀ w ∈ lw_tbl, w.before #[Value.ref b] s = true) (hg : (Jvm.Cond.and given_1 narrow_1).before #[Value.ref b] s = true) : gv_Tc s := by
  have hq := flat_of_before _ hg
  refine ⟨fun w hw => ?_, fun ty hty => ?_⟩
  · rcases List.mem_append.mp hw with h | h
    · have hw9 : w.before #[Value.ref b] s = true := by
        have hall : gv_nc.all (fun w => decide (w ∈ flatC (Jvm.Cond.and given_1 narrow_1))) = true := by decide +kernel
        exact hq w (of_decide_eq_true (List.all_eq_true.mp hall w h))
      exact gv_wt hw rfl hw9
    · exact gv_wt hw rfl (hts w (List.mem_filter.mp h).1)
  · rcases hty with rfl | rfl | rfl | rfl
    · exact word_at (State.WarmedH.refl s) (Or.inr ⟨_, rfl⟩) (hts (.arrayClass .int) (List.mem_append_right _ (List.mem_append_left _ (List.mem_of_getElem? (i := 91) rfl))))
    · exact word_at (State.WarmedH.refl s) (Or.inr ⟨_, rfl⟩) (hts (.arrayClass .byte) (List.mem_append_right _ (List.mem_append_left _ (List.mem_of_getElem? (i := 112) rfl))))
    · exact word_at (State.WarmedH.refl s) (Or.inr ⟨_, rfl⟩) (hts (.arrayClass .long) (List.mem_append_right _ (List.mem_append_left _ (List.mem_of_getElem? (i := 113) rfl))))
    · exact word_at (State.WarmedH.refl s) (Or.inr ⟨_, rfl⟩) (hts (.arrayClass .boolean) (List.mem_append_right _ (List.mem_append_right _ (List.mem_append_left _ (List.mem_of_getElem? (i := 5) rfl)))))
set_option maxHeartbeats 8000000 in
set_option maxRecDepth 100000 in
theorem gv_start {p : Program} {e : Env} {s : State} {m : MethodId} {below : List Frame} {meth : Method} {c : Code} (l : Launch) (hl0 : l.stackTraces = false) {b L : Nat} {xs : Nat → Int32} (C0 : lw_At p s m meth c b L xs) (dC : Nat → ClassId) (dI : Nat → Nat → Nat) (hK : va_K (dC, dI) vwCl [] s)
    (fin : ∀ (H : Heap) (locs : List Loc) (ls : Array Slot) (q1 q2 q3 q4 q5 q6 q7 q8 q9 q10 q11 q12 q13 q14 q15 q16 q17 q18 q19 q20 q21 q22 q23 q24 q25 q26 q27 q28 q29 q30 q31 q32 q33 q34 q35 q36 q37 q38 q39 q40 q41 q42 q43 q44 q45 q46 q47 q48 q49 q50 q51 q52 q53 q54 q55 q56 q57 q58 q59 q60 q61 q62 q63 q64 q65 q66 q67 : Nat) (c2 c4 c5 c6 c7 c8 c9 c10 c12 c13 c15 c17 c18 c19 c20 c21 c23 c24 c25 c26 c28 c29 c30 c31 c32 c33 c35 c36 c37 c38 c40 c41 c43 c44 c45 c46 c47 c48 c49 c50 c51 c52 c53 c54 c55 c56 c57 c58 c59 c60 c61 c62 c63 c64 c65 c66 c67 : ClassId), va_P (dC, dI) vwCl [(q1, .inr (0, [.ref q2, .ref q3, .ref q11, .ref q22, .ref q27, .ref q34, .ref q39, .int 0, .int (-1), .int 0, .int 0, .int 0])), (q2, .inl (c2, 1040, .inl (fun _ => 0))), (q3, .inr (1, [.ref q4, .ref q5, .ref q6, .ref q7, .ref q8, .ref q9, .ref q10, .int 0])), (q4, .inl (c4, 1040, .inl (fun _ => 0))), (q5, .inl (c5, 1040, .inl (fun _ => 0))), (q6, .inl (c6, 1040, .inl (fun _ => 0))), (q7, .inl (c7, 1040, .inl (fun _ => 0))), (q8, .inl (c8, 1040, .inl (fun _ => 0))), (q9, .inl (c9, 1040, .inl (fun _ => 0))), (q10, .inl (c10, 1040, .inl (fun _ => 0))), (q11, .inr (2, [.ref q3, .ref q12, .ref q13, .ref q14, .ref q16, .int 0, .int 16])), (q12, .inl (c12, 32, .inl (fun _ => 0))), (q13, .inl (c13, 256, .inl (fun _ => 0))), (q14, .inr (3, [.ref q15, .int 0])), (q15, .inl (c15, 2048, .inr (.inl (fun _ => 0)))), (q16, .inr (4, [.ref q17, .ref q18, .ref q19, .ref q20, .ref q21, .int 0, .int 0, .int 0])), (q17, .inl (c17, 512, .inl (fun _ => 0))), (q18, .inl (c18, 4096, .inl (fun _ => 0))), (q19, .inl (c19, 16, .inl (fun _ => 0))), (q20, .inl (c20, 16, .inl (fun _ => 0))), (q21, .inl (c21, 16, .inl (fun _ => 0))), (q22, .inr (5, [.ref q3, .ref q23, .ref q24, .ref q25, .ref q26, .int 0])), (q23, .inl (c23, 17680, .inr (.inl (fun _ => 0)))), (q24, .inl (c24, 1040, .inl (fun _ => 0))), (q25, .inl (c25, 1040, .inl (fun _ => 0))), (q26, .inl (c26, 1040, .inl (fun _ => 0))), (q27, .inr (6, [.ref q3, .ref q22, .ref q28, .ref q29, .ref q30, .ref q31, .ref q32, .ref q33, .int 0, .int 0, .int 0])), (q28, .inl (c28, 1040, .inl (fun _ => 0))), (q29, .inl (c29, 1040, .inl (fun _ => 0))), (q30, .inl (c30, 1040, .inl (fun _ => 0))), (q31, .inl (c31, 1040, .inl (fun _ => 0))), (q32, .inl (c32, 17, .inr (.inl (fun _ => 0)))), (q33, .inl (c33, 17, .inr (.inl (fun _ => 0)))), (q34, .inr (7, [.ref q3, .ref q22, .ref q27, .ref q35, .ref q36, .ref q37, .ref q38, .int 0, .int 0])), (q35, .inl (c35, 1040, .inl (fun _ => 0))), (q36, .inl (c36, 2080, .inl (fun _ => 0))), (q37, .inl (c37, 2080, .inl (fun _ => 0))), (q38, .inl (c38, 17, .inr (.inl (fun _ => 0)))), (q39, .inr (8, [.ref q3, .ref q27, .ref q40, .ref q41])), (q40, .inl (c40, 1041, .inl (fun _ => 0))), (q41, .inl (c41, 1040, .inl (fun _ => 0))), (q42, .inr (9, [.int 0, .ref q43, .int 0, .ref q44, .int 0, .int 0, .int (-1), .int 0, .ref q45, .ref q46, .ref q47, .int 0, .int 16, .ref q48, .ref q49, .ref q50, .ref q51, .ref q52, .int 0, .int 0, .int 0, .ref q53, .ref q54, .ref q55, .ref q56, .ref q57, .int 0, .int 0, .ref q58, .ref q59, .ref q60, .ref q61, .ref q62, .ref q63, .ref q64, .ref q65, .ref q66, .int 0])), (q43, .inl (c43, 1040, .inl (fun _ => 0))), (q44, .inl (c44, 1040, .inl (fun _ => 0))), (q45, .inl (c45, 32, .inl (fun _ => 0))), (q46, .inl (c46, 256, .inl (fun _ => 0))), (q47, .inl (c47, 2048, .inr (.inl (fun _ => 0)))), (q48, .inl (c48, 512, .inl (fun _ => 0))), (q49, .inl (c49, 4096, .inl (fun _ => 0))), (q50, .inl (c50, 16, .inl (fun _ => 0))), (q51, .inl (c51, 16, .inl (fun _ => 0))), (q52, .inl (c52, 16, .inl (fun _ => 0))), (q53, .inl (c53, 1040, .inl (fun _ => 0))), (q54, .inl (c54, 1040, .inl (fun _ => 0))), (q55, .inl (c55, 1040, .inl (fun _ => 0))), (q56, .inl (c56, 1040, .inl (fun _ => 0))), (q57, .inl (c57, 1040, .inl (fun _ => 0))), (q58, .inl (c58, 34320, .inl (fun _ => 0))), (q59, .inl (c59, 34320, .inl (fun _ => 0))), (q60, .inl (c60, 1040, .inl (fun _ => 0))), (q61, .inl (c61, 1040, .inl (fun _ => 0))), (q62, .inl (c62, 2080, .inl (fun _ => 0))), (q63, .inl (c63, 2081, .inl (fun _ => 0))), (q64, .inl (c64, 1040, .inl (fun _ => 0))), (q65, .inl (c65, 1040, .inl (fun _ => 0))), (q66, .inl (c66, 1041, .inl (fun _ => 0))), (q67, .inl (c67, 1, .inr (.inl (fun _ => 0))))] H → va_D (fun q => s.heap.size ≤ q) [(q1, .inr (0, [.ref q2, .ref q3, .ref q11, .ref q22, .ref q27, .ref q34, .ref q39, .int 0, .int (-1), .int 0, .int 0, .int 0])), (q2, .inl (c2, 1040, .inl (fun _ => 0))), (q3, .inr (1, [.ref q4, .ref q5, .ref q6, .ref q7, .ref q8, .ref q9, .ref q10, .int 0])), (q4, .inl (c4, 1040, .inl (fun _ => 0))), (q5, .inl (c5, 1040, .inl (fun _ => 0))), (q6, .inl (c6, 1040, .inl (fun _ => 0))), (q7, .inl (c7, 1040, .inl (fun _ => 0))), (q8, .inl (c8, 1040, .inl (fun _ => 0))), (q9, .inl (c9, 1040, .inl (fun _ => 0))), (q10, .inl (c10, 1040, .inl (fun _ => 0))), (q11, .inr (2, [.ref q3, .ref q12, .ref q13, .ref q14, .ref q16, .int 0, .int 16])), (q12, .inl (c12, 32, .inl (fun _ => 0))), (q13, .inl (c13, 256, .inl (fun _ => 0))), (q14, .inr (3, [.ref q15, .int 0])), (q15, .inl (c15, 2048, .inr (.inl (fun _ => 0)))), (q16, .inr (4, [.ref q17, .ref q18, .ref q19, .ref q20, .ref q21, .int 0, .int 0, .int 0])), (q17, .inl (c17, 512, .inl (fun _ => 0))), (q18, .inl (c18, 4096, .inl (fun _ => 0))), (q19, .inl (c19, 16, .inl (fun _ => 0))), (q20, .inl (c20, 16, .inl (fun _ => 0))), (q21, .inl (c21, 16, .inl (fun _ => 0))), (q22, .inr (5, [.ref q3, .ref q23, .ref q24, .ref q25, .ref q26, .int 0])), (q23, .inl (c23, 17680, .inr (.inl (fun _ => 0)))), (q24, .inl (c24, 1040, .inl (fun _ => 0))), (q25, .inl (c25, 1040, .inl (fun _ => 0))), (q26, .inl (c26, 1040, .inl (fun _ => 0))), (q27, .inr (6, [.ref q3, .ref q22, .ref q28, .ref q29, .ref q30, .ref q31, .ref q32, .ref q33, .int 0, .int 0, .int 0])), (q28, .inl (c28, 1040, .inl (fun _ => 0))), (q29, .inl (c29, 1040, .inl (fun _ => 0))), (q30, .inl (c30, 1040, .inl (fun _ => 0))), (q31, .inl (c31, 1040, .inl (fun _ => 0))), (q32, .inl (c32, 17, .inr (.inl (fun _ => 0)))), (q33, .inl (c33, 17, .inr (.inl (fun _ => 0)))), (q34, .inr (7, [.ref q3, .ref q22, .ref q27, .ref q35, .ref q36, .ref q37, .ref q38, .int 0, .int 0])), (q35, .inl (c35, 1040, .inl (fun _ => 0))), (q36, .inl (c36, 2080, .inl (fun _ => 0))), (q37, .inl (c37, 2080, .inl (fun _ => 0))), (q38, .inl (c38, 17, .inr (.inl (fun _ => 0)))), (q39, .inr (8, [.ref q3, .ref q27, .ref q40, .ref q41])), (q40, .inl (c40, 1041, .inl (fun _ => 0))), (q41, .inl (c41, 1040, .inl (fun _ => 0))), (q42, .inr (9, [.int 0, .ref q43, .int 0, .ref q44, .int 0, .int 0, .int (-1), .int 0, .ref q45, .ref q46, .ref q47, .int 0, .int 16, .ref q48, .ref q49, .ref q50, .ref q51, .ref q52, .int 0, .int 0, .int 0, .ref q53, .ref q54, .ref q55, .ref q56, .ref q57, .int 0, .int 0, .ref q58, .ref q59, .ref q60, .ref q61, .ref q62, .ref q63, .ref q64, .ref q65, .ref q66, .int 0])), (q43, .inl (c43, 1040, .inl (fun _ => 0))), (q44, .inl (c44, 1040, .inl (fun _ => 0))), (q45, .inl (c45, 32, .inl (fun _ => 0))), (q46, .inl (c46, 256, .inl (fun _ => 0))), (q47, .inl (c47, 2048, .inr (.inl (fun _ => 0)))), (q48, .inl (c48, 512, .inl (fun _ => 0))), (q49, .inl (c49, 4096, .inl (fun _ => 0))), (q50, .inl (c50, 16, .inl (fun _ => 0))), (q51, .inl (c51, 16, .inl (fun _ => 0))), (q52, .inl (c52, 16, .inl (fun _ => 0))), (q53, .inl (c53, 1040, .inl (fun _ => 0))), (q54, .inl (c54, 1040, .inl (fun _ => 0))), (q55, .inl (c55, 1040, .inl (fun _ => 0))), (q56, .inl (c56, 1040, .inl (fun _ => 0))), (q57, .inl (c57, 1040, .inl (fun _ => 0))), (q58, .inl (c58, 34320, .inl (fun _ => 0))), (q59, .inl (c59, 34320, .inl (fun _ => 0))), (q60, .inl (c60, 1040, .inl (fun _ => 0))), (q61, .inl (c61, 1040, .inl (fun _ => 0))), (q62, .inl (c62, 2080, .inl (fun _ => 0))), (q63, .inl (c63, 2081, .inl (fun _ => 0))), (q64, .inl (c64, 1040, .inl (fun _ => 0))), (q65, .inl (c65, 1040, .inl (fun _ => 0))), (q66, .inl (c66, 1041, .inl (fun _ => 0))), (q67, .inl (c67, 1, .inr (.inl (fun _ => 0))))] → va_K (dC, dI) vwCl [(c2, .int), (c4, .int), (c5, .int), (c6, .int), (c7, .int), (c8, .int), (c9, .int), (c10, .int), (c12, .int), (c13, .byte), (c15, .long), (c17, .int), (c18, .byte), (c19, .int), (c20, .int), (c21, .int), (c23, .long), (c24, .int), (c25, .int), (c26, .int), (c28, .int), (c29, .int), (c30, .int), (c31, .boolean), (c32, .long), (c33, .long), (c35, .int), (c36, .int), (c37, .int), (c38, .long), (c40, .int), (c41, .int), (c43, .int), (c44, .int), (c45, .int), (c46, .int), (c47, .long), (c48, .int), (c49, .int), (c50, .int), (c51, .int), (c52, .int), (c53, .boolean), (c54, .boolean), (c55, .boolean), (c56, .boolean), (c57, .boolean), (c58, .int), (c59, .int), (c60, .boolean), (c61, .boolean), (c62, .int), (c63, .int), (c64, .boolean), (c65, .int), (c66, .int), (c67, .long)] s → va_S (fun q => s.heap.size ≤ q) s.heap H locs → lv_has ls 7 [(4, .int 0), (3, .ref q67), (2, .ref q42), (1, .ref q1), (0, .ref b)] → W p l e room_1 s m #[Value.ref b] below meth c H locs 67 139984 (lw_Z below #[Value.ref b] s) (F0 m 23 ls [])) : W p l e room_1 s m #[Value.ref b] below meth c s.heap [] 0 0 (lw_Z below #[Value.ref b] s) (entryFrame m ([Value.ref b] : List Value).toArray 7) := by
  obtain ⟨hx, hb, hr, hml, hown, hts0, hX, hbl, hlocks, hgv⟩ := C0
  have hT := gc_Tc hts0 hgv
  have hts := gc_hts hT #[Value.ref b]
  have hA : ∀ q : Nat, s.heap.size ≤ q → s.heap.size ≤ q := fun _ h => h
  generalize hAe : (fun q : Nat => s.heap.size ≤ q) = A at hA
  have hA : ∀ q : Nat, s.heap.size ≤ q → A q := fun q h => by rw [← hAe]; exact h
  have hS : va_S A s.heap s.heap [] := va_S.rf
  have hP : va_P (dC, dI) vwCl [] s.heap := fun k q hk => by simp at hk
  have hD : va_D A [] := ⟨fun i j x y h => by simp at h, fun k q hk => by simp at hk⟩
  have hl := lv_entry [Value.ref b] (n := 7) (Nat.le_of_ble_eq_true rfl)
  rw [lg_entry_eq]
  generalize (lg_sl [Value.ref b] ++ List.replicate (7 - (lg_sl [Value.ref b]).length) Slot.unset).toArray = ls at hl ⊢
  have hl : lv_has ls 7 [(0, .ref b)] := hl
  have hS : va_S A s.heap s.heap [] := hS
  refine va_new (ci := 0) (fs := [.null, .null, .null, .null, .null, .null, .null, .int 0, .int 0, .int 0, .int 0, .int 0]) (C := "GuessFences") (T := gf_T0) (N := 12) hx hb hts lays_0 gf_y0 gf_ty0 hown (hts (.classLink "GuessFencesLaw" 8 "GuessFences") (gv_i1 32 rfl rfl)) (hts (.instantiable "GuessFences" 12) (gv_i1 33 rfl rfl)) (hts (.initialized "GuessFences") (gv_i1 1 rfl rfl)) hK hP hD hS hA rfl (by decide +kernel) (Nat.le_of_ble_eq_true rfl) (Nat.le_of_ble_eq_true rfl) (show decode code 0 = .ok (.new 8, 3) from by decide +kernel) (fun q1 H hP hD hS => ?_)
  have hP : va_P (dC, dI) vwCl [(q1, .inr (0, [.null, .null, .null, .null, .null, .null, .null, .int 0, .int 0, .int 0, .int 0, .int 0]))] H := hP
  have hD : va_D A [(q1, .inr (0, [.null, .null, .null, .null, .null, .null, .null, .int 0, .int 0, .int 0, .int 0, .int 0]))] := hD
  refine W.widen (k := 1) (n := 12) (Nat.le_refl _) (Nat.le_refl _) ?_
  refine lv_dup hx hb (show decode code 3 = .ok (.dup, 1) from by decide +kernel) rfl ?_
  have hPc := hP.sub (ws' := [(q1, .inr (0, [.null, .null, .null, .null, .null, .null, .null, .int 0, .int 0, .int 0, .int 0, .int 0]))]) [0] rfl
  have hDc := hD.sub (ws' := [(q1, .inr (0, [.null, .null, .null, .null, .null, .null, .null, .int 0, .int 0, .int 0, .int 0, .int 0]))]) [0] (by decide) rfl
  have hKc := hK.sub (tys' := []) [] rfl
  have hFc := va_free (wc := [(q1, .inr (0, [.null, .null, .null, .null, .null, .null, .null, .int 0, .int 0, .int 0, .int 0, .int 0]))]) hD hS hA [0] rfl
  refine va_callv (gc_run (As := []) (rest := [.ref q1]) ⟨hx, hb, hml, hown, fun _ h => by cases h⟩ (k_G_init l dC dI q1 H.size) hT (gv_i1 36 rfl rfl) (gv_i1 1 rfl rfl) (gv_i1 35 rfl rfl) (Or.inl (gv_i1 34 rfl rfl)) (by decide) (show (parseMethodDescriptor "()V").map (fun d => d.parameters.length) = some 0 from by decide +kernel) hPc hKc hDc rfl hl.1 rfl (Nat.le_of_ble_eq_true rfl) (show decode code 4 = .ok (.invokespecial 71, 3) from by decide +kernel) ⟨(Nat.le_of_ble_eq_true rfl), (Nat.le_of_ble_eq_true rfl)⟩ ⟨(Nat.le_of_ble_eq_true rfl), (Nat.le_of_ble_eq_true rfl)⟩) hS (fun q _ h => hFc q h) hFc (fun u t H1 locs ht hvm _ hB hz1 hk1 hS => ?_)
  obtain ⟨q2, q3, q4, q5, q6, q7, q8, q9, q10, q11, q12, q13, q14, q15, q16, q17, q18, q19, q20, q21, q22, q23, q24, q25, q26, q27, q28, q29, q30, q31, q32, q33, q34, q35, q36, q37, q38, q39, q40, q41, c2, c4, c5, c6, c7, c8, c9, c10, c12, c13, c15, c17, c18, c19, c20, c21, c23, c24, c25, c26, c28, c29, c30, c31, c32, c33, c35, c36, c37, c38, c40, c41, hP1, hK1, hD1⟩ := hB
  rw [ht] at hP1
  have hK1 := va_K.moved hvm.symm hK1
  obtain ⟨hP, hD⟩ := va_join (wr := []) (w1 := [(q1, .inr (0, [.ref q2, .ref q3, .ref q11, .ref q22, .ref q27, .ref q34, .ref q39, .int 0, .int (-1), .int 0, .int 0, .int 0])), (q2, .inl (c2, 1040, .inl (fun _ => 0))), (q3, .inr (1, [.ref q4, .ref q5, .ref q6, .ref q7, .ref q8, .ref q9, .ref q10, .int 0])), (q4, .inl (c4, 1040, .inl (fun _ => 0))), (q5, .inl (c5, 1040, .inl (fun _ => 0))), (q6, .inl (c6, 1040, .inl (fun _ => 0))), (q7, .inl (c7, 1040, .inl (fun _ => 0))), (q8, .inl (c8, 1040, .inl (fun _ => 0))), (q9, .inl (c9, 1040, .inl (fun _ => 0))), (q10, .inl (c10, 1040, .inl (fun _ => 0))), (q11, .inr (2, [.ref q3, .ref q12, .ref q13, .ref q14, .ref q16, .int 0, .int 16])), (q12, .inl (c12, 32, .inl (fun _ => 0))), (q13, .inl (c13, 256, .inl (fun _ => 0))), (q14, .inr (3, [.ref q15, .int 0])), (q15, .inl (c15, 2048, .inr (.inl (fun _ => 0)))), (q16, .inr (4, [.ref q17, .ref q18, .ref q19, .ref q20, .ref q21, .int 0, .int 0, .int 0])), (q17, .inl (c17, 512, .inl (fun _ => 0))), (q18, .inl (c18, 4096, .inl (fun _ => 0))), (q19, .inl (c19, 16, .inl (fun _ => 0))), (q20, .inl (c20, 16, .inl (fun _ => 0))), (q21, .inl (c21, 16, .inl (fun _ => 0))), (q22, .inr (5, [.ref q3, .ref q23, .ref q24, .ref q25, .ref q26, .int 0])), (q23, .inl (c23, 17680, .inr (.inl (fun _ => 0)))), (q24, .inl (c24, 1040, .inl (fun _ => 0))), (q25, .inl (c25, 1040, .inl (fun _ => 0))), (q26, .inl (c26, 1040, .inl (fun _ => 0))), (q27, .inr (6, [.ref q3, .ref q22, .ref q28, .ref q29, .ref q30, .ref q31, .ref q32, .ref q33, .int 0, .int 0, .int 0])), (q28, .inl (c28, 1040, .inl (fun _ => 0))), (q29, .inl (c29, 1040, .inl (fun _ => 0))), (q30, .inl (c30, 1040, .inl (fun _ => 0))), (q31, .inl (c31, 1040, .inl (fun _ => 0))), (q32, .inl (c32, 17, .inr (.inl (fun _ => 0)))), (q33, .inl (c33, 17, .inr (.inl (fun _ => 0)))), (q34, .inr (7, [.ref q3, .ref q22, .ref q27, .ref q35, .ref q36, .ref q37, .ref q38, .int 0, .int 0])), (q35, .inl (c35, 1040, .inl (fun _ => 0))), (q36, .inl (c36, 2080, .inl (fun _ => 0))), (q37, .inl (c37, 2080, .inl (fun _ => 0))), (q38, .inl (c38, 17, .inr (.inl (fun _ => 0)))), (q39, .inr (8, [.ref q3, .ref q27, .ref q40, .ref q41])), (q40, .inl (c40, 1041, .inl (fun _ => 0))), (q41, .inl (c41, 1040, .inl (fun _ => 0)))]) hP hD [0] [] rfl rfl (by decide) (by decide) hk1 hFc hP1 hD1
  have hK := hK.app hK1
  generalize H1 = H at hP hS ⊢
  have hP : va_P (dC, dI) vwCl [(q1, .inr (0, [.ref q2, .ref q3, .ref q11, .ref q22, .ref q27, .ref q34, .ref q39, .int 0, .int (-1), .int 0, .int 0, .int 0])), (q2, .inl (c2, 1040, .inl (fun _ => 0))), (q3, .inr (1, [.ref q4, .ref q5, .ref q6, .ref q7, .ref q8, .ref q9, .ref q10, .int 0])), (q4, .inl (c4, 1040, .inl (fun _ => 0))), (q5, .inl (c5, 1040, .inl (fun _ => 0))), (q6, .inl (c6, 1040, .inl (fun _ => 0))), (q7, .inl (c7, 1040, .inl (fun _ => 0))), (q8, .inl (c8, 1040, .inl (fun _ => 0))), (q9, .inl (c9, 1040, .inl (fun _ => 0))), (q10, .inl (c10, 1040, .inl (fun _ => 0))), (q11, .inr (2, [.ref q3, .ref q12, .ref q13, .ref q14, .ref q16, .int 0, .int 16])), (q12, .inl (c12, 32, .inl (fun _ => 0))), (q13, .inl (c13, 256, .inl (fun _ => 0))), (q14, .inr (3, [.ref q15, .int 0])), (q15, .inl (c15, 2048, .inr (.inl (fun _ => 0)))), (q16, .inr (4, [.ref q17, .ref q18, .ref q19, .ref q20, .ref q21, .int 0, .int 0, .int 0])), (q17, .inl (c17, 512, .inl (fun _ => 0))), (q18, .inl (c18, 4096, .inl (fun _ => 0))), (q19, .inl (c19, 16, .inl (fun _ => 0))), (q20, .inl (c20, 16, .inl (fun _ => 0))), (q21, .inl (c21, 16, .inl (fun _ => 0))), (q22, .inr (5, [.ref q3, .ref q23, .ref q24, .ref q25, .ref q26, .int 0])), (q23, .inl (c23, 17680, .inr (.inl (fun _ => 0)))), (q24, .inl (c24, 1040, .inl (fun _ => 0))), (q25, .inl (c25, 1040, .inl (fun _ => 0))), (q26, .inl (c26, 1040, .inl (fun _ => 0))), (q27, .inr (6, [.ref q3, .ref q22, .ref q28, .ref q29, .ref q30, .ref q31, .ref q32, .ref q33, .int 0, .int 0, .int 0])), (q28, .inl (c28, 1040, .inl (fun _ => 0))), (q29, .inl (c29, 1040, .inl (fun _ => 0))), (q30, .inl (c30, 1040, .inl (fun _ => 0))), (q31, .inl (c31, 1040, .inl (fun _ => 0))), (q32, .inl (c32, 17, .inr (.inl (fun _ => 0)))), (q33, .inl (c33, 17, .inr (.inl (fun _ => 0)))), (q34, .inr (7, [.ref q3, .ref q22, .ref q27, .ref q35, .ref q36, .ref q37, .ref q38, .int 0, .int 0])), (q35, .inl (c35, 1040, .inl (fun _ => 0))), (q36, .inl (c36, 2080, .inl (fun _ => 0))), (q37, .inl (c37, 2080, .inl (fun _ => 0))), (q38, .inl (c38, 17, .inr (.inl (fun _ => 0)))), (q39, .inr (8, [.ref q3, .ref q27, .ref q40, .ref q41])), (q40, .inl (c40, 1041, .inl (fun _ => 0))), (q41, .inl (c41, 1040, .inl (fun _ => 0)))] H := hP
  have hD : va_D A [(q1, .inr (0, [.ref q2, .ref q3, .ref q11, .ref q22, .ref q27, .ref q34, .ref q39, .int 0, .int (-1), .int 0, .int 0, .int 0])), (q2, .inl (c2, 1040, .inl (fun _ => 0))), (q3, .inr (1, [.ref q4, .ref q5, .ref q6, .ref q7, .ref q8, .ref q9, .ref q10, .int 0])), (q4, .inl (c4, 1040, .inl (fun _ => 0))), (q5, .inl (c5, 1040, .inl (fun _ => 0))), (q6, .inl (c6, 1040, .inl (fun _ => 0))), (q7, .inl (c7, 1040, .inl (fun _ => 0))), (q8, .inl (c8, 1040, .inl (fun _ => 0))), (q9, .inl (c9, 1040, .inl (fun _ => 0))), (q10, .inl (c10, 1040, .inl (fun _ => 0))), (q11, .inr (2, [.ref q3, .ref q12, .ref q13, .ref q14, .ref q16, .int 0, .int 16])), (q12, .inl (c12, 32, .inl (fun _ => 0))), (q13, .inl (c13, 256, .inl (fun _ => 0))), (q14, .inr (3, [.ref q15, .int 0])), (q15, .inl (c15, 2048, .inr (.inl (fun _ => 0)))), (q16, .inr (4, [.ref q17, .ref q18, .ref q19, .ref q20, .ref q21, .int 0, .int 0, .int 0])), (q17, .inl (c17, 512, .inl (fun _ => 0))), (q18, .inl (c18, 4096, .inl (fun _ => 0))), (q19, .inl (c19, 16, .inl (fun _ => 0))), (q20, .inl (c20, 16, .inl (fun _ => 0))), (q21, .inl (c21, 16, .inl (fun _ => 0))), (q22, .inr (5, [.ref q3, .ref q23, .ref q24, .ref q25, .ref q26, .int 0])), (q23, .inl (c23, 17680, .inr (.inl (fun _ => 0)))), (q24, .inl (c24, 1040, .inl (fun _ => 0))), (q25, .inl (c25, 1040, .inl (fun _ => 0))), (q26, .inl (c26, 1040, .inl (fun _ => 0))), (q27, .inr (6, [.ref q3, .ref q22, .ref q28, .ref q29, .ref q30, .ref q31, .ref q32, .ref q33, .int 0, .int 0, .int 0])), (q28, .inl (c28, 1040, .inl (fun _ => 0))), (q29, .inl (c29, 1040, .inl (fun _ => 0))), (q30, .inl (c30, 1040, .inl (fun _ => 0))), (q31, .inl (c31, 1040, .inl (fun _ => 0))), (q32, .inl (c32, 17, .inr (.inl (fun _ => 0)))), (q33, .inl (c33, 17, .inr (.inl (fun _ => 0)))), (q34, .inr (7, [.ref q3, .ref q22, .ref q27, .ref q35, .ref q36, .ref q37, .ref q38, .int 0, .int 0])), (q35, .inl (c35, 1040, .inl (fun _ => 0))), (q36, .inl (c36, 2080, .inl (fun _ => 0))), (q37, .inl (c37, 2080, .inl (fun _ => 0))), (q38, .inl (c38, 17, .inr (.inl (fun _ => 0)))), (q39, .inr (8, [.ref q3, .ref q27, .ref q40, .ref q41])), (q40, .inl (c40, 1041, .inl (fun _ => 0))), (q41, .inl (c41, 1040, .inl (fun _ => 0)))] := hD
  have hK : va_K (dC, dI) vwCl [(c2, .int), (c4, .int), (c5, .int), (c6, .int), (c7, .int), (c8, .int), (c9, .int), (c10, .int), (c12, .int), (c13, .byte), (c15, .long), (c17, .int), (c18, .byte), (c19, .int), (c20, .int), (c21, .int), (c23, .long), (c24, .int), (c25, .int), (c26, .int), (c28, .int), (c29, .int), (c30, .int), (c31, .boolean), (c32, .long), (c33, .long), (c35, .int), (c36, .int), (c37, .int), (c38, .long), (c40, .int), (c41, .int)] s := hK
  refine W.widen (k := 41) (n := 47671) (Nat.le_refl _) (Nat.le_refl _) ?_
  refine lv_astore_n hx hb (show decode code 7 = .ok (.astore_n 1, 1) from by decide +kernel) rfl hl (by decide) rfl (fun ls hl => ?_)
  have hl : lv_has ls 7 [(1, .ref q1), (0, .ref b)] := hl
  refine va_new (ci := 9) (fs := [.int 0, .null, .int 0, .null, .int 0, .int 0, .int 0, .int 0, .null, .null, .null, .int 0, .int 0, .null, .null, .null, .null, .null, .int 0, .int 0, .int 0, .null, .null, .null, .null, .null, .int 0, .int 0, .null, .null, .null, .null, .null, .null, .null, .null, .null, .int 0]) (C := "GuessFencesModel") (T := gf_T9) (N := 38) hx hb hts lays_9 gf_y9 gf_ty9 hown (hts (.classLink "GuessFencesLaw" 72 "GuessFencesModel") (gv_i6 115 rfl rfl)) (hts (.instantiable "GuessFencesModel" 38) (gv_i6 116 rfl rfl)) (hts (.initialized "GuessFencesModel") (gv_i1 10 rfl rfl)) hK hP hD hS hA rfl (by decide +kernel) (Nat.le_of_ble_eq_true rfl) (Nat.le_of_ble_eq_true rfl) (show decode code 8 = .ok (.new 72, 3) from by decide +kernel) (fun q42 H hP hD hS => ?_)
  have hP : va_P (dC, dI) vwCl [(q1, .inr (0, [.ref q2, .ref q3, .ref q11, .ref q22, .ref q27, .ref q34, .ref q39, .int 0, .int (-1), .int 0, .int 0, .int 0])), (q2, .inl (c2, 1040, .inl (fun _ => 0))), (q3, .inr (1, [.ref q4, .ref q5, .ref q6, .ref q7, .ref q8, .ref q9, .ref q10, .int 0])), (q4, .inl (c4, 1040, .inl (fun _ => 0))), (q5, .inl (c5, 1040, .inl (fun _ => 0))), (q6, .inl (c6, 1040, .inl (fun _ => 0))), (q7, .inl (c7, 1040, .inl (fun _ => 0))), (q8, .inl (c8, 1040, .inl (fun _ => 0))), (q9, .inl (c9, 1040, .inl (fun _ => 0))), (q10, .inl (c10, 1040, .inl (fun _ => 0))), (q11, .inr (2, [.ref q3, .ref q12, .ref q13, .ref q14, .ref q16, .int 0, .int 16])), (q12, .inl (c12, 32, .inl (fun _ => 0))), (q13, .inl (c13, 256, .inl (fun _ => 0))), (q14, .inr (3, [.ref q15, .int 0])), (q15, .inl (c15, 2048, .inr (.inl (fun _ => 0)))), (q16, .inr (4, [.ref q17, .ref q18, .ref q19, .ref q20, .ref q21, .int 0, .int 0, .int 0])), (q17, .inl (c17, 512, .inl (fun _ => 0))), (q18, .inl (c18, 4096, .inl (fun _ => 0))), (q19, .inl (c19, 16, .inl (fun _ => 0))), (q20, .inl (c20, 16, .inl (fun _ => 0))), (q21, .inl (c21, 16, .inl (fun _ => 0))), (q22, .inr (5, [.ref q3, .ref q23, .ref q24, .ref q25, .ref q26, .int 0])), (q23, .inl (c23, 17680, .inr (.inl (fun _ => 0)))), (q24, .inl (c24, 1040, .inl (fun _ => 0))), (q25, .inl (c25, 1040, .inl (fun _ => 0))), (q26, .inl (c26, 1040, .inl (fun _ => 0))), (q27, .inr (6, [.ref q3, .ref q22, .ref q28, .ref q29, .ref q30, .ref q31, .ref q32, .ref q33, .int 0, .int 0, .int 0])), (q28, .inl (c28, 1040, .inl (fun _ => 0))), (q29, .inl (c29, 1040, .inl (fun _ => 0))), (q30, .inl (c30, 1040, .inl (fun _ => 0))), (q31, .inl (c31, 1040, .inl (fun _ => 0))), (q32, .inl (c32, 17, .inr (.inl (fun _ => 0)))), (q33, .inl (c33, 17, .inr (.inl (fun _ => 0)))), (q34, .inr (7, [.ref q3, .ref q22, .ref q27, .ref q35, .ref q36, .ref q37, .ref q38, .int 0, .int 0])), (q35, .inl (c35, 1040, .inl (fun _ => 0))), (q36, .inl (c36, 2080, .inl (fun _ => 0))), (q37, .inl (c37, 2080, .inl (fun _ => 0))), (q38, .inl (c38, 17, .inr (.inl (fun _ => 0)))), (q39, .inr (8, [.ref q3, .ref q27, .ref q40, .ref q41])), (q40, .inl (c40, 1041, .inl (fun _ => 0))), (q41, .inl (c41, 1040, .inl (fun _ => 0))), (q42, .inr (9, [.int 0, .null, .int 0, .null, .int 0, .int 0, .int 0, .int 0, .null, .null, .null, .int 0, .int 0, .null, .null, .null, .null, .null, .int 0, .int 0, .int 0, .null, .null, .null, .null, .null, .int 0, .int 0, .null, .null, .null, .null, .null, .null, .null, .null, .null, .int 0]))] H := hP
  have hD : va_D A [(q1, .inr (0, [.ref q2, .ref q3, .ref q11, .ref q22, .ref q27, .ref q34, .ref q39, .int 0, .int (-1), .int 0, .int 0, .int 0])), (q2, .inl (c2, 1040, .inl (fun _ => 0))), (q3, .inr (1, [.ref q4, .ref q5, .ref q6, .ref q7, .ref q8, .ref q9, .ref q10, .int 0])), (q4, .inl (c4, 1040, .inl (fun _ => 0))), (q5, .inl (c5, 1040, .inl (fun _ => 0))), (q6, .inl (c6, 1040, .inl (fun _ => 0))), (q7, .inl (c7, 1040, .inl (fun _ => 0))), (q8, .inl (c8, 1040, .inl (fun _ => 0))), (q9, .inl (c9, 1040, .inl (fun _ => 0))), (q10, .inl (c10, 1040, .inl (fun _ => 0))), (q11, .inr (2, [.ref q3, .ref q12, .ref q13, .ref q14, .ref q16, .int 0, .int 16])), (q12, .inl (c12, 32, .inl (fun _ => 0))), (q13, .inl (c13, 256, .inl (fun _ => 0))), (q14, .inr (3, [.ref q15, .int 0])), (q15, .inl (c15, 2048, .inr (.inl (fun _ => 0)))), (q16, .inr (4, [.ref q17, .ref q18, .ref q19, .ref q20, .ref q21, .int 0, .int 0, .int 0])), (q17, .inl (c17, 512, .inl (fun _ => 0))), (q18, .inl (c18, 4096, .inl (fun _ => 0))), (q19, .inl (c19, 16, .inl (fun _ => 0))), (q20, .inl (c20, 16, .inl (fun _ => 0))), (q21, .inl (c21, 16, .inl (fun _ => 0))), (q22, .inr (5, [.ref q3, .ref q23, .ref q24, .ref q25, .ref q26, .int 0])), (q23, .inl (c23, 17680, .inr (.inl (fun _ => 0)))), (q24, .inl (c24, 1040, .inl (fun _ => 0))), (q25, .inl (c25, 1040, .inl (fun _ => 0))), (q26, .inl (c26, 1040, .inl (fun _ => 0))), (q27, .inr (6, [.ref q3, .ref q22, .ref q28, .ref q29, .ref q30, .ref q31, .ref q32, .ref q33, .int 0, .int 0, .int 0])), (q28, .inl (c28, 1040, .inl (fun _ => 0))), (q29, .inl (c29, 1040, .inl (fun _ => 0))), (q30, .inl (c30, 1040, .inl (fun _ => 0))), (q31, .inl (c31, 1040, .inl (fun _ => 0))), (q32, .inl (c32, 17, .inr (.inl (fun _ => 0)))), (q33, .inl (c33, 17, .inr (.inl (fun _ => 0)))), (q34, .inr (7, [.ref q3, .ref q22, .ref q27, .ref q35, .ref q36, .ref q37, .ref q38, .int 0, .int 0])), (q35, .inl (c35, 1040, .inl (fun _ => 0))), (q36, .inl (c36, 2080, .inl (fun _ => 0))), (q37, .inl (c37, 2080, .inl (fun _ => 0))), (q38, .inl (c38, 17, .inr (.inl (fun _ => 0)))), (q39, .inr (8, [.ref q3, .ref q27, .ref q40, .ref q41])), (q40, .inl (c40, 1041, .inl (fun _ => 0))), (q41, .inl (c41, 1040, .inl (fun _ => 0))), (q42, .inr (9, [.int 0, .null, .int 0, .null, .int 0, .int 0, .int 0, .int 0, .null, .null, .null, .int 0, .int 0, .null, .null, .null, .null, .null, .int 0, .int 0, .int 0, .null, .null, .null, .null, .null, .int 0, .int 0, .null, .null, .null, .null, .null, .null, .null, .null, .null, .int 0]))] := hD
  refine W.widen (k := 42) (n := 47709) (Nat.le_refl _) (Nat.le_refl _) ?_
  refine lv_dup hx hb (show decode code 11 = .ok (.dup, 1) from by decide +kernel) rfl ?_
  have hPc := hP.sub (ws' := [(q42, .inr (9, [.int 0, .null, .int 0, .null, .int 0, .int 0, .int 0, .int 0, .null, .null, .null, .int 0, .int 0, .null, .null, .null, .null, .null, .int 0, .int 0, .int 0, .null, .null, .null, .null, .null, .int 0, .int 0, .null, .null, .null, .null, .null, .null, .null, .null, .null, .int 0]))]) [41] rfl
  have hDc := hD.sub (ws' := [(q42, .inr (9, [.int 0, .null, .int 0, .null, .int 0, .int 0, .int 0, .int 0, .null, .null, .null, .int 0, .int 0, .null, .null, .null, .null, .null, .int 0, .int 0, .int 0, .null, .null, .null, .null, .null, .int 0, .int 0, .null, .null, .null, .null, .null, .null, .null, .null, .null, .int 0]))]) [41] (by decide) rfl
  have hKc := hK.sub (tys' := []) [] rfl
  have hFc := va_free (wc := [(q42, .inr (9, [.int 0, .null, .int 0, .null, .int 0, .int 0, .int 0, .int 0, .null, .null, .null, .int 0, .int 0, .null, .null, .null, .null, .null, .int 0, .int 0, .int 0, .null, .null, .null, .null, .null, .int 0, .int 0, .null, .null, .null, .null, .null, .null, .null, .null, .null, .int 0]))]) hD hS hA [41] rfl
  refine va_callv (gc_run (As := []) (rest := [.ref q42]) ⟨hx, hb, hml, hown, fun _ h => by cases h⟩ (k_M_init l dC dI q42 H.size) hT (gv_i6 119 rfl rfl) (gv_i1 10 rfl rfl) (gv_i6 118 rfl rfl) (Or.inl (gv_i6 117 rfl rfl)) (by decide) (show (parseMethodDescriptor "()V").map (fun d => d.parameters.length) = some 0 from by decide +kernel) hPc hKc hDc rfl hl.1 rfl (Nat.le_of_ble_eq_true rfl) (show decode code 12 = .ok (.invokespecial 74, 3) from by decide +kernel) ⟨(Nat.le_of_ble_eq_true rfl), (Nat.le_of_ble_eq_true rfl)⟩ ⟨(Nat.le_of_ble_eq_true rfl), (Nat.le_of_ble_eq_true rfl)⟩) hS (fun q _ h => hFc q h) hFc (fun u t H1 locs ht hvm _ hB hz1 hk1 hS => ?_)
  obtain ⟨q43, q44, q45, q46, q47, q48, q49, q50, q51, q52, q53, q54, q55, q56, q57, q58, q59, q60, q61, q62, q63, q64, q65, q66, c43, c44, c45, c46, c47, c48, c49, c50, c51, c52, c53, c54, c55, c56, c57, c58, c59, c60, c61, c62, c63, c64, c65, c66, hP1, hK1, hD1⟩ := hB
  rw [ht] at hP1
  have hK1 := va_K.moved hvm.symm hK1
  obtain ⟨hP, hD⟩ := va_join (wr := [(q1, .inr (0, [.ref q2, .ref q3, .ref q11, .ref q22, .ref q27, .ref q34, .ref q39, .int 0, .int (-1), .int 0, .int 0, .int 0])), (q2, .inl (c2, 1040, .inl (fun _ => 0))), (q3, .inr (1, [.ref q4, .ref q5, .ref q6, .ref q7, .ref q8, .ref q9, .ref q10, .int 0])), (q4, .inl (c4, 1040, .inl (fun _ => 0))), (q5, .inl (c5, 1040, .inl (fun _ => 0))), (q6, .inl (c6, 1040, .inl (fun _ => 0))), (q7, .inl (c7, 1040, .inl (fun _ => 0))), (q8, .inl (c8, 1040, .inl (fun _ => 0))), (q9, .inl (c9, 1040, .inl (fun _ => 0))), (q10, .inl (c10, 1040, .inl (fun _ => 0))), (q11, .inr (2, [.ref q3, .ref q12, .ref q13, .ref q14, .ref q16, .int 0, .int 16])), (q12, .inl (c12, 32, .inl (fun _ => 0))), (q13, .inl (c13, 256, .inl (fun _ => 0))), (q14, .inr (3, [.ref q15, .int 0])), (q15, .inl (c15, 2048, .inr (.inl (fun _ => 0)))), (q16, .inr (4, [.ref q17, .ref q18, .ref q19, .ref q20, .ref q21, .int 0, .int 0, .int 0])), (q17, .inl (c17, 512, .inl (fun _ => 0))), (q18, .inl (c18, 4096, .inl (fun _ => 0))), (q19, .inl (c19, 16, .inl (fun _ => 0))), (q20, .inl (c20, 16, .inl (fun _ => 0))), (q21, .inl (c21, 16, .inl (fun _ => 0))), (q22, .inr (5, [.ref q3, .ref q23, .ref q24, .ref q25, .ref q26, .int 0])), (q23, .inl (c23, 17680, .inr (.inl (fun _ => 0)))), (q24, .inl (c24, 1040, .inl (fun _ => 0))), (q25, .inl (c25, 1040, .inl (fun _ => 0))), (q26, .inl (c26, 1040, .inl (fun _ => 0))), (q27, .inr (6, [.ref q3, .ref q22, .ref q28, .ref q29, .ref q30, .ref q31, .ref q32, .ref q33, .int 0, .int 0, .int 0])), (q28, .inl (c28, 1040, .inl (fun _ => 0))), (q29, .inl (c29, 1040, .inl (fun _ => 0))), (q30, .inl (c30, 1040, .inl (fun _ => 0))), (q31, .inl (c31, 1040, .inl (fun _ => 0))), (q32, .inl (c32, 17, .inr (.inl (fun _ => 0)))), (q33, .inl (c33, 17, .inr (.inl (fun _ => 0)))), (q34, .inr (7, [.ref q3, .ref q22, .ref q27, .ref q35, .ref q36, .ref q37, .ref q38, .int 0, .int 0])), (q35, .inl (c35, 1040, .inl (fun _ => 0))), (q36, .inl (c36, 2080, .inl (fun _ => 0))), (q37, .inl (c37, 2080, .inl (fun _ => 0))), (q38, .inl (c38, 17, .inr (.inl (fun _ => 0)))), (q39, .inr (8, [.ref q3, .ref q27, .ref q40, .ref q41])), (q40, .inl (c40, 1041, .inl (fun _ => 0))), (q41, .inl (c41, 1040, .inl (fun _ => 0)))]) (w1 := [(q42, .inr (9, [.int 0, .ref q43, .int 0, .ref q44, .int 0, .int 0, .int (-1), .int 0, .ref q45, .ref q46, .ref q47, .int 0, .int 16, .ref q48, .ref q49, .ref q50, .ref q51, .ref q52, .int 0, .int 0, .int 0, .ref q53, .ref q54, .ref q55, .ref q56, .ref q57, .int 0, .int 0, .ref q58, .ref q59, .ref q60, .ref q61, .ref q62, .ref q63, .ref q64, .ref q65, .ref q66, .int 0])), (q43, .inl (c43, 1040, .inl (fun _ => 0))), (q44, .inl (c44, 1040, .inl (fun _ => 0))), (q45, .inl (c45, 32, .inl (fun _ => 0))), (q46, .inl (c46, 256, .inl (fun _ => 0))), (q47, .inl (c47, 2048, .inr (.inl (fun _ => 0)))), (q48, .inl (c48, 512, .inl (fun _ => 0))), (q49, .inl (c49, 4096, .inl (fun _ => 0))), (q50, .inl (c50, 16, .inl (fun _ => 0))), (q51, .inl (c51, 16, .inl (fun _ => 0))), (q52, .inl (c52, 16, .inl (fun _ => 0))), (q53, .inl (c53, 1040, .inl (fun _ => 0))), (q54, .inl (c54, 1040, .inl (fun _ => 0))), (q55, .inl (c55, 1040, .inl (fun _ => 0))), (q56, .inl (c56, 1040, .inl (fun _ => 0))), (q57, .inl (c57, 1040, .inl (fun _ => 0))), (q58, .inl (c58, 34320, .inl (fun _ => 0))), (q59, .inl (c59, 34320, .inl (fun _ => 0))), (q60, .inl (c60, 1040, .inl (fun _ => 0))), (q61, .inl (c61, 1040, .inl (fun _ => 0))), (q62, .inl (c62, 2080, .inl (fun _ => 0))), (q63, .inl (c63, 2081, .inl (fun _ => 0))), (q64, .inl (c64, 1040, .inl (fun _ => 0))), (q65, .inl (c65, 1040, .inl (fun _ => 0))), (q66, .inl (c66, 1041, .inl (fun _ => 0)))]) hP hD [41] [0, 1, 2, 3, 4, 5, 6, 7, 8, 9, 10, 11, 12, 13, 14, 15, 16, 17, 18, 19, 20, 21, 22, 23, 24, 25, 26, 27, 28, 29, 30, 31, 32, 33, 34, 35, 36, 37, 38, 39, 40] rfl rfl (by decide) (by decide) hk1 hFc hP1 hD1
  have hK := hK.app hK1
  generalize H1 = H at hP hS ⊢
  have hP : va_P (dC, dI) vwCl [(q1, .inr (0, [.ref q2, .ref q3, .ref q11, .ref q22, .ref q27, .ref q34, .ref q39, .int 0, .int (-1), .int 0, .int 0, .int 0])), (q2, .inl (c2, 1040, .inl (fun _ => 0))), (q3, .inr (1, [.ref q4, .ref q5, .ref q6, .ref q7, .ref q8, .ref q9, .ref q10, .int 0])), (q4, .inl (c4, 1040, .inl (fun _ => 0))), (q5, .inl (c5, 1040, .inl (fun _ => 0))), (q6, .inl (c6, 1040, .inl (fun _ => 0))), (q7, .inl (c7, 1040, .inl (fun _ => 0))), (q8, .inl (c8, 1040, .inl (fun _ => 0))), (q9, .inl (c9, 1040, .inl (fun _ => 0))), (q10, .inl (c10, 1040, .inl (fun _ => 0))), (q11, .inr (2, [.ref q3, .ref q12, .ref q13, .ref q14, .ref q16, .int 0, .int 16])), (q12, .inl (c12, 32, .inl (fun _ => 0))), (q13, .inl (c13, 256, .inl (fun _ => 0))), (q14, .inr (3, [.ref q15, .int 0])), (q15, .inl (c15, 2048, .inr (.inl (fun _ => 0)))), (q16, .inr (4, [.ref q17, .ref q18, .ref q19, .ref q20, .ref q21, .int 0, .int 0, .int 0])), (q17, .inl (c17, 512, .inl (fun _ => 0))), (q18, .inl (c18, 4096, .inl (fun _ => 0))), (q19, .inl (c19, 16, .inl (fun _ => 0))), (q20, .inl (c20, 16, .inl (fun _ => 0))), (q21, .inl (c21, 16, .inl (fun _ => 0))), (q22, .inr (5, [.ref q3, .ref q23, .ref q24, .ref q25, .ref q26, .int 0])), (q23, .inl (c23, 17680, .inr (.inl (fun _ => 0)))), (q24, .inl (c24, 1040, .inl (fun _ => 0))), (q25, .inl (c25, 1040, .inl (fun _ => 0))), (q26, .inl (c26, 1040, .inl (fun _ => 0))), (q27, .inr (6, [.ref q3, .ref q22, .ref q28, .ref q29, .ref q30, .ref q31, .ref q32, .ref q33, .int 0, .int 0, .int 0])), (q28, .inl (c28, 1040, .inl (fun _ => 0))), (q29, .inl (c29, 1040, .inl (fun _ => 0))), (q30, .inl (c30, 1040, .inl (fun _ => 0))), (q31, .inl (c31, 1040, .inl (fun _ => 0))), (q32, .inl (c32, 17, .inr (.inl (fun _ => 0)))), (q33, .inl (c33, 17, .inr (.inl (fun _ => 0)))), (q34, .inr (7, [.ref q3, .ref q22, .ref q27, .ref q35, .ref q36, .ref q37, .ref q38, .int 0, .int 0])), (q35, .inl (c35, 1040, .inl (fun _ => 0))), (q36, .inl (c36, 2080, .inl (fun _ => 0))), (q37, .inl (c37, 2080, .inl (fun _ => 0))), (q38, .inl (c38, 17, .inr (.inl (fun _ => 0)))), (q39, .inr (8, [.ref q3, .ref q27, .ref q40, .ref q41])), (q40, .inl (c40, 1041, .inl (fun _ => 0))), (q41, .inl (c41, 1040, .inl (fun _ => 0))), (q42, .inr (9, [.int 0, .ref q43, .int 0, .ref q44, .int 0, .int 0, .int (-1), .int 0, .ref q45, .ref q46, .ref q47, .int 0, .int 16, .ref q48, .ref q49, .ref q50, .ref q51, .ref q52, .int 0, .int 0, .int 0, .ref q53, .ref q54, .ref q55, .ref q56, .ref q57, .int 0, .int 0, .ref q58, .ref q59, .ref q60, .ref q61, .ref q62, .ref q63, .ref q64, .ref q65, .ref q66, .int 0])), (q43, .inl (c43, 1040, .inl (fun _ => 0))), (q44, .inl (c44, 1040, .inl (fun _ => 0))), (q45, .inl (c45, 32, .inl (fun _ => 0))), (q46, .inl (c46, 256, .inl (fun _ => 0))), (q47, .inl (c47, 2048, .inr (.inl (fun _ => 0)))), (q48, .inl (c48, 512, .inl (fun _ => 0))), (q49, .inl (c49, 4096, .inl (fun _ => 0))), (q50, .inl (c50, 16, .inl (fun _ => 0))), (q51, .inl (c51, 16, .inl (fun _ => 0))), (q52, .inl (c52, 16, .inl (fun _ => 0))), (q53, .inl (c53, 1040, .inl (fun _ => 0))), (q54, .inl (c54, 1040, .inl (fun _ => 0))), (q55, .inl (c55, 1040, .inl (fun _ => 0))), (q56, .inl (c56, 1040, .inl (fun _ => 0))), (q57, .inl (c57, 1040, .inl (fun _ => 0))), (q58, .inl (c58, 34320, .inl (fun _ => 0))), (q59, .inl (c59, 34320, .inl (fun _ => 0))), (q60, .inl (c60, 1040, .inl (fun _ => 0))), (q61, .inl (c61, 1040, .inl (fun _ => 0))), (q62, .inl (c62, 2080, .inl (fun _ => 0))), (q63, .inl (c63, 2081, .inl (fun _ => 0))), (q64, .inl (c64, 1040, .inl (fun _ => 0))), (q65, .inl (c65, 1040, .inl (fun _ => 0))), (q66, .inl (c66, 1041, .inl (fun _ => 0)))] H := hP
  have hD : va_D A [(q1, .inr (0, [.ref q2, .ref q3, .ref q11, .ref q22, .ref q27, .ref q34, .ref q39, .int 0, .int (-1), .int 0, .int 0, .int 0])), (q2, .inl (c2, 1040, .inl (fun _ => 0))), (q3, .inr (1, [.ref q4, .ref q5, .ref q6, .ref q7, .ref q8, .ref q9, .ref q10, .int 0])), (q4, .inl (c4, 1040, .inl (fun _ => 0))), (q5, .inl (c5, 1040, .inl (fun _ => 0))), (q6, .inl (c6, 1040, .inl (fun _ => 0))), (q7, .inl (c7, 1040, .inl (fun _ => 0))), (q8, .inl (c8, 1040, .inl (fun _ => 0))), (q9, .inl (c9, 1040, .inl (fun _ => 0))), (q10, .inl (c10, 1040, .inl (fun _ => 0))), (q11, .inr (2, [.ref q3, .ref q12, .ref q13, .ref q14, .ref q16, .int 0, .int 16])), (q12, .inl (c12, 32, .inl (fun _ => 0))), (q13, .inl (c13, 256, .inl (fun _ => 0))), (q14, .inr (3, [.ref q15, .int 0])), (q15, .inl (c15, 2048, .inr (.inl (fun _ => 0)))), (q16, .inr (4, [.ref q17, .ref q18, .ref q19, .ref q20, .ref q21, .int 0, .int 0, .int 0])), (q17, .inl (c17, 512, .inl (fun _ => 0))), (q18, .inl (c18, 4096, .inl (fun _ => 0))), (q19, .inl (c19, 16, .inl (fun _ => 0))), (q20, .inl (c20, 16, .inl (fun _ => 0))), (q21, .inl (c21, 16, .inl (fun _ => 0))), (q22, .inr (5, [.ref q3, .ref q23, .ref q24, .ref q25, .ref q26, .int 0])), (q23, .inl (c23, 17680, .inr (.inl (fun _ => 0)))), (q24, .inl (c24, 1040, .inl (fun _ => 0))), (q25, .inl (c25, 1040, .inl (fun _ => 0))), (q26, .inl (c26, 1040, .inl (fun _ => 0))), (q27, .inr (6, [.ref q3, .ref q22, .ref q28, .ref q29, .ref q30, .ref q31, .ref q32, .ref q33, .int 0, .int 0, .int 0])), (q28, .inl (c28, 1040, .inl (fun _ => 0))), (q29, .inl (c29, 1040, .inl (fun _ => 0))), (q30, .inl (c30, 1040, .inl (fun _ => 0))), (q31, .inl (c31, 1040, .inl (fun _ => 0))), (q32, .inl (c32, 17, .inr (.inl (fun _ => 0)))), (q33, .inl (c33, 17, .inr (.inl (fun _ => 0)))), (q34, .inr (7, [.ref q3, .ref q22, .ref q27, .ref q35, .ref q36, .ref q37, .ref q38, .int 0, .int 0])), (q35, .inl (c35, 1040, .inl (fun _ => 0))), (q36, .inl (c36, 2080, .inl (fun _ => 0))), (q37, .inl (c37, 2080, .inl (fun _ => 0))), (q38, .inl (c38, 17, .inr (.inl (fun _ => 0)))), (q39, .inr (8, [.ref q3, .ref q27, .ref q40, .ref q41])), (q40, .inl (c40, 1041, .inl (fun _ => 0))), (q41, .inl (c41, 1040, .inl (fun _ => 0))), (q42, .inr (9, [.int 0, .ref q43, .int 0, .ref q44, .int 0, .int 0, .int (-1), .int 0, .ref q45, .ref q46, .ref q47, .int 0, .int 16, .ref q48, .ref q49, .ref q50, .ref q51, .ref q52, .int 0, .int 0, .int 0, .ref q53, .ref q54, .ref q55, .ref q56, .ref q57, .int 0, .int 0, .ref q58, .ref q59, .ref q60, .ref q61, .ref q62, .ref q63, .ref q64, .ref q65, .ref q66, .int 0])), (q43, .inl (c43, 1040, .inl (fun _ => 0))), (q44, .inl (c44, 1040, .inl (fun _ => 0))), (q45, .inl (c45, 32, .inl (fun _ => 0))), (q46, .inl (c46, 256, .inl (fun _ => 0))), (q47, .inl (c47, 2048, .inr (.inl (fun _ => 0)))), (q48, .inl (c48, 512, .inl (fun _ => 0))), (q49, .inl (c49, 4096, .inl (fun _ => 0))), (q50, .inl (c50, 16, .inl (fun _ => 0))), (q51, .inl (c51, 16, .inl (fun _ => 0))), (q52, .inl (c52, 16, .inl (fun _ => 0))), (q53, .inl (c53, 1040, .inl (fun _ => 0))), (q54, .inl (c54, 1040, .inl (fun _ => 0))), (q55, .inl (c55, 1040, .inl (fun _ => 0))), (q56, .inl (c56, 1040, .inl (fun _ => 0))), (q57, .inl (c57, 1040, .inl (fun _ => 0))), (q58, .inl (c58, 34320, .inl (fun _ => 0))), (q59, .inl (c59, 34320, .inl (fun _ => 0))), (q60, .inl (c60, 1040, .inl (fun _ => 0))), (q61, .inl (c61, 1040, .inl (fun _ => 0))), (q62, .inl (c62, 2080, .inl (fun _ => 0))), (q63, .inl (c63, 2081, .inl (fun _ => 0))), (q64, .inl (c64, 1040, .inl (fun _ => 0))), (q65, .inl (c65, 1040, .inl (fun _ => 0))), (q66, .inl (c66, 1041, .inl (fun _ => 0)))] := hD
  have hK : va_K (dC, dI) vwCl [(c2, .int), (c4, .int), (c5, .int), (c6, .int), (c7, .int), (c8, .int), (c9, .int), (c10, .int), (c12, .int), (c13, .byte), (c15, .long), (c17, .int), (c18, .byte), (c19, .int), (c20, .int), (c21, .int), (c23, .long), (c24, .int), (c25, .int), (c26, .int), (c28, .int), (c29, .int), (c30, .int), (c31, .boolean), (c32, .long), (c33, .long), (c35, .int), (c36, .int), (c37, .int), (c38, .long), (c40, .int), (c41, .int), (c43, .int), (c44, .int), (c45, .int), (c46, .int), (c47, .long), (c48, .int), (c49, .int), (c50, .int), (c51, .int), (c52, .int), (c53, .boolean), (c54, .boolean), (c55, .boolean), (c56, .boolean), (c57, .boolean), (c58, .int), (c59, .int), (c60, .boolean), (c61, .boolean), (c62, .int), (c63, .int), (c64, .boolean), (c65, .int), (c66, .int)] s := hK
  refine W.widen (k := 66) (n := 139983) (Nat.le_refl _) (Nat.le_refl _) ?_
  refine lv_astore_n hx hb (show decode code 15 = .ok (.astore_n 2, 1) from by decide +kernel) rfl hl (by decide) rfl (fun ls hl => ?_)
  have hl : lv_has ls 7 [(2, .ref q42), (1, .ref q1), (0, .ref b)] := hl
  refine lv_iconst (n := 1) (v := 1) hx hb (show decode code 16 = .ok (.iconst 1, 1) from by decide +kernel) (by decide) ?_
  refine va_newa (atype := .long) (ty := .long) (a0 := (1, .inr (.inl (fun _ => 0)))) hx hb (gc_arr hT _ (ty := .long) (by simp)) rfl hK hP hD hS hA (fun _ => rfl) (by decide) (N' := 1) (by decide) (by decide) (Nat.le_of_ble_eq_true rfl) (Nat.le_of_ble_eq_true rfl) (show decode code 17 = .ok (.newarray .long, 2) from by decide +kernel) (fun q67 c67 H hK hP hD hS => ?_)
  have hP : va_P (dC, dI) vwCl [(q1, .inr (0, [.ref q2, .ref q3, .ref q11, .ref q22, .ref q27, .ref q34, .ref q39, .int 0, .int (-1), .int 0, .int 0, .int 0])), (q2, .inl (c2, 1040, .inl (fun _ => 0))), (q3, .inr (1, [.ref q4, .ref q5, .ref q6, .ref q7, .ref q8, .ref q9, .ref q10, .int 0])), (q4, .inl (c4, 1040, .inl (fun _ => 0))), (q5, .inl (c5, 1040, .inl (fun _ => 0))), (q6, .inl (c6, 1040, .inl (fun _ => 0))), (q7, .inl (c7, 1040, .inl (fun _ => 0))), (q8, .inl (c8, 1040, .inl (fun _ => 0))), (q9, .inl (c9, 1040, .inl (fun _ => 0))), (q10, .inl (c10, 1040, .inl (fun _ => 0))), (q11, .inr (2, [.ref q3, .ref q12, .ref q13, .ref q14, .ref q16, .int 0, .int 16])), (q12, .inl (c12, 32, .inl (fun _ => 0))), (q13, .inl (c13, 256, .inl (fun _ => 0))), (q14, .inr (3, [.ref q15, .int 0])), (q15, .inl (c15, 2048, .inr (.inl (fun _ => 0)))), (q16, .inr (4, [.ref q17, .ref q18, .ref q19, .ref q20, .ref q21, .int 0, .int 0, .int 0])), (q17, .inl (c17, 512, .inl (fun _ => 0))), (q18, .inl (c18, 4096, .inl (fun _ => 0))), (q19, .inl (c19, 16, .inl (fun _ => 0))), (q20, .inl (c20, 16, .inl (fun _ => 0))), (q21, .inl (c21, 16, .inl (fun _ => 0))), (q22, .inr (5, [.ref q3, .ref q23, .ref q24, .ref q25, .ref q26, .int 0])), (q23, .inl (c23, 17680, .inr (.inl (fun _ => 0)))), (q24, .inl (c24, 1040, .inl (fun _ => 0))), (q25, .inl (c25, 1040, .inl (fun _ => 0))), (q26, .inl (c26, 1040, .inl (fun _ => 0))), (q27, .inr (6, [.ref q3, .ref q22, .ref q28, .ref q29, .ref q30, .ref q31, .ref q32, .ref q33, .int 0, .int 0, .int 0])), (q28, .inl (c28, 1040, .inl (fun _ => 0))), (q29, .inl (c29, 1040, .inl (fun _ => 0))), (q30, .inl (c30, 1040, .inl (fun _ => 0))), (q31, .inl (c31, 1040, .inl (fun _ => 0))), (q32, .inl (c32, 17, .inr (.inl (fun _ => 0)))), (q33, .inl (c33, 17, .inr (.inl (fun _ => 0)))), (q34, .inr (7, [.ref q3, .ref q22, .ref q27, .ref q35, .ref q36, .ref q37, .ref q38, .int 0, .int 0])), (q35, .inl (c35, 1040, .inl (fun _ => 0))), (q36, .inl (c36, 2080, .inl (fun _ => 0))), (q37, .inl (c37, 2080, .inl (fun _ => 0))), (q38, .inl (c38, 17, .inr (.inl (fun _ => 0)))), (q39, .inr (8, [.ref q3, .ref q27, .ref q40, .ref q41])), (q40, .inl (c40, 1041, .inl (fun _ => 0))), (q41, .inl (c41, 1040, .inl (fun _ => 0))), (q42, .inr (9, [.int 0, .ref q43, .int 0, .ref q44, .int 0, .int 0, .int (-1), .int 0, .ref q45, .ref q46, .ref q47, .int 0, .int 16, .ref q48, .ref q49, .ref q50, .ref q51, .ref q52, .int 0, .int 0, .int 0, .ref q53, .ref q54, .ref q55, .ref q56, .ref q57, .int 0, .int 0, .ref q58, .ref q59, .ref q60, .ref q61, .ref q62, .ref q63, .ref q64, .ref q65, .ref q66, .int 0])), (q43, .inl (c43, 1040, .inl (fun _ => 0))), (q44, .inl (c44, 1040, .inl (fun _ => 0))), (q45, .inl (c45, 32, .inl (fun _ => 0))), (q46, .inl (c46, 256, .inl (fun _ => 0))), (q47, .inl (c47, 2048, .inr (.inl (fun _ => 0)))), (q48, .inl (c48, 512, .inl (fun _ => 0))), (q49, .inl (c49, 4096, .inl (fun _ => 0))), (q50, .inl (c50, 16, .inl (fun _ => 0))), (q51, .inl (c51, 16, .inl (fun _ => 0))), (q52, .inl (c52, 16, .inl (fun _ => 0))), (q53, .inl (c53, 1040, .inl (fun _ => 0))), (q54, .inl (c54, 1040, .inl (fun _ => 0))), (q55, .inl (c55, 1040, .inl (fun _ => 0))), (q56, .inl (c56, 1040, .inl (fun _ => 0))), (q57, .inl (c57, 1040, .inl (fun _ => 0))), (q58, .inl (c58, 34320, .inl (fun _ => 0))), (q59, .inl (c59, 34320, .inl (fun _ => 0))), (q60, .inl (c60, 1040, .inl (fun _ => 0))), (q61, .inl (c61, 1040, .inl (fun _ => 0))), (q62, .inl (c62, 2080, .inl (fun _ => 0))), (q63, .inl (c63, 2081, .inl (fun _ => 0))), (q64, .inl (c64, 1040, .inl (fun _ => 0))), (q65, .inl (c65, 1040, .inl (fun _ => 0))), (q66, .inl (c66, 1041, .inl (fun _ => 0))), (q67, .inl (c67, 1, .inr (.inl (fun _ => 0))))] H := hP
  have hD : va_D A [(q1, .inr (0, [.ref q2, .ref q3, .ref q11, .ref q22, .ref q27, .ref q34, .ref q39, .int 0, .int (-1), .int 0, .int 0, .int 0])), (q2, .inl (c2, 1040, .inl (fun _ => 0))), (q3, .inr (1, [.ref q4, .ref q5, .ref q6, .ref q7, .ref q8, .ref q9, .ref q10, .int 0])), (q4, .inl (c4, 1040, .inl (fun _ => 0))), (q5, .inl (c5, 1040, .inl (fun _ => 0))), (q6, .inl (c6, 1040, .inl (fun _ => 0))), (q7, .inl (c7, 1040, .inl (fun _ => 0))), (q8, .inl (c8, 1040, .inl (fun _ => 0))), (q9, .inl (c9, 1040, .inl (fun _ => 0))), (q10, .inl (c10, 1040, .inl (fun _ => 0))), (q11, .inr (2, [.ref q3, .ref q12, .ref q13, .ref q14, .ref q16, .int 0, .int 16])), (q12, .inl (c12, 32, .inl (fun _ => 0))), (q13, .inl (c13, 256, .inl (fun _ => 0))), (q14, .inr (3, [.ref q15, .int 0])), (q15, .inl (c15, 2048, .inr (.inl (fun _ => 0)))), (q16, .inr (4, [.ref q17, .ref q18, .ref q19, .ref q20, .ref q21, .int 0, .int 0, .int 0])), (q17, .inl (c17, 512, .inl (fun _ => 0))), (q18, .inl (c18, 4096, .inl (fun _ => 0))), (q19, .inl (c19, 16, .inl (fun _ => 0))), (q20, .inl (c20, 16, .inl (fun _ => 0))), (q21, .inl (c21, 16, .inl (fun _ => 0))), (q22, .inr (5, [.ref q3, .ref q23, .ref q24, .ref q25, .ref q26, .int 0])), (q23, .inl (c23, 17680, .inr (.inl (fun _ => 0)))), (q24, .inl (c24, 1040, .inl (fun _ => 0))), (q25, .inl (c25, 1040, .inl (fun _ => 0))), (q26, .inl (c26, 1040, .inl (fun _ => 0))), (q27, .inr (6, [.ref q3, .ref q22, .ref q28, .ref q29, .ref q30, .ref q31, .ref q32, .ref q33, .int 0, .int 0, .int 0])), (q28, .inl (c28, 1040, .inl (fun _ => 0))), (q29, .inl (c29, 1040, .inl (fun _ => 0))), (q30, .inl (c30, 1040, .inl (fun _ => 0))), (q31, .inl (c31, 1040, .inl (fun _ => 0))), (q32, .inl (c32, 17, .inr (.inl (fun _ => 0)))), (q33, .inl (c33, 17, .inr (.inl (fun _ => 0)))), (q34, .inr (7, [.ref q3, .ref q22, .ref q27, .ref q35, .ref q36, .ref q37, .ref q38, .int 0, .int 0])), (q35, .inl (c35, 1040, .inl (fun _ => 0))), (q36, .inl (c36, 2080, .inl (fun _ => 0))), (q37, .inl (c37, 2080, .inl (fun _ => 0))), (q38, .inl (c38, 17, .inr (.inl (fun _ => 0)))), (q39, .inr (8, [.ref q3, .ref q27, .ref q40, .ref q41])), (q40, .inl (c40, 1041, .inl (fun _ => 0))), (q41, .inl (c41, 1040, .inl (fun _ => 0))), (q42, .inr (9, [.int 0, .ref q43, .int 0, .ref q44, .int 0, .int 0, .int (-1), .int 0, .ref q45, .ref q46, .ref q47, .int 0, .int 16, .ref q48, .ref q49, .ref q50, .ref q51, .ref q52, .int 0, .int 0, .int 0, .ref q53, .ref q54, .ref q55, .ref q56, .ref q57, .int 0, .int 0, .ref q58, .ref q59, .ref q60, .ref q61, .ref q62, .ref q63, .ref q64, .ref q65, .ref q66, .int 0])), (q43, .inl (c43, 1040, .inl (fun _ => 0))), (q44, .inl (c44, 1040, .inl (fun _ => 0))), (q45, .inl (c45, 32, .inl (fun _ => 0))), (q46, .inl (c46, 256, .inl (fun _ => 0))), (q47, .inl (c47, 2048, .inr (.inl (fun _ => 0)))), (q48, .inl (c48, 512, .inl (fun _ => 0))), (q49, .inl (c49, 4096, .inl (fun _ => 0))), (q50, .inl (c50, 16, .inl (fun _ => 0))), (q51, .inl (c51, 16, .inl (fun _ => 0))), (q52, .inl (c52, 16, .inl (fun _ => 0))), (q53, .inl (c53, 1040, .inl (fun _ => 0))), (q54, .inl (c54, 1040, .inl (fun _ => 0))), (q55, .inl (c55, 1040, .inl (fun _ => 0))), (q56, .inl (c56, 1040, .inl (fun _ => 0))), (q57, .inl (c57, 1040, .inl (fun _ => 0))), (q58, .inl (c58, 34320, .inl (fun _ => 0))), (q59, .inl (c59, 34320, .inl (fun _ => 0))), (q60, .inl (c60, 1040, .inl (fun _ => 0))), (q61, .inl (c61, 1040, .inl (fun _ => 0))), (q62, .inl (c62, 2080, .inl (fun _ => 0))), (q63, .inl (c63, 2081, .inl (fun _ => 0))), (q64, .inl (c64, 1040, .inl (fun _ => 0))), (q65, .inl (c65, 1040, .inl (fun _ => 0))), (q66, .inl (c66, 1041, .inl (fun _ => 0))), (q67, .inl (c67, 1, .inr (.inl (fun _ => 0))))] := hD
  have hK : va_K (dC, dI) vwCl [(c2, .int), (c4, .int), (c5, .int), (c6, .int), (c7, .int), (c8, .int), (c9, .int), (c10, .int), (c12, .int), (c13, .byte), (c15, .long), (c17, .int), (c18, .byte), (c19, .int), (c20, .int), (c21, .int), (c23, .long), (c24, .int), (c25, .int), (c26, .int), (c28, .int), (c29, .int), (c30, .int), (c31, .boolean), (c32, .long), (c33, .long), (c35, .int), (c36, .int), (c37, .int), (c38, .long), (c40, .int), (c41, .int), (c43, .int), (c44, .int), (c45, .int), (c46, .int), (c47, .long), (c48, .int), (c49, .int), (c50, .int), (c51, .int), (c52, .int), (c53, .boolean), (c54, .boolean), (c55, .boolean), (c56, .boolean), (c57, .boolean), (c58, .int), (c59, .int), (c60, .boolean), (c61, .boolean), (c62, .int), (c63, .int), (c64, .boolean), (c65, .int), (c66, .int), (c67, .long)] s := hK
  refine W.widen (k := 67) (n := 139984) (Nat.le_refl _) (Nat.le_refl _) ?_
  refine lv_astore_n hx hb (show decode code 19 = .ok (.astore_n 3, 1) from by decide +kernel) rfl hl (by decide) rfl (fun ls hl => ?_)
  have hl : lv_has ls 7 [(3, .ref q67), (2, .ref q42), (1, .ref q1), (0, .ref b)] := hl
  refine lv_iconst (n := 0) (v := 0) hx hb (show decode code 20 = .ok (.iconst 0, 1) from by decide +kernel) (by decide) ?_
  refine lv_istore hx hb (show decode code 21 = .ok (.istore 4, 2) from by decide +kernel) hl (by decide) rfl (fun ls hl => ?_)
  have hl : lv_has ls 7 [(4, .int 0), (3, .ref q67), (2, .ref q42), (1, .ref q1), (0, .ref b)] := hl
  rw [← hAe] at hD hS
  exact fin H _ ls q1 q2 q3 q4 q5 q6 q7 q8 q9 q10 q11 q12 q13 q14 q15 q16 q17 q18 q19 q20 q21 q22 q23 q24 q25 q26 q27 q28 q29 q30 q31 q32 q33 q34 q35 q36 q37 q38 q39 q40 q41 q42 q43 q44 q45 q46 q47 q48 q49 q50 q51 q52 q53 q54 q55 q56 q57 q58 q59 q60 q61 q62 q63 q64 q65 q66 q67 c2 c4 c5 c6 c7 c8 c9 c10 c12 c13 c15 c17 c18 c19 c20 c21 c23 c24 c25 c26 c28 c29 c30 c31 c32 c33 c35 c36 c37 c38 c40 c41 c43 c44 c45 c46 c47 c48 c49 c50 c51 c52 c53 c54 c55 c56 c57 c58 c59 c60 c61 c62 c63 c64 c65 c66 c67 hP hD hK hS hl
end
section
theorem gc_inj {A : Nat → Prop} {WS : va_W} {QL : List Nat} (h : WS.map Prod.fst = QL) (hD : va_D A WS) : (∀ i j, i < QL.length → j < QL.length → QL.getD i 0 = QL.getD j 0 → i = j) ∧ ∀ i, i < QL.length → A (QL.getD i 0) := by
  have key : ∀ i, i < QL.length → ∃ e, WS[i]? = some (QL.getD i 0, e) := by
    intro i hi
    have hl : i < WS.length := by rw [← h, List.length_map] at hi; exact hi
    refine ⟨WS[i].2, ?_⟩
    have e1 : QL.getD i 0 = WS[i].1 := by
      subst h
      simp [List.getD, hl]
    rw [e1, List.getElem?_eq_getElem hl]
  refine ⟨fun i j hi hj e => ?_, fun i hi => ?_⟩
  · obtain ⟨x, hx⟩ := key i hi
    obtain ⟨y, hy⟩ := key j hj
    exact hD.1 i j _ _ hx hy e
  · obtain ⟨x, hx⟩ := key i hi
    exact hD.2 i _ hx
theorem gc_adn {b : Nat} {QL : List Nat} {i : Nat} (h : i < 67) : gc_ad b QL i = QL.getD i 0 := if_neg (by omega)
theorem gc_known {s : State} {args : Array Value} (hts : ∀ w ∈ gv_ws, w.before args s = true) : ∃ (dC : Nat → ClassId) (dI : Nat → Nat → Nat), va_K (dC, dI) vwCl [] s := by
  obtain ⟨c0, i0, h0⟩ := u_known (C := "GuessFences") (T := gf_T0) (N := 12) hts lays_0 (hts (.instantiable "GuessFences" 12) (gv_i1 33 rfl rfl))
  obtain ⟨c1, i1, h1⟩ := u_known (C := "GuessFences$Listing") (T := gf_T1) (N := 8) hts lays_1 (hts (.instantiable "GuessFences$Listing" 8) (gv_i1 41 rfl rfl))
  obtain ⟨c2, i2, h2⟩ := u_known (C := "GuessFences$Machine") (T := gf_T2) (N := 7) hts lays_2 (hts (.instantiable "GuessFences$Machine" 7) (gv_i1 93 rfl rfl))
  obtain ⟨c3, i3, h3⟩ := u_known (C := "GuessFences$Leaks") (T := gf_T3) (N := 2) hts lays_3 (hts (.instantiable "GuessFences$Leaks" 2) (gv_i1 99 rfl rfl))
  obtain ⟨c4, i4, h4⟩ := u_known (C := "GuessFences$Guesses") (T := gf_T4) (N := 8) hts lays_4 (hts (.instantiable "GuessFences$Guesses" 8) (gv_i1 115 rfl rfl))
  obtain ⟨c5, i5, h5⟩ := u_known (C := "GuessFences$Reach") (T := gf_T5) (N := 6) hts lays_5 (hts (.instantiable "GuessFences$Reach" 6) (gv_i1 173 rfl rfl))
  obtain ⟨c6, i6, h6⟩ := u_known (C := "GuessFences$Taint") (T := gf_T6) (N := 11) hts lays_6 (hts (.instantiable "GuessFences$Taint" 11) (gv_i1 198 rfl rfl))
  obtain ⟨c7, i7, h7⟩ := u_known (C := "GuessFences$Cut") (T := gf_T7) (N := 9) hts lays_7 (hts (.instantiable "GuessFences$Cut" 9) (gv_i2 7 rfl rfl))
  obtain ⟨c8, i8, h8⟩ := u_known (C := "GuessFences$Rewriter") (T := gf_T8) (N := 4) hts lays_8 (hts (.instantiable "GuessFences$Rewriter" 4) (gv_i2 42 rfl rfl))
  obtain ⟨c9, i9, h9⟩ := u_known (C := "GuessFencesModel") (T := gf_T9) (N := 38) hts lays_9 (hts (.instantiable "GuessFencesModel" 38) (gv_i6 116 rfl rfl))
  refine ⟨fun k => match k with | 0 => c0 | 1 => c1 | 2 => c2 | 3 => c3 | 4 => c4 | 5 => c5 | 6 => c6 | 7 => c7 | 8 => c8 | _ => c9, fun k => match k with | 0 => i0 | 1 => i1 | 2 => i2 | 3 => i3 | 4 => i4 | 5 => i5 | 6 => i6 | 7 => i7 | 8 => i8 | _ => i9, fun k q hk => ?_, fun k q hk => by simp at hk⟩
  match k, hk with
  | 0, hk => cases hk; exact h0
  | 1, hk => cases hk; exact h1
  | 2, hk => cases hk; exact h2
  | 3, hk => cases hk; exact h3
  | 4, hk => cases hk; exact h4
  | 5, hk => cases hk; exact h5
  | 6, hk => cases hk; exact h6
  | 7, hk => cases hk; exact h7
  | 8, hk => cases hk; exact h8
  | 9, hk => cases hk; exact h9
  | k + 10, hk => exact absurd (List.getElem?_eq_some_iff.mp hk).1 (by simp)
theorem gc_up {P : Nat → Prop} {n : Nat} (h : ∀ k, k < n → P k) (hn : P n) : ∀ k, k < n + 1 → P k := fun k hk => by
  rcases Nat.lt_succ_iff_lt_or_eq.mp hk with h1 | rfl
  · exact h k h1
  · exact hn
def gc_at (D : va_G) (H : Heap) (cA : FieldType → ClassId) (ad : Nat → Nat) (σ : gS) (k : Nat) : Prop := va_at D vwCl (ad k, gv_e cA ad σ k (gv_sh.getD k (.inl (.int, 0)))) H
theorem gc_Pall {D : va_G} {H : Heap} {cA : FieldType → ClassId} {ad : Nat → Nat} {σ : gS} (h : ∀ k, k < 67 → gc_at D H cA ad σ k) : va_P D vwCl (gv_w cA ad σ) H := by
  intro k q hk
  have hl9 : k < 67 := by
    have := (List.getElem?_eq_some_iff.mp hk).1
    rw [gv_wlen, gv_shl] at this
    exact this
  have hsh : gv_sh[k]? = some (gv_sh.getD k (.inl (.int, 0))) := by
    rw [List.getD_eq_getElem?_getD, List.getElem?_eq_getElem (by rw [gv_shl]; exact hl9)]; rfl
  rw [gv_wget _ hsh] at hk
  cases hk
  exact h k hl9
theorem gc_o0 {cA : FieldType → ClassId} {ad : Nat → Nat} {σ : gS} : gv_e cA ad σ 0 (gv_sh.getD 0 (.inl (.int, 0))) = .inr (0, [.ref (ad 1), .ref (ad 2), .ref (ad 10), .ref (ad 21), .ref (ad 26), .ref (ad 33), .ref (ad 38), .int (σ.1 0 7), .int (σ.1 0 8), .int (σ.1 0 9), .int (σ.1 0 10), .int (σ.1 0 11)]) := by
  show Sum.inr (0, List.mapIdx (fun k f => gv_f ad σ 0 k f) [some 1, some 2, some 10, some 21, some 26, some 33, some 38, none, none, none, none, none]) = _
  simp only [List.mapIdx_cons, List.mapIdx_nil, gv_f, Nat.reduceAdd, Nat.zero_add]
theorem gc_o2 {cA : FieldType → ClassId} {ad : Nat → Nat} {σ : gS} : gv_e cA ad σ 2 (gv_sh.getD 2 (.inl (.int, 0))) = .inr (1, [.ref (ad 3), .ref (ad 4), .ref (ad 5), .ref (ad 6), .ref (ad 7), .ref (ad 8), .ref (ad 9), .int (σ.1 2 7)]) := by
  show Sum.inr (1, List.mapIdx (fun k f => gv_f ad σ 2 k f) [some 3, some 4, some 5, some 6, some 7, some 8, some 9, none]) = _
  simp only [List.mapIdx_cons, List.mapIdx_nil, gv_f, Nat.reduceAdd, Nat.zero_add]
theorem gc_o10 {cA : FieldType → ClassId} {ad : Nat → Nat} {σ : gS} : gv_e cA ad σ 10 (gv_sh.getD 10 (.inl (.int, 0))) = .inr (2, [.ref (ad 2), .ref (ad 11), .ref (ad 12), .ref (ad 13), .ref (ad 15), .int (σ.1 10 5), .int (σ.1 10 6)]) := by
  show Sum.inr (2, List.mapIdx (fun k f => gv_f ad σ 10 k f) [some 2, some 11, some 12, some 13, some 15, none, none]) = _
  simp only [List.mapIdx_cons, List.mapIdx_nil, gv_f, Nat.reduceAdd, Nat.zero_add]
theorem gc_o13 {cA : FieldType → ClassId} {ad : Nat → Nat} {σ : gS} : gv_e cA ad σ 13 (gv_sh.getD 13 (.inl (.int, 0))) = .inr (3, [.ref (ad 14), .int (σ.1 13 1)]) := by
  show Sum.inr (3, List.mapIdx (fun k f => gv_f ad σ 13 k f) [some 14, none]) = _
  simp only [List.mapIdx_cons, List.mapIdx_nil, gv_f, Nat.reduceAdd, Nat.zero_add]
theorem gc_o15 {cA : FieldType → ClassId} {ad : Nat → Nat} {σ : gS} : gv_e cA ad σ 15 (gv_sh.getD 15 (.inl (.int, 0))) = .inr (4, [.ref (ad 16), .ref (ad 17), .ref (ad 18), .ref (ad 19), .ref (ad 20), .int (σ.1 15 5), .int (σ.1 15 6), .int (σ.1 15 7)]) := by
  show Sum.inr (4, List.mapIdx (fun k f => gv_f ad σ 15 k f) [some 16, some 17, some 18, some 19, some 20, none, none, none]) = _
  simp only [List.mapIdx_cons, List.mapIdx_nil, gv_f, Nat.reduceAdd, Nat.zero_add]
theorem gc_o21 {cA : FieldType → ClassId} {ad : Nat → Nat} {σ : gS} : gv_e cA ad σ 21 (gv_sh.getD 21 (.inl (.int, 0))) = .inr (5, [.ref (ad 2), .ref (ad 22), .ref (ad 23), .ref (ad 24), .ref (ad 25), .int (σ.1 21 5)]) := by
  show Sum.inr (5, List.mapIdx (fun k f => gv_f ad σ 21 k f) [some 2, some 22, some 23, some 24, some 25, none]) = _
  simp only [List.mapIdx_cons, List.mapIdx_nil, gv_f, Nat.reduceAdd, Nat.zero_add]
theorem gc_o26 {cA : FieldType → ClassId} {ad : Nat → Nat} {σ : gS} : gv_e cA ad σ 26 (gv_sh.getD 26 (.inl (.int, 0))) = .inr (6, [.ref (ad 2), .ref (ad 21), .ref (ad 27), .ref (ad 28), .ref (ad 29), .ref (ad 30), .ref (ad 31), .ref (ad 32), .int (σ.1 26 8), .int (σ.1 26 9), .int (σ.1 26 10)]) := by
  show Sum.inr (6, List.mapIdx (fun k f => gv_f ad σ 26 k f) [some 2, some 21, some 27, some 28, some 29, some 30, some 31, some 32, none, none, none]) = _
  simp only [List.mapIdx_cons, List.mapIdx_nil, gv_f, Nat.reduceAdd, Nat.zero_add]
theorem gc_o33 {cA : FieldType → ClassId} {ad : Nat → Nat} {σ : gS} : gv_e cA ad σ 33 (gv_sh.getD 33 (.inl (.int, 0))) = .inr (7, [.ref (ad 2), .ref (ad 21), .ref (ad 26), .ref (ad 34), .ref (ad 35), .ref (ad 36), .ref (ad 37), .int (σ.1 33 7), .int (σ.1 33 8)]) := by
  show Sum.inr (7, List.mapIdx (fun k f => gv_f ad σ 33 k f) [some 2, some 21, some 26, some 34, some 35, some 36, some 37, none, none]) = _
  simp only [List.mapIdx_cons, List.mapIdx_nil, gv_f, Nat.reduceAdd, Nat.zero_add]
theorem gc_o38 {cA : FieldType → ClassId} {ad : Nat → Nat} {σ : gS} : gv_e cA ad σ 38 (gv_sh.getD 38 (.inl (.int, 0))) = .inr (8, [.ref (ad 2), .ref (ad 26), .ref (ad 39), .ref (ad 40)]) := by
  show Sum.inr (8, List.mapIdx (fun k f => gv_f ad σ 38 k f) [some 2, some 26, some 39, some 40]) = _
  simp only [List.mapIdx_cons, List.mapIdx_nil, gv_f, Nat.reduceAdd, Nat.zero_add]
theorem gc_o41 {cA : FieldType → ClassId} {ad : Nat → Nat} {σ : gS} : gv_e cA ad σ 41 (gv_sh.getD 41 (.inl (.int, 0))) = .inr (9, [.int (σ.1 41 0), .ref (ad 42), .int (σ.1 41 2), .ref (ad 43), .int (σ.1 41 4), .int (σ.1 41 5), .int (σ.1 41 6), .int (σ.1 41 7), .ref (ad 44), .ref (ad 45), .ref (ad 46), .int (σ.1 41 11), .int (σ.1 41 12), .ref (ad 47), .ref (ad 48), .ref (ad 49), .ref (ad 50), .ref (ad 51), .int (σ.1 41 18), .int (σ.1 41 19), .int (σ.1 41 20), .ref (ad 52), .ref (ad 53), .ref (ad 54), .ref (ad 55), .ref (ad 56), .int (σ.1 41 26), .int (σ.1 41 27), .ref (ad 57), .ref (ad 58), .ref (ad 59), .ref (ad 60), .ref (ad 61), .ref (ad 62), .ref (ad 63), .ref (ad 64), .ref (ad 65), .int (σ.1 41 37)]) := by
  show Sum.inr (9, List.mapIdx (fun k f => gv_f ad σ 41 k f) [none, some 42, none, some 43, none, none, none, none, some 44, some 45, some 46, none, none, some 47, some 48, some 49, some 50, some 51, none, none, none, some 52, some 53, some 54, some 55, some 56, none, none, some 57, some 58, some 59, some 60, some 61, some 62, some 63, some 64, some 65, none]) = _
  simp only [List.mapIdx_cons, List.mapIdx_nil, gv_f, Nat.reduceAdd, Nat.zero_add]
set_option maxRecDepth 100000 in
theorem gc_P1 {D : va_G} {H : Heap} {b : Nat} {X : List Int32} {q1 q2 q3 q4 q5 q6 q7 q8 q9 q10 q11 q12 q13 q14 q15 q16 q17 q18 q19 q20 q21 q22 q23 q24 q25 q26 q27 q28 q29 q30 q31 q32 q33 q34 q35 q36 q37 q38 q39 q40 q41 q42 q43 q44 q45 q46 q47 q48 q49 q50 q51 q52 q53 q54 q55 q56 q57 q58 q59 q60 q61 q62 q63 q64 q65 q66 q67 : Nat} {c2 c13 c31 c15 : ClassId} (hP : va_P D vwCl [(q1, .inr (0, [.ref q2, .ref q3, .ref q11, .ref q22, .ref q27, .ref q34, .ref q39, .int 0, .int (-1), .int 0, .int 0, .int 0])), (q2, .inl (c2, 1040, .inl (fun _ => 0))), (q3, .inr (1, [.ref q4, .ref q5, .ref q6, .ref q7, .ref q8, .ref q9, .ref q10, .int 0])), (q4, .inl (c2, 1040, .inl (fun _ => 0))), (q5, .inl (c2, 1040, .inl (fun _ => 0))), (q6, .inl (c2, 1040, .inl (fun _ => 0))), (q7, .inl (c2, 1040, .inl (fun _ => 0))), (q8, .inl (c2, 1040, .inl (fun _ => 0))), (q9, .inl (c2, 1040, .inl (fun _ => 0))), (q10, .inl (c2, 1040, .inl (fun _ => 0))), (q11, .inr (2, [.ref q3, .ref q12, .ref q13, .ref q14, .ref q16, .int 0, .int 16])), (q12, .inl (c2, 32, .inl (fun _ => 0))), (q13, .inl (c13, 256, .inl (fun _ => 0))), (q14, .inr (3, [.ref q15, .int 0])), (q15, .inl (c15, 2048, .inr (.inl (fun _ => 0)))), (q16, .inr (4, [.ref q17, .ref q18, .ref q19, .ref q20, .ref q21, .int 0, .int 0, .int 0])), (q17, .inl (c2, 512, .inl (fun _ => 0))), (q18, .inl (c13, 4096, .inl (fun _ => 0))), (q19, .inl (c2, 16, .inl (fun _ => 0))), (q20, .inl (c2, 16, .inl (fun _ => 0))), (q21, .inl (c2, 16, .inl (fun _ => 0))), (q22, .inr (5, [.ref q3, .ref q23, .ref q24, .ref q25, .ref q26, .int 0])), (q23, .inl (c15, 17680, .inr (.inl (fun _ => 0)))), (q24, .inl (c2, 1040, .inl (fun _ => 0))), (q25, .inl (c2, 1040, .inl (fun _ => 0))), (q26, .inl (c2, 1040, .inl (fun _ => 0))), (q27, .inr (6, [.ref q3, .ref q22, .ref q28, .ref q29, .ref q30, .ref q31, .ref q32, .ref q33, .int 0, .int 0, .int 0])), (q28, .inl (c2, 1040, .inl (fun _ => 0))), (q29, .inl (c2, 1040, .inl (fun _ => 0))), (q30, .inl (c2, 1040, .inl (fun _ => 0))), (q31, .inl (c31, 1040, .inl (fun _ => 0))), (q32, .inl (c15, 17, .inr (.inl (fun _ => 0)))), (q33, .inl (c15, 17, .inr (.inl (fun _ => 0)))), (q34, .inr (7, [.ref q3, .ref q22, .ref q27, .ref q35, .ref q36, .ref q37, .ref q38, .int 0, .int 0])), (q35, .inl (c2, 1040, .inl (fun _ => 0))), (q36, .inl (c2, 2080, .inl (fun _ => 0))), (q37, .inl (c2, 2080, .inl (fun _ => 0))), (q38, .inl (c15, 17, .inr (.inl (fun _ => 0)))), (q39, .inr (8, [.ref q3, .ref q27, .ref q40, .ref q41])), (q40, .inl (c2, 1041, .inl (fun _ => 0))), (q41, .inl (c2, 1040, .inl (fun _ => 0))), (q42, .inr (9, [.int 0, .ref q43, .int 0, .ref q44, .int 0, .int 0, .int (-1), .int 0, .ref q45, .ref q46, .ref q47, .int 0, .int 16, .ref q48, .ref q49, .ref q50, .ref q51, .ref q52, .int 0, .int 0, .int 0, .ref q53, .ref q54, .ref q55, .ref q56, .ref q57, .int 0, .int 0, .ref q58, .ref q59, .ref q60, .ref q61, .ref q62, .ref q63, .ref q64, .ref q65, .ref q66, .int 0])), (q43, .inl (c2, 1040, .inl (fun _ => 0))), (q44, .inl (c2, 1040, .inl (fun _ => 0))), (q45, .inl (c2, 32, .inl (fun _ => 0))), (q46, .inl (c2, 256, .inl (fun _ => 0))), (q47, .inl (c15, 2048, .inr (.inl (fun _ => 0)))), (q48, .inl (c2, 512, .inl (fun _ => 0))), (q49, .inl (c2, 4096, .inl (fun _ => 0))), (q50, .inl (c2, 16, .inl (fun _ => 0))), (q51, .inl (c2, 16, .inl (fun _ => 0))), (q52, .inl (c2, 16, .inl (fun _ => 0))), (q53, .inl (c31, 1040, .inl (fun _ => 0))), (q54, .inl (c31, 1040, .inl (fun _ => 0))), (q55, .inl (c31, 1040, .inl (fun _ => 0))), (q56, .inl (c31, 1040, .inl (fun _ => 0))), (q57, .inl (c31, 1040, .inl (fun _ => 0))), (q58, .inl (c2, 34320, .inl (fun _ => 0))), (q59, .inl (c2, 34320, .inl (fun _ => 0))), (q60, .inl (c31, 1040, .inl (fun _ => 0))), (q61, .inl (c31, 1040, .inl (fun _ => 0))), (q62, .inl (c2, 2080, .inl (fun _ => 0))), (q63, .inl (c2, 2081, .inl (fun _ => 0))), (q64, .inl (c31, 1040, .inl (fun _ => 0))), (q65, .inl (c2, 1040, .inl (fun _ => 0))), (q66, .inl (c2, 1041, .inl (fun _ => 0))), (q67, .inl (c15, 1, .inr (.inl (fun _ => 0))))] H) : va_P D vwCl (gv_w (gc_cA c2 c13 c31 c15) (gc_ad b [q1, q2, q3, q4, q5, q6, q7, q8, q9, q10, q11, q12, q13, q14, q15, q16, q17, q18, q19, q20, q21, q22, q23, q24, q25, q26, q27, q28, q29, q30, q31, q32, q33, q34, q35, q36, q37, q38, q39, q40, q41, q42, q43, q44, q45, q46, q47, q48, q49, q50, q51, q52, q53, q54, q55, q56, q57, q58, q59, q60, q61, q62, q63, q64, q65, q66, q67]) (gv_s0 X)) H := by
  refine gc_Pall ?_
  have h0 : ∀ k, k < 0 → gc_at D H (gc_cA c2 c13 c31 c15) (gc_ad b [q1, q2, q3, q4, q5, q6, q7, q8, q9, q10, q11, q12, q13, q14, q15, q16, q17, q18, q19, q20, q21, q22, q23, q24, q25, q26, q27, q28, q29, q30, q31, q32, q33, q34, q35, q36, q37, q38, q39, q40, q41, q42, q43, q44, q45, q46, q47, q48, q49, q50, q51, q52, q53, q54, q55, q56, q57, q58, q59, q60, q61, q62, q63, q64, q65, q66, q67]) (gv_s0 X) k := fun k hk => absurd hk (Nat.not_lt_zero k)
  have h1 := gc_up h0 (by unfold gc_at; rw [gc_o0]; exact hP 0 _ rfl)
  have h2 := gc_up h1 (hP 1 _ rfl)
  have h3 := gc_up h2 (by unfold gc_at; rw [gc_o2]; exact hP 2 _ rfl)
  have h4 := gc_up h3 (hP 3 _ rfl)
  have h5 := gc_up h4 (hP 4 _ rfl)
  have h6 := gc_up h5 (hP 5 _ rfl)
  have h7 := gc_up h6 (hP 6 _ rfl)
  have h8 := gc_up h7 (hP 7 _ rfl)
  have h9 := gc_up h8 (hP 8 _ rfl)
  have h10 := gc_up h9 (hP 9 _ rfl)
  have h11 := gc_up h10 (by unfold gc_at; rw [gc_o10]; exact hP 10 _ rfl)
  have h12 := gc_up h11 (hP 11 _ rfl)
  have h13 := gc_up h12 (hP 12 _ rfl)
  have h14 := gc_up h13 (by unfold gc_at; rw [gc_o13]; exact hP 13 _ rfl)
  have h15 := gc_up h14 (hP 14 _ rfl)
  have h16 := gc_up h15 (by unfold gc_at; rw [gc_o15]; exact hP 15 _ rfl)
  have h17 := gc_up h16 (hP 16 _ rfl)
  have h18 := gc_up h17 (hP 17 _ rfl)
  have h19 := gc_up h18 (hP 18 _ rfl)
  have h20 := gc_up h19 (hP 19 _ rfl)
  have h21 := gc_up h20 (hP 20 _ rfl)
  have h22 := gc_up h21 (by unfold gc_at; rw [gc_o21]; exact hP 21 _ rfl)
  have h23 := gc_up h22 (hP 22 _ rfl)
  have h24 := gc_up h23 (hP 23 _ rfl)
  have h25 := gc_up h24 (hP 24 _ rfl)
  have h26 := gc_up h25 (hP 25 _ rfl)
  have h27 := gc_up h26 (by unfold gc_at; rw [gc_o26]; exact hP 26 _ rfl)
  have h28 := gc_up h27 (hP 27 _ rfl)
  have h29 := gc_up h28 (hP 28 _ rfl)
  have h30 := gc_up h29 (hP 29 _ rfl)
  have h31 := gc_up h30 (hP 30 _ rfl)
  have h32 := gc_up h31 (hP 31 _ rfl)
  have h33 := gc_up h32 (hP 32 _ rfl)
  have h34 := gc_up h33 (by unfold gc_at; rw [gc_o33]; exact hP 33 _ rfl)
  have h35 := gc_up h34 (hP 34 _ rfl)
  have h36 := gc_up h35 (hP 35 _ rfl)
  have h37 := gc_up h36 (hP 36 _ rfl)
  have h38 := gc_up h37 (hP 37 _ rfl)
  have h39 := gc_up h38 (by unfold gc_at; rw [gc_o38]; exact hP 38 _ rfl)
  have h40 := gc_up h39 (hP 39 _ rfl)
  have h41 := gc_up h40 (hP 40 _ rfl)
  have h42 := gc_up h41 (by unfold gc_at; rw [gc_o41]; exact hP 41 _ rfl)
  have h43 := gc_up h42 (hP 42 _ rfl)
  have h44 := gc_up h43 (hP 43 _ rfl)
  have h45 := gc_up h44 (hP 44 _ rfl)
  have h46 := gc_up h45 (hP 45 _ rfl)
  have h47 := gc_up h46 (hP 46 _ rfl)
  have h48 := gc_up h47 (hP 47 _ rfl)
  have h49 := gc_up h48 (hP 48 _ rfl)
  have h50 := gc_up h49 (hP 49 _ rfl)
  have h51 := gc_up h50 (hP 50 _ rfl)
  have h52 := gc_up h51 (hP 51 _ rfl)
  have h53 := gc_up h52 (hP 52 _ rfl)
  have h54 := gc_up h53 (hP 53 _ rfl)
  have h55 := gc_up h54 (hP 54 _ rfl)
  have h56 := gc_up h55 (hP 55 _ rfl)
  have h57 := gc_up h56 (hP 56 _ rfl)
  have h58 := gc_up h57 (hP 57 _ rfl)
  have h59 := gc_up h58 (hP 58 _ rfl)
  have h60 := gc_up h59 (hP 59 _ rfl)
  have h61 := gc_up h60 (hP 60 _ rfl)
  have h62 := gc_up h61 (hP 61 _ rfl)
  have h63 := gc_up h62 (hP 62 _ rfl)
  have h64 := gc_up h63 (hP 63 _ rfl)
  have h65 := gc_up h64 (hP 64 _ rfl)
  have h66 := gc_up h65 (hP 65 _ rfl)
  have h67 := gc_up h66 (hP 66 _ rfl)
  exact h67
end
section
set_option maxHeartbeats 1000000 in
theorem gc_fin {p : Program} {e : Env} {s : State} {m : MethodId} {below : List Frame} {meth : Method} {c : Code} (l : Launch) (hl0 : l.stackTraces = false) {b L : Nat} {xs : Nat → Int32} (C0 : lw_At p s m meth c b L xs) (htab : (c.exceptionTable.toList.map fun h => (h.startPc, h.endPc, h.handlerPc, h.catchType)) = [])
    (hV : gv_V m_L_law 600 false 23 [some (.ref 900), some (.ref 0), some (.ref 41), some (.ref 66), some (.int 0), none, none] [] (gv_s0 ((List.range L).map xs)) (fun o _ => o = .inl (some (.int 1))))
    {dC : Nat → ClassId} {dI : Nat → Nat → Nat} {cA : FieldType → ClassId} (hK : va_K (dC, dI) vwCl (gv_ty cA) s) {QL : List Nat} (hlenq : QL.length = 67) (hinj : (∀ i j, i < QL.length → j < QL.length → QL.getD i 0 = QL.getD j 0 → i = j) ∧ ∀ i, i < QL.length → s.heap.size ≤ QL.getD i 0) {H : Heap} {locs : List Loc} {ls : Array Slot}
    (hP2 : va_P (dC, dI) vwCl (gv_w cA (gc_ad b QL) (gv_s0 ((List.range L).map xs))) H) (hS : va_S (fun q => s.heap.size ≤ q) s.heap H locs) (hl : lv_has ls 7 [(4, .int 0), (3, .ref (QL.getD 66 0)), (2, .ref (QL.getD 41 0)), (1, .ref (QL.getD 0 0)), (0, .ref b)]) :
    W p l e room_1 s m #[Value.ref b] below meth c H locs 67 139984 (lw_Z below #[Value.ref b] s) (F0 m 23 ls []) := by
  have hT := gc_Tc C0.2.2.2.2.2.1 C0.2.2.2.2.2.2.2.2.2
  obtain ⟨hx, hb, hr, hml, hown, hts0, hX, hbl, hlocks, hgv⟩ := C0
  have hinj1 : ∀ i j, i < gv_sh.length → j < gv_sh.length → gc_ad b QL i = gc_ad b QL j → i = j := by
    intro i j hi hj he
    rw [gv_shl] at hi hj
    rw [gc_adn hi, gc_adn hj] at he
    exact hinj.1 i j (by rw [hlenq]; exact hi) (by rw [hlenq]; exact hj) he
  have hnew : ∀ i, i < gv_sh.length → s.heap.size ≤ gc_ad b QL i := by
    intro i hi
    rw [gv_shl] at hi
    rw [gc_adn hi]
    exact hinj.2 i (by rw [hlenq]; exact hi)
  have hscr : gc_ad b QL gv_scr = b := rfl
  have hnA : ∀ a : Nat, a < s.heap.size → ¬ gv_A (gc_ad b QL) s a := by
    intro a ha z
    rcases z with ⟨i, hi, rfl⟩ | z
    · exact absurd (hnew i hi) (by omega)
    · omega
  have hq := flat_of_before _ hgv
  have hZ1 : gv_Zs "java/lang/Throwable" "UNASSIGNED_STACK" "[Ljava/lang/StackTraceElement;" (gv_A (gc_ad b QL) s) s s.heap := gv_Zs.of (hts0 (.laysStatic "java/lang/Throwable" "UNASSIGNED_STACK" "[Ljava/lang/StackTraceElement;") (List.mem_append_right _ (List.mem_append_right _ (List.mem_append_right _ (List.mem_append_left _ (List.mem_of_getElem? (i := 23) rfl)))))) (hq (.isRef (.static "java/lang/Throwable" "UNASSIGNED_STACK" "[Ljava/lang/StackTraceElement;")) (by decide +kernel)) hnA
  have hZ2 : gv_Zs "java/lang/Throwable" "SUPPRESSED_SENTINEL" "Ljava/util/List;" (gv_A (gc_ad b QL) s) s s.heap := gv_Zs.of (hts0 (.laysStatic "java/lang/Throwable" "SUPPRESSED_SENTINEL" "Ljava/util/List;") (List.mem_append_right _ (List.mem_append_right _ (List.mem_append_right _ (List.mem_append_left _ (List.mem_of_getElem? (i := 25) rfl)))))) (hq (.isRef (.static "java/lang/Throwable" "SUPPRESSED_SENTINEL" "Ljava/util/List;")) (by decide +kernel)) hnA
  have hC : gv_C m_L_law p l room_1 s m meth c (dC, dI) cA (gc_ad b QL) :=
    ⟨⟨hx, hb, hml, hown, hr, hlocks, htab, hl0, by decide, by decide⟩, hT.1, hK, hinj1, ⟨fun i hi z => by
      have := hnew i hi
      rw [hscr] at z
      omega, by rw [hscr]; exact hbl⟩, hZ1, hZ2⟩
  have hE : gv_Ex m_L_law p l e room_1 s m #[Value.ref b] below meth c (dC, dI) cA (gc_ad b QL) (lw_Z below #[Value.ref b] s) (fun o _ => o = .inl (some (.int 1))) := by
    refine ⟨?_, ?_⟩
    · intro v σ k H locs cells slots sl pc i hQ hri _ _ hc hs _ _ hS' hd
      cases hQ
      rcases hri with ⟨h, _⟩ | ⟨x, ty, h, _, _, rfl⟩ | ⟨x, h, _⟩
      · cases h
      · cases h
        refine va_forget (fun q hq => ?_) ?_
        · rcases hS'.2.2 q hq with ⟨i, hi, z⟩ | z
          · rw [z]; exact hnew i hi
          · exact z
        · refine W.widen (k := 601024) (n := 7293034) ?_ ?_ (lw_ret hx hb hr hlocks hd)
          · have : room_1.cells = 601024 := rfl
            omega
          · have : room_1.slots = 7293034 := rfl
            omega
      · cases h
    · intro n σ U a locs cells slots hQ
      cases hQ
  have hX2 : gv_X (gc_ad b QL) (gv_s0 ((List.range L).map xs)) s := by
    show va_X b ((List.range L).map xs).length (fun j => ((List.range L).map xs).getD j 0) s s.heap
    obtain ⟨scr, z1, z2, z3, z4, z5⟩ := hX
    refine ⟨scr, z1, z2, z3, by rw [z4]; simp, fun j hj => ?_⟩
    rw [List.length_map, List.length_range] at hj
    rw [z5 j hj]
    simp [hj]
  have hS2 : va_S (gv_A (gc_ad b QL) s) s.heap H locs := ⟨hS.1, fun q h1 h2 => hS.2.1 q h1 (fun z => h2 (Or.inr z)), fun q hq => Or.inr (hS.2.2 q hq)⟩
  refine hV p l e room_1 s m #[Value.ref b] below meth c (dC, dI) cA (gc_ad b QL) _ hC hE H locs 67 139984 ls (fun z => by cases z) (by decide) (by decide) hX2 hP2 hS2 ⟨hl.1, hl.2.1, fun q hq => ?_⟩
  refine hl.2.2 q ?_
  have hq2 : q ∈ [(0, Value.ref b), (1, Value.ref (QL.getD 0 0)), (2, Value.ref (QL.getD 41 0)), (3, Value.ref (QL.getD 66 0)), (4, Value.int 0)] := hq
  simp only [List.mem_cons, List.not_mem_nil, or_false] at hq2 ⊢
  rcases hq2 with h | h | h | h | h
  · exact Or.inr (Or.inr (Or.inr (Or.inr h)))
  · exact Or.inr (Or.inr (Or.inr (Or.inl h)))
  · exact Or.inr (Or.inr (Or.inl h))
  · exact Or.inr (Or.inl h)
  · exact Or.inl h
end
section
set_option maxHeartbeats 8000000 in
set_option maxRecDepth 100000 in
theorem gv_bridge {p : Program} {e : Env} {s : State} {m : MethodId} {below : List Frame} {meth : Method} {c : Code} (l : Launch) (hl0 : l.stackTraces = false) {b L : Nat} {xs : Nat → Int32} (C0 : lw_At p s m meth c b L xs) (htab : (c.exceptionTable.toList.map fun h => (h.startPc, h.endPc, h.handlerPc, h.catchType)) = [])
    (hV : gv_V m_L_law 600 false 23 [some (.ref 900), some (.ref 0), some (.ref 41), some (.ref 66), some (.int 0), none, none] [] (gv_s0 ((List.range L).map xs)) (fun o _ => o = .inl (some (.int 1)))) : W p l e room_1 s m #[Value.ref b] below meth c s.heap [] 0 0 (lw_Z below #[Value.ref b] s) (entryFrame m ([Value.ref b] : List Value).toArray 7) := by
  obtain ⟨dC, dI, hK0⟩ := gc_known (gc_hts (gc_Tc C0.2.2.2.2.2.1 C0.2.2.2.2.2.2.2.2.2) #[Value.ref b])
  refine gv_start l hl0 C0 dC dI hK0 (fun H locs ls q1 q2 q3 q4 q5 q6 q7 q8 q9 q10 q11 q12 q13 q14 q15 q16 q17 q18 q19 q20 q21 q22 q23 q24 q25 q26 q27 q28 q29 q30 q31 q32 q33 q34 q35 q36 q37 q38 q39 q40 q41 q42 q43 q44 q45 q46 q47 q48 q49 q50 q51 q52 q53 q54 q55 q56 q57 q58 q59 q60 q61 q62 q63 q64 q65 q66 q67 c2 c4 c5 c6 c7 c8 c9 c10 c12 c13 c15 c17 c18 c19 c20 c21 c23 c24 c25 c26 c28 c29 c30 c31 c32 c33 c35 c36 c37 c38 c40 c41 c43 c44 c45 c46 c47 c48 c49 c50 c51 c52 c53 c54 c55 c56 c57 c58 c59 c60 c61 c62 c63 c64 c65 c66 c67 hP hD hK hS hl => ?_)
  have e_c4 : c4 = c2 := gc_same hK (i := 0) (j := 1) rfl rfl (Or.inl rfl)
  have e_c5 : c5 = c2 := gc_same hK (i := 0) (j := 2) rfl rfl (Or.inl rfl)
  have e_c6 : c6 = c2 := gc_same hK (i := 0) (j := 3) rfl rfl (Or.inl rfl)
  have e_c7 : c7 = c2 := gc_same hK (i := 0) (j := 4) rfl rfl (Or.inl rfl)
  have e_c8 : c8 = c2 := gc_same hK (i := 0) (j := 5) rfl rfl (Or.inl rfl)
  have e_c9 : c9 = c2 := gc_same hK (i := 0) (j := 6) rfl rfl (Or.inl rfl)
  have e_c10 : c10 = c2 := gc_same hK (i := 0) (j := 7) rfl rfl (Or.inl rfl)
  have e_c12 : c12 = c2 := gc_same hK (i := 0) (j := 8) rfl rfl (Or.inl rfl)
  have e_c17 : c17 = c2 := gc_same hK (i := 0) (j := 11) rfl rfl (Or.inl rfl)
  have e_c18 : c18 = c13 := gc_same hK (i := 9) (j := 12) rfl rfl (Or.inr (Or.inl rfl))
  have e_c19 : c19 = c2 := gc_same hK (i := 0) (j := 13) rfl rfl (Or.inl rfl)
  have e_c20 : c20 = c2 := gc_same hK (i := 0) (j := 14) rfl rfl (Or.inl rfl)
  have e_c21 : c21 = c2 := gc_same hK (i := 0) (j := 15) rfl rfl (Or.inl rfl)
  have e_c23 : c23 = c15 := gc_same hK (i := 10) (j := 16) rfl rfl (Or.inr (Or.inr (Or.inl rfl)))
  have e_c24 : c24 = c2 := gc_same hK (i := 0) (j := 17) rfl rfl (Or.inl rfl)
  have e_c25 : c25 = c2 := gc_same hK (i := 0) (j := 18) rfl rfl (Or.inl rfl)
  have e_c26 : c26 = c2 := gc_same hK (i := 0) (j := 19) rfl rfl (Or.inl rfl)
  have e_c28 : c28 = c2 := gc_same hK (i := 0) (j := 20) rfl rfl (Or.inl rfl)
  have e_c29 : c29 = c2 := gc_same hK (i := 0) (j := 21) rfl rfl (Or.inl rfl)
  have e_c30 : c30 = c2 := gc_same hK (i := 0) (j := 22) rfl rfl (Or.inl rfl)
  have e_c32 : c32 = c15 := gc_same hK (i := 10) (j := 24) rfl rfl (Or.inr (Or.inr (Or.inl rfl)))
  have e_c33 : c33 = c15 := gc_same hK (i := 10) (j := 25) rfl rfl (Or.inr (Or.inr (Or.inl rfl)))
  have e_c35 : c35 = c2 := gc_same hK (i := 0) (j := 26) rfl rfl (Or.inl rfl)
  have e_c36 : c36 = c2 := gc_same hK (i := 0) (j := 27) rfl rfl (Or.inl rfl)
  have e_c37 : c37 = c2 := gc_same hK (i := 0) (j := 28) rfl rfl (Or.inl rfl)
  have e_c38 : c38 = c15 := gc_same hK (i := 10) (j := 29) rfl rfl (Or.inr (Or.inr (Or.inl rfl)))
  have e_c40 : c40 = c2 := gc_same hK (i := 0) (j := 30) rfl rfl (Or.inl rfl)
  have e_c41 : c41 = c2 := gc_same hK (i := 0) (j := 31) rfl rfl (Or.inl rfl)
  have e_c43 : c43 = c2 := gc_same hK (i := 0) (j := 32) rfl rfl (Or.inl rfl)
  have e_c44 : c44 = c2 := gc_same hK (i := 0) (j := 33) rfl rfl (Or.inl rfl)
  have e_c45 : c45 = c2 := gc_same hK (i := 0) (j := 34) rfl rfl (Or.inl rfl)
  have e_c46 : c46 = c2 := gc_same hK (i := 0) (j := 35) rfl rfl (Or.inl rfl)
  have e_c47 : c47 = c15 := gc_same hK (i := 10) (j := 36) rfl rfl (Or.inr (Or.inr (Or.inl rfl)))
  have e_c48 : c48 = c2 := gc_same hK (i := 0) (j := 37) rfl rfl (Or.inl rfl)
  have e_c49 : c49 = c2 := gc_same hK (i := 0) (j := 38) rfl rfl (Or.inl rfl)
  have e_c50 : c50 = c2 := gc_same hK (i := 0) (j := 39) rfl rfl (Or.inl rfl)
  have e_c51 : c51 = c2 := gc_same hK (i := 0) (j := 40) rfl rfl (Or.inl rfl)
  have e_c52 : c52 = c2 := gc_same hK (i := 0) (j := 41) rfl rfl (Or.inl rfl)
  have e_c53 : c53 = c31 := gc_same hK (i := 23) (j := 42) rfl rfl (Or.inr (Or.inr (Or.inr rfl)))
  have e_c54 : c54 = c31 := gc_same hK (i := 23) (j := 43) rfl rfl (Or.inr (Or.inr (Or.inr rfl)))
  have e_c55 : c55 = c31 := gc_same hK (i := 23) (j := 44) rfl rfl (Or.inr (Or.inr (Or.inr rfl)))
  have e_c56 : c56 = c31 := gc_same hK (i := 23) (j := 45) rfl rfl (Or.inr (Or.inr (Or.inr rfl)))
  have e_c57 : c57 = c31 := gc_same hK (i := 23) (j := 46) rfl rfl (Or.inr (Or.inr (Or.inr rfl)))
  have e_c58 : c58 = c2 := gc_same hK (i := 0) (j := 47) rfl rfl (Or.inl rfl)
  have e_c59 : c59 = c2 := gc_same hK (i := 0) (j := 48) rfl rfl (Or.inl rfl)
  have e_c60 : c60 = c31 := gc_same hK (i := 23) (j := 49) rfl rfl (Or.inr (Or.inr (Or.inr rfl)))
  have e_c61 : c61 = c31 := gc_same hK (i := 23) (j := 50) rfl rfl (Or.inr (Or.inr (Or.inr rfl)))
  have e_c62 : c62 = c2 := gc_same hK (i := 0) (j := 51) rfl rfl (Or.inl rfl)
  have e_c63 : c63 = c2 := gc_same hK (i := 0) (j := 52) rfl rfl (Or.inl rfl)
  have e_c64 : c64 = c31 := gc_same hK (i := 23) (j := 53) rfl rfl (Or.inr (Or.inr (Or.inr rfl)))
  have e_c65 : c65 = c2 := gc_same hK (i := 0) (j := 54) rfl rfl (Or.inl rfl)
  have e_c66 : c66 = c2 := gc_same hK (i := 0) (j := 55) rfl rfl (Or.inl rfl)
  have e_c67 : c67 = c15 := gc_same hK (i := 10) (j := 56) rfl rfl (Or.inr (Or.inr (Or.inl rfl)))
  simp only [e_c4, e_c5, e_c6, e_c7, e_c8, e_c9, e_c10, e_c12, e_c17, e_c18, e_c19, e_c20, e_c21, e_c23, e_c24, e_c25, e_c26, e_c28, e_c29, e_c30, e_c32, e_c33, e_c35, e_c36, e_c37, e_c38, e_c40, e_c41, e_c43, e_c44, e_c45, e_c46, e_c47, e_c48, e_c49, e_c50, e_c51, e_c52, e_c53, e_c54, e_c55, e_c56, e_c57, e_c58, e_c59, e_c60, e_c61, e_c62, e_c63, e_c64, e_c65, e_c66, e_c67] at hP
  exact gc_fin l hl0 C0 htab hV (cA := (gc_cA c2 c13 c31 c15)) (hK.sub (tys' := gv_ty (gc_cA c2 c13 c31 c15)) [0, 9, 23, 10] rfl) (QL := [q1, q2, q3, q4, q5, q6, q7, q8, q9, q10, q11, q12, q13, q14, q15, q16, q17, q18, q19, q20, q21, q22, q23, q24, q25, q26, q27, q28, q29, q30, q31, q32, q33, q34, q35, q36, q37, q38, q39, q40, q41, q42, q43, q44, q45, q46, q47, q48, q49, q50, q51, q52, q53, q54, q55, q56, q57, q58, q59, q60, q61, q62, q63, q64, q65, q66, q67]) rfl (gc_inj rfl hD) (gc_P1 hP) hS hl
end
section
theorem gv_keep {μ : gM} {k k' pc : Nat} {w : Bool} {ls : List (Option Value)} {st : List Value} {σ : gS} {Q : gQ → gS → Prop} (hk : k ≤ k') (h : gv_V μ k w pc ls st σ Q) : gv_V μ k' w pc ls st σ Q := by
  intro p l e R s m args below meth c D cA ad Z hC hE H locs cells slots sl hw0 hc hs hX hP hS hl
  exact h p l e R s m args below meth c D cA ad Z hC hE H locs cells slots sl hw0 (by omega) (by omega) hX hP hS hl
set_option maxRecDepth 20000 in
theorem hr_again (i j : Int32) (r : Int32) {σ σ1 : gS} (h : gv_K m_G_again [.ref 0, .int i, .int j] σ (gv_is (.inl (some (.int r))) σ1)) : gv_K m_L_again [.ref 0, .int i, .int j, .ref 66] σ (gv_is (.inl (some (.int 0))) (gs_L σ1 66 0 r.toInt64)) := by
  refine gv_aload_n (n := 3) (pc' := 1) (by decide +kernel) rfl rfl ?_
  refine gv_iconst (n := 0) (v := 0) (pc' := 2) (by decide +kernel) (by decide) rfl ?_
  refine gv_aload_n (n := 0) (pc' := 3) (by decide +kernel) rfl rfl ?_
  refine gv_iload_n (n := 1) (pc' := 4) (by decide +kernel) rfl rfl ?_
  refine gv_iload_n (n := 2) (pc' := 5) (by decide +kernel) rfl rfl ?_
  refine gv_callC (k' := 1) (w' := false) (gv_mkV (by decide) md_G_again (Or.inl ml_12_7) vd_G_again) h (by decide +kernel) rfl rfl rfl (Nat.le_of_ble_eq_true rfl) (Nat.le_of_ble_eq_true rfl) (by decide) rfl (fun z => by cases z) rfl rfl (by decide) (pc' := 8) rfl (fun n σ' z => by cases z.1) (fun v σ' z => ?_)
  obtain ⟨z1, rfl⟩ := z
  cases z1
  refine gv_i2l (pc' := 9) (by decide +kernel) rfl ?_
  refine gj_last (0) (pc' := 10) (by decide +kernel) rfl (by decide) rfl rfl ?_
  refine gv_goto (off := 7) (tgt := 17) (by decide +kernel) (by decide) ?_
  refine gv_iconst (n := 0) (v := 0) (pc' := 18) (by decide +kernel) (by decide) rfl ?_
  exact gv_iret .int (by decide +kernel) rfl rfl (by decide) (by decide) (gv_isr _ _)
theorem hc_again_3 : gv_ct m_L_again 5 3 13 1 := ⟨[], 0, 10, 13, [], rfl, (fun y hy => by cases hy), ⟨by decide, by decide⟩, by decide, ⟨"java/lang/IllegalArgumentException", gv_i2 231 rfl rfl, gv_i2 238 rfl rfl⟩, 4, 2, 1, by decide, (Or.inr ⟨rfl, by decide +kernel⟩), by decide +kernel, by decide, by decide +kernel⟩
set_option maxRecDepth 20000 in
theorem ht_again_3 (i j : Int32) {σ σ1 : gS} (h : gv_K m_G_again [.ref 0, .int i, .int j] σ (gv_is (.inr 3) σ1)) : gv_K m_L_again [.ref 0, .int i, .int j, .ref 66] σ (gv_is (.inl (some (.int 1))) σ1) := by
  refine gv_aload_n (n := 3) (pc' := 1) (by decide +kernel) rfl rfl ?_
  refine gv_iconst (n := 0) (v := 0) (pc' := 2) (by decide +kernel) (by decide) rfl ?_
  refine gv_aload_n (n := 0) (pc' := 3) (by decide +kernel) rfl rfl ?_
  refine gv_iload_n (n := 1) (pc' := 4) (by decide +kernel) rfl rfl ?_
  refine gv_iload_n (n := 2) (pc' := 5) (by decide +kernel) rfl rfl ?_
  refine gv_callC (k' := 1) (w' := false) (gv_mkV (by decide) md_G_again (Or.inl ml_12_7) vd_G_again) h (by decide +kernel) rfl rfl rfl (Nat.le_of_ble_eq_true rfl) (Nat.le_of_ble_eq_true rfl) (by decide) rfl (fun z => by cases z) rfl rfl (by decide) (pc' := 8) rfl (fun n σ' z => ?_) (fun v σ' z => by cases z.1)
  obtain ⟨z1, rfl⟩ := z
  cases z1
  exact ⟨13, 1, hc_again_3, gv_isr _ _⟩
set_option maxRecDepth 20000 in
theorem hr_decoded (i j : Int32) (r : Int32) {σ σ1 : gS} (h : gv_K m_G_decoded [.ref 0, .int i, .int j] σ (gv_is (.inl (some (.int r))) σ1)) : gv_K m_L_decoded [.ref 0, .int i, .int j, .ref 66] σ (gv_is (.inl (some (.int 0))) (gs_L σ1 66 0 r.toInt64)) := by
  refine gv_aload_n (n := 3) (pc' := 1) (by decide +kernel) rfl rfl ?_
  refine gv_iconst (n := 0) (v := 0) (pc' := 2) (by decide +kernel) (by decide) rfl ?_
  refine gv_aload_n (n := 0) (pc' := 3) (by decide +kernel) rfl rfl ?_
  refine gv_iload_n (n := 1) (pc' := 4) (by decide +kernel) rfl rfl ?_
  refine gv_iload_n (n := 2) (pc' := 5) (by decide +kernel) rfl rfl ?_
  refine gv_callC (k' := 1) (w' := false) (gv_mkV (by decide) md_G_decoded (Or.inl ml_12_15) vd_G_decoded) h (by decide +kernel) rfl rfl rfl (Nat.le_of_ble_eq_true rfl) (Nat.le_of_ble_eq_true rfl) (by decide) rfl (fun z => by cases z) rfl rfl (by decide) (pc' := 8) rfl (fun n σ' z => by cases z.1) (fun v σ' z => ?_)
  obtain ⟨z1, rfl⟩ := z
  cases z1
  refine gv_i2l (pc' := 9) (by decide +kernel) rfl ?_
  refine gj_last (0) (pc' := 10) (by decide +kernel) rfl (by decide) rfl rfl ?_
  refine gv_goto (off := 15) (tgt := 25) (by decide +kernel) (by decide) ?_
  refine gv_iconst (n := 0) (v := 0) (pc' := 26) (by decide +kernel) (by decide) rfl ?_
  exact gv_iret .int (by decide +kernel) rfl rfl (by decide) (by decide) (gv_isr _ _)
theorem hc_decoded_1 : gv_ct m_L_decoded 5 1 13 1 := ⟨[], 0, 10, 18, [(0, 10, 17, 20), (0, 10, 21, 13)], rfl, (fun y hy => by cases hy), ⟨by decide, by decide⟩, by decide, ⟨"java/lang/IllegalStateException", gv_i3 65 rfl rfl, gv_i3 77 rfl rfl⟩, 4, 2, 1, by decide, (Or.inr ⟨rfl, by decide +kernel⟩), by decide +kernel, by decide, by decide +kernel⟩
set_option maxRecDepth 20000 in
theorem ht_decoded_1 (i j : Int32) {σ σ1 : gS} (h : gv_K m_G_decoded [.ref 0, .int i, .int j] σ (gv_is (.inr 1) σ1)) : gv_K m_L_decoded [.ref 0, .int i, .int j, .ref 66] σ (gv_is (.inl (some (.int 1))) σ1) := by
  refine gv_aload_n (n := 3) (pc' := 1) (by decide +kernel) rfl rfl ?_
  refine gv_iconst (n := 0) (v := 0) (pc' := 2) (by decide +kernel) (by decide) rfl ?_
  refine gv_aload_n (n := 0) (pc' := 3) (by decide +kernel) rfl rfl ?_
  refine gv_iload_n (n := 1) (pc' := 4) (by decide +kernel) rfl rfl ?_
  refine gv_iload_n (n := 2) (pc' := 5) (by decide +kernel) rfl rfl ?_
  refine gv_callC (k' := 1) (w' := false) (gv_mkV (by decide) md_G_decoded (Or.inl ml_12_15) vd_G_decoded) h (by decide +kernel) rfl rfl rfl (Nat.le_of_ble_eq_true rfl) (Nat.le_of_ble_eq_true rfl) (by decide) rfl (fun z => by cases z) rfl rfl (by decide) (pc' := 8) rfl (fun n σ' z => ?_) (fun v σ' z => by cases z.1)
  obtain ⟨z1, rfl⟩ := z
  cases z1
  exact ⟨13, 1, hc_decoded_1, gv_isr _ _⟩
theorem hc_decoded_2 : gv_ct m_L_decoded 5 2 17 2 := ⟨[(0, 10, 13, 18)], 0, 10, 20, [(0, 10, 21, 13)], rfl, (List.forall_mem_cons.mpr ⟨⟨⟨by decide, by decide⟩, by decide, "java/lang/IllegalStateException", gv_i3 65 rfl rfl, gv_inn 2 rfl⟩, (fun y hy => by cases hy)⟩), ⟨by decide, by decide⟩, by decide, ⟨"java/lang/IndexOutOfBoundsException", gv_i3 66 rfl rfl, gv_i3 96 rfl rfl⟩, 4, 2, 2, by decide, (Or.inr ⟨rfl, by decide +kernel⟩), by decide +kernel, by decide, by decide +kernel⟩
set_option maxRecDepth 20000 in
theorem ht_decoded_2 (i j : Int32) {σ σ1 : gS} (h : gv_K m_G_decoded [.ref 0, .int i, .int j] σ (gv_is (.inr 2) σ1)) : gv_K m_L_decoded [.ref 0, .int i, .int j, .ref 66] σ (gv_is (.inl (some (.int 2))) σ1) := by
  refine gv_aload_n (n := 3) (pc' := 1) (by decide +kernel) rfl rfl ?_
  refine gv_iconst (n := 0) (v := 0) (pc' := 2) (by decide +kernel) (by decide) rfl ?_
  refine gv_aload_n (n := 0) (pc' := 3) (by decide +kernel) rfl rfl ?_
  refine gv_iload_n (n := 1) (pc' := 4) (by decide +kernel) rfl rfl ?_
  refine gv_iload_n (n := 2) (pc' := 5) (by decide +kernel) rfl rfl ?_
  refine gv_callC (k' := 1) (w' := false) (gv_mkV (by decide) md_G_decoded (Or.inl ml_12_15) vd_G_decoded) h (by decide +kernel) rfl rfl rfl (Nat.le_of_ble_eq_true rfl) (Nat.le_of_ble_eq_true rfl) (by decide) rfl (fun z => by cases z) rfl rfl (by decide) (pc' := 8) rfl (fun n σ' z => ?_) (fun v σ' z => by cases z.1)
  obtain ⟨z1, rfl⟩ := z
  cases z1
  exact ⟨17, 2, hc_decoded_2, gv_isr _ _⟩
theorem hc_decoded_3 : gv_ct m_L_decoded 5 3 21 3 := ⟨[(0, 10, 13, 18), (0, 10, 17, 20)], 0, 10, 13, [], rfl, (List.forall_mem_cons.mpr ⟨⟨⟨by decide, by decide⟩, by decide, "java/lang/IllegalStateException", gv_i3 65 rfl rfl, gv_inn 4 rfl⟩, (List.forall_mem_cons.mpr ⟨⟨⟨by decide, by decide⟩, by decide, "java/lang/IndexOutOfBoundsException", gv_i3 66 rfl rfl, gv_inn 5 rfl⟩, (fun y hy => by cases hy)⟩)⟩), ⟨by decide, by decide⟩, by decide, ⟨"java/lang/IllegalArgumentException", gv_i2 231 rfl rfl, gv_i2 238 rfl rfl⟩, 4, 2, 3, by decide, (Or.inr ⟨rfl, by decide +kernel⟩), by decide +kernel, by decide, by decide +kernel⟩
set_option maxRecDepth 20000 in
theorem ht_decoded_3 (i j : Int32) {σ σ1 : gS} (h : gv_K m_G_decoded [.ref 0, .int i, .int j] σ (gv_is (.inr 3) σ1)) : gv_K m_L_decoded [.ref 0, .int i, .int j, .ref 66] σ (gv_is (.inl (some (.int 3))) σ1) := by
  refine gv_aload_n (n := 3) (pc' := 1) (by decide +kernel) rfl rfl ?_
  refine gv_iconst (n := 0) (v := 0) (pc' := 2) (by decide +kernel) (by decide) rfl ?_
  refine gv_aload_n (n := 0) (pc' := 3) (by decide +kernel) rfl rfl ?_
  refine gv_iload_n (n := 1) (pc' := 4) (by decide +kernel) rfl rfl ?_
  refine gv_iload_n (n := 2) (pc' := 5) (by decide +kernel) rfl rfl ?_
  refine gv_callC (k' := 1) (w' := false) (gv_mkV (by decide) md_G_decoded (Or.inl ml_12_15) vd_G_decoded) h (by decide +kernel) rfl rfl rfl (Nat.le_of_ble_eq_true rfl) (Nat.le_of_ble_eq_true rfl) (by decide) rfl (fun z => by cases z) rfl rfl (by decide) (pc' := 8) rfl (fun n σ' z => ?_) (fun v σ' z => by cases z.1)
  obtain ⟨z1, rfl⟩ := z
  cases z1
  exact ⟨21, 3, hc_decoded_3, gv_isr _ _⟩
set_option maxRecDepth 20000 in
theorem hr_set (i j : Int32) {σ σ1 : gS} (h : gv_K m_G_set [.ref 0, .int i, .int j] σ (gv_is (.inl none) σ1)) : gv_K m_L_set [.ref 0, .int i, .int j] σ (gv_is (.inl (some (.int 0))) σ1) := by
  refine gv_aload_n (n := 0) (pc' := 1) (by decide +kernel) rfl rfl ?_
  refine gv_iload_n (n := 1) (pc' := 2) (by decide +kernel) rfl rfl ?_
  refine gv_iload_n (n := 2) (pc' := 3) (by decide +kernel) rfl rfl ?_
  refine gv_callC (k' := 1) (w' := false) (gv_mkV (by decide) md_G_set (Or.inl ml_12_22) vd_G_set) h (by decide +kernel) rfl rfl rfl (Nat.le_of_ble_eq_true rfl) (Nat.le_of_ble_eq_true rfl) (by decide) rfl (fun z => by cases z) rfl rfl (by decide) (pc' := 6) rfl (fun n σ' z => by cases z.1) (fun v σ' z => ?_)
  obtain ⟨z1, rfl⟩ := z
  cases z1
  refine gv_goto (off := 9) (tgt := 15) (by decide +kernel) (by decide) ?_
  refine gv_iconst (n := 0) (v := 0) (pc' := 16) (by decide +kernel) (by decide) rfl ?_
  exact gv_iret .int (by decide +kernel) rfl rfl (by decide) (by decide) (gv_isr _ _)
theorem hc_set_1 : gv_ct m_L_set 3 1 9 1 := ⟨[], 0, 6, 18, [(0, 6, 12, 13)], rfl, (fun y hy => by cases hy), ⟨by decide, by decide⟩, by decide, ⟨"java/lang/IllegalStateException", gv_i3 65 rfl rfl, gv_i3 77 rfl rfl⟩, 3, 1, 1, by decide, (Or.inl ⟨3, rfl, rfl, by decide +kernel⟩), by decide +kernel, by decide, by decide +kernel⟩
set_option maxRecDepth 20000 in
theorem ht_set_1 (i j : Int32) {σ σ1 : gS} (h : gv_K m_G_set [.ref 0, .int i, .int j] σ (gv_is (.inr 1) σ1)) : gv_K m_L_set [.ref 0, .int i, .int j] σ (gv_is (.inl (some (.int 1))) σ1) := by
  refine gv_aload_n (n := 0) (pc' := 1) (by decide +kernel) rfl rfl ?_
  refine gv_iload_n (n := 1) (pc' := 2) (by decide +kernel) rfl rfl ?_
  refine gv_iload_n (n := 2) (pc' := 3) (by decide +kernel) rfl rfl ?_
  refine gv_callC (k' := 1) (w' := false) (gv_mkV (by decide) md_G_set (Or.inl ml_12_22) vd_G_set) h (by decide +kernel) rfl rfl rfl (Nat.le_of_ble_eq_true rfl) (Nat.le_of_ble_eq_true rfl) (by decide) rfl (fun z => by cases z) rfl rfl (by decide) (pc' := 6) rfl (fun n σ' z => ?_) (fun v σ' z => by cases z.1)
  obtain ⟨z1, rfl⟩ := z
  cases z1
  exact ⟨9, 1, hc_set_1, gv_isr _ _⟩
theorem hc_set_3 : gv_ct m_L_set 3 3 12 2 := ⟨[(0, 6, 9, 18)], 0, 6, 13, [], rfl, (List.forall_mem_cons.mpr ⟨⟨⟨by decide, by decide⟩, by decide, "java/lang/IllegalStateException", gv_i3 65 rfl rfl, gv_inn 4 rfl⟩, (fun y hy => by cases hy)⟩), ⟨by decide, by decide⟩, by decide, ⟨"java/lang/IllegalArgumentException", gv_i2 231 rfl rfl, gv_i2 238 rfl rfl⟩, 3, 1, 2, by decide, (Or.inl ⟨3, rfl, rfl, by decide +kernel⟩), by decide +kernel, by decide, by decide +kernel⟩
set_option maxRecDepth 20000 in
theorem ht_set_3 (i j : Int32) {σ σ1 : gS} (h : gv_K m_G_set [.ref 0, .int i, .int j] σ (gv_is (.inr 3) σ1)) : gv_K m_L_set [.ref 0, .int i, .int j] σ (gv_is (.inl (some (.int 2))) σ1) := by
  refine gv_aload_n (n := 0) (pc' := 1) (by decide +kernel) rfl rfl ?_
  refine gv_iload_n (n := 1) (pc' := 2) (by decide +kernel) rfl rfl ?_
  refine gv_iload_n (n := 2) (pc' := 3) (by decide +kernel) rfl rfl ?_
  refine gv_callC (k' := 1) (w' := false) (gv_mkV (by decide) md_G_set (Or.inl ml_12_22) vd_G_set) h (by decide +kernel) rfl rfl rfl (Nat.le_of_ble_eq_true rfl) (Nat.le_of_ble_eq_true rfl) (by decide) rfl (fun z => by cases z) rfl rfl (by decide) (pc' := 6) rfl (fun n σ' z => ?_) (fun v σ' z => by cases z.1)
  obtain ⟨z1, rfl⟩ := z
  cases z1
  exact ⟨12, 2, hc_set_3, gv_isr _ _⟩
set_option maxRecDepth 20000 in
theorem hr_register (i : Int32) (r : Int32) {σ σ1 : gS} (h : gv_K m_G_register [.ref 0, .int i] σ (gv_is (.inl (some (.int r))) σ1)) : gv_K m_L_register [.ref 0, .int i, .ref 66] σ (gv_is (.inl (some (.int 0))) (gs_L σ1 66 0 r.toInt64)) := by
  refine gv_aload_n (n := 2) (pc' := 1) (by decide +kernel) rfl rfl ?_
  refine gv_iconst (n := 0) (v := 0) (pc' := 2) (by decide +kernel) (by decide) rfl ?_
  refine gv_aload_n (n := 0) (pc' := 3) (by decide +kernel) rfl rfl ?_
  refine gv_iload_n (n := 1) (pc' := 4) (by decide +kernel) rfl rfl ?_
  refine gv_callC (k' := 1) (w' := false) (gv_mkV (by decide) md_G_register (Or.inl ml_12_26) vd_G_register) h (by decide +kernel) rfl rfl rfl (Nat.le_of_ble_eq_true rfl) (Nat.le_of_ble_eq_true rfl) (by decide) rfl (fun z => by cases z) rfl rfl (by decide) (pc' := 7) rfl (fun n σ' z => by cases z.1) (fun v σ' z => ?_)
  obtain ⟨z1, rfl⟩ := z
  cases z1
  refine gv_i2l (pc' := 8) (by decide +kernel) rfl ?_
  refine gj_last (0) (pc' := 9) (by decide +kernel) rfl (by decide) rfl rfl ?_
  refine gv_goto (off := 9) (tgt := 18) (by decide +kernel) (by decide) ?_
  refine gv_iconst (n := 0) (v := 0) (pc' := 19) (by decide +kernel) (by decide) rfl ?_
  exact gv_iret .int (by decide +kernel) rfl rfl (by decide) (by decide) (gv_isr _ _)
theorem hc_register_1 : gv_ct m_L_register 4 1 12 1 := ⟨[], 0, 9, 18, [(0, 9, 15, 13)], rfl, (fun y hy => by cases hy), ⟨by decide, by decide⟩, by decide, ⟨"java/lang/IllegalStateException", gv_i3 65 rfl rfl, gv_i3 77 rfl rfl⟩, 3, 1, 1, by decide, (Or.inl ⟨3, rfl, rfl, by decide +kernel⟩), by decide +kernel, by decide, by decide +kernel⟩
set_option maxRecDepth 20000 in
theorem ht_register_1 (i : Int32) {σ σ1 : gS} (h : gv_K m_G_register [.ref 0, .int i] σ (gv_is (.inr 1) σ1)) : gv_K m_L_register [.ref 0, .int i, .ref 66] σ (gv_is (.inl (some (.int 1))) σ1) := by
  refine gv_aload_n (n := 2) (pc' := 1) (by decide +kernel) rfl rfl ?_
  refine gv_iconst (n := 0) (v := 0) (pc' := 2) (by decide +kernel) (by decide) rfl ?_
  refine gv_aload_n (n := 0) (pc' := 3) (by decide +kernel) rfl rfl ?_
  refine gv_iload_n (n := 1) (pc' := 4) (by decide +kernel) rfl rfl ?_
  refine gv_callC (k' := 1) (w' := false) (gv_mkV (by decide) md_G_register (Or.inl ml_12_26) vd_G_register) h (by decide +kernel) rfl rfl rfl (Nat.le_of_ble_eq_true rfl) (Nat.le_of_ble_eq_true rfl) (by decide) rfl (fun z => by cases z) rfl rfl (by decide) (pc' := 7) rfl (fun n σ' z => ?_) (fun v σ' z => by cases z.1)
  obtain ⟨z1, rfl⟩ := z
  cases z1
  exact ⟨12, 1, hc_register_1, gv_isr _ _⟩
theorem hc_register_3 : gv_ct m_L_register 4 3 15 2 := ⟨[(0, 9, 12, 18)], 0, 9, 13, [], rfl, (List.forall_mem_cons.mpr ⟨⟨⟨by decide, by decide⟩, by decide, "java/lang/IllegalStateException", gv_i3 65 rfl rfl, gv_inn 4 rfl⟩, (fun y hy => by cases hy)⟩), ⟨by decide, by decide⟩, by decide, ⟨"java/lang/IllegalArgumentException", gv_i2 231 rfl rfl, gv_i2 238 rfl rfl⟩, 3, 1, 2, by decide, (Or.inl ⟨3, rfl, rfl, by decide +kernel⟩), by decide +kernel, by decide, by decide +kernel⟩
set_option maxRecDepth 20000 in
theorem ht_register_3 (i : Int32) {σ σ1 : gS} (h : gv_K m_G_register [.ref 0, .int i] σ (gv_is (.inr 3) σ1)) : gv_K m_L_register [.ref 0, .int i, .ref 66] σ (gv_is (.inl (some (.int 2))) σ1) := by
  refine gv_aload_n (n := 2) (pc' := 1) (by decide +kernel) rfl rfl ?_
  refine gv_iconst (n := 0) (v := 0) (pc' := 2) (by decide +kernel) (by decide) rfl ?_
  refine gv_aload_n (n := 0) (pc' := 3) (by decide +kernel) rfl rfl ?_
  refine gv_iload_n (n := 1) (pc' := 4) (by decide +kernel) rfl rfl ?_
  refine gv_callC (k' := 1) (w' := false) (gv_mkV (by decide) md_G_register (Or.inl ml_12_26) vd_G_register) h (by decide +kernel) rfl rfl rfl (Nat.le_of_ble_eq_true rfl) (Nat.le_of_ble_eq_true rfl) (by decide) rfl (fun z => by cases z) rfl rfl (by decide) (pc' := 7) rfl (fun n σ' z => ?_) (fun v σ' z => by cases z.1)
  obtain ⟨z1, rfl⟩ := z
  cases z1
  exact ⟨15, 2, hc_register_3, gv_isr _ _⟩
set_option maxRecDepth 20000 in
theorem hr_poke (i j : Int32) {σ σ1 : gS} (h : gv_K m_G_poke [.ref 0, .int i, .int j] σ (gv_is (.inl none) σ1)) : gv_K m_L_poke [.ref 0, .int i, .int j] σ (gv_is (.inl (some (.int 0))) σ1) := by
  refine gv_aload_n (n := 0) (pc' := 1) (by decide +kernel) rfl rfl ?_
  refine gv_iload_n (n := 1) (pc' := 2) (by decide +kernel) rfl rfl ?_
  refine gv_iload_n (n := 2) (pc' := 3) (by decide +kernel) rfl rfl ?_
  refine gv_callC (k' := 1) (w' := false) (gv_mkV (by decide) md_G_poke (Or.inl ml_12_30) vd_G_poke) h (by decide +kernel) rfl rfl rfl (Nat.le_of_ble_eq_true rfl) (Nat.le_of_ble_eq_true rfl) (by decide) rfl (fun z => by cases z) rfl rfl (by decide) (pc' := 6) rfl (fun n σ' z => by cases z.1) (fun v σ' z => ?_)
  obtain ⟨z1, rfl⟩ := z
  cases z1
  refine gv_goto (off := 6) (tgt := 12) (by decide +kernel) (by decide) ?_
  refine gv_iconst (n := 0) (v := 0) (pc' := 13) (by decide +kernel) (by decide) rfl ?_
  exact gv_iret .int (by decide +kernel) rfl rfl (by decide) (by decide) (gv_isr _ _)
theorem hc_poke_1 : gv_ct m_L_poke 3 1 9 1 := ⟨[], 0, 6, 18, [], rfl, (fun y hy => by cases hy), ⟨by decide, by decide⟩, by decide, ⟨"java/lang/IllegalStateException", gv_i3 65 rfl rfl, gv_i3 77 rfl rfl⟩, 3, 1, 1, by decide, (Or.inl ⟨3, rfl, rfl, by decide +kernel⟩), by decide +kernel, by decide, by decide +kernel⟩
set_option maxRecDepth 20000 in
theorem ht_poke_1 (i j : Int32) {σ σ1 : gS} (h : gv_K m_G_poke [.ref 0, .int i, .int j] σ (gv_is (.inr 1) σ1)) : gv_K m_L_poke [.ref 0, .int i, .int j] σ (gv_is (.inl (some (.int 1))) σ1) := by
  refine gv_aload_n (n := 0) (pc' := 1) (by decide +kernel) rfl rfl ?_
  refine gv_iload_n (n := 1) (pc' := 2) (by decide +kernel) rfl rfl ?_
  refine gv_iload_n (n := 2) (pc' := 3) (by decide +kernel) rfl rfl ?_
  refine gv_callC (k' := 1) (w' := false) (gv_mkV (by decide) md_G_poke (Or.inl ml_12_30) vd_G_poke) h (by decide +kernel) rfl rfl rfl (Nat.le_of_ble_eq_true rfl) (Nat.le_of_ble_eq_true rfl) (by decide) rfl (fun z => by cases z) rfl rfl (by decide) (pc' := 6) rfl (fun n σ' z => ?_) (fun v σ' z => by cases z.1)
  obtain ⟨z1, rfl⟩ := z
  cases z1
  exact ⟨9, 1, hc_poke_1, gv_isr _ _⟩
set_option maxRecDepth 20000 in
theorem hr_peek (i : Int32) (r : Int32) {σ σ1 : gS} (h : gv_K m_G_peek [.ref 0, .int i] σ (gv_is (.inl (some (.int r))) σ1)) : gv_K m_L_peek [.ref 0, .int i, .ref 66] σ (gv_is (.inl (some (.int 0))) (gs_L σ1 66 0 r.toInt64)) := by
  refine gv_aload_n (n := 2) (pc' := 1) (by decide +kernel) rfl rfl ?_
  refine gv_iconst (n := 0) (v := 0) (pc' := 2) (by decide +kernel) (by decide) rfl ?_
  refine gv_aload_n (n := 0) (pc' := 3) (by decide +kernel) rfl rfl ?_
  refine gv_iload_n (n := 1) (pc' := 4) (by decide +kernel) rfl rfl ?_
  refine gv_callC (k' := 1) (w' := false) (gv_mkV (by decide) md_G_peek (Or.inl ml_12_33) vd_G_peek) h (by decide +kernel) rfl rfl rfl (Nat.le_of_ble_eq_true rfl) (Nat.le_of_ble_eq_true rfl) (by decide) rfl (fun z => by cases z) rfl rfl (by decide) (pc' := 7) rfl (fun n σ' z => by cases z.1) (fun v σ' z => ?_)
  obtain ⟨z1, rfl⟩ := z
  cases z1
  refine gv_i2l (pc' := 8) (by decide +kernel) rfl ?_
  refine gj_last (0) (pc' := 9) (by decide +kernel) rfl (by decide) rfl rfl ?_
  refine gv_goto (off := 6) (tgt := 15) (by decide +kernel) (by decide) ?_
  refine gv_iconst (n := 0) (v := 0) (pc' := 16) (by decide +kernel) (by decide) rfl ?_
  exact gv_iret .int (by decide +kernel) rfl rfl (by decide) (by decide) (gv_isr _ _)
theorem hc_peek_1 : gv_ct m_L_peek 4 1 12 1 := ⟨[], 0, 9, 18, [], rfl, (fun y hy => by cases hy), ⟨by decide, by decide⟩, by decide, ⟨"java/lang/IllegalStateException", gv_i3 65 rfl rfl, gv_i3 77 rfl rfl⟩, 3, 1, 1, by decide, (Or.inl ⟨3, rfl, rfl, by decide +kernel⟩), by decide +kernel, by decide, by decide +kernel⟩
set_option maxRecDepth 20000 in
theorem ht_peek_1 (i : Int32) {σ σ1 : gS} (h : gv_K m_G_peek [.ref 0, .int i] σ (gv_is (.inr 1) σ1)) : gv_K m_L_peek [.ref 0, .int i, .ref 66] σ (gv_is (.inl (some (.int 1))) σ1) := by
  refine gv_aload_n (n := 2) (pc' := 1) (by decide +kernel) rfl rfl ?_
  refine gv_iconst (n := 0) (v := 0) (pc' := 2) (by decide +kernel) (by decide) rfl ?_
  refine gv_aload_n (n := 0) (pc' := 3) (by decide +kernel) rfl rfl ?_
  refine gv_iload_n (n := 1) (pc' := 4) (by decide +kernel) rfl rfl ?_
  refine gv_callC (k' := 1) (w' := false) (gv_mkV (by decide) md_G_peek (Or.inl ml_12_33) vd_G_peek) h (by decide +kernel) rfl rfl rfl (Nat.le_of_ble_eq_true rfl) (Nat.le_of_ble_eq_true rfl) (by decide) rfl (fun z => by cases z) rfl rfl (by decide) (pc' := 7) rfl (fun n σ' z => ?_) (fun v σ' z => by cases z.1)
  obtain ⟨z1, rfl⟩ := z
  cases z1
  exact ⟨12, 1, hc_peek_1, gv_isr _ _⟩
set_option maxRecDepth 20000 in
theorem hr_run (i : Int32) (r : Int32) {σ σ1 : gS} (h : gv_K m_G_run [.ref 0, .int i] σ (gv_is (.inl (some (.int r))) σ1)) : gv_K m_L_run [.ref 0, .int i, .ref 66] σ (gv_is (.inl (some (.int 0))) (gs_L σ1 66 0 r.toInt64)) := by
  refine gv_aload_n (n := 2) (pc' := 1) (by decide +kernel) rfl rfl ?_
  refine gv_iconst (n := 0) (v := 0) (pc' := 2) (by decide +kernel) (by decide) rfl ?_
  refine gv_aload_n (n := 0) (pc' := 3) (by decide +kernel) rfl rfl ?_
  refine gv_iload_n (n := 1) (pc' := 4) (by decide +kernel) rfl rfl ?_
  refine gv_callC (k' := 1) (w' := false) (gv_mkV (by decide) md_G_run (Or.inl ml_12_36) vd_G_run) h (by decide +kernel) rfl rfl rfl (Nat.le_of_ble_eq_true rfl) (Nat.le_of_ble_eq_true rfl) (by decide) rfl (fun z => by cases z) rfl rfl (by decide) (pc' := 7) rfl (fun n σ' z => by cases z.1) (fun v σ' z => ?_)
  obtain ⟨z1, rfl⟩ := z
  cases z1
  refine gv_i2l (pc' := 8) (by decide +kernel) rfl ?_
  refine gj_last (0) (pc' := 9) (by decide +kernel) rfl (by decide) rfl rfl ?_
  refine gv_goto (off := 9) (tgt := 18) (by decide +kernel) (by decide) ?_
  refine gv_iconst (n := 0) (v := 0) (pc' := 19) (by decide +kernel) (by decide) rfl ?_
  exact gv_iret .int (by decide +kernel) rfl rfl (by decide) (by decide) (gv_isr _ _)
theorem hc_run_1 : gv_ct m_L_run 4 1 12 1 := ⟨[], 0, 9, 18, [(0, 9, 15, 13)], rfl, (fun y hy => by cases hy), ⟨by decide, by decide⟩, by decide, ⟨"java/lang/IllegalStateException", gv_i3 65 rfl rfl, gv_i3 77 rfl rfl⟩, 3, 1, 1, by decide, (Or.inl ⟨3, rfl, rfl, by decide +kernel⟩), by decide +kernel, by decide, by decide +kernel⟩
set_option maxRecDepth 20000 in
theorem ht_run_1 (i : Int32) {σ σ1 : gS} (h : gv_K m_G_run [.ref 0, .int i] σ (gv_is (.inr 1) σ1)) : gv_K m_L_run [.ref 0, .int i, .ref 66] σ (gv_is (.inl (some (.int 1))) σ1) := by
  refine gv_aload_n (n := 2) (pc' := 1) (by decide +kernel) rfl rfl ?_
  refine gv_iconst (n := 0) (v := 0) (pc' := 2) (by decide +kernel) (by decide) rfl ?_
  refine gv_aload_n (n := 0) (pc' := 3) (by decide +kernel) rfl rfl ?_
  refine gv_iload_n (n := 1) (pc' := 4) (by decide +kernel) rfl rfl ?_
  refine gv_callC (k' := 1) (w' := false) (gv_mkV (by decide) md_G_run (Or.inl ml_12_36) vd_G_run) h (by decide +kernel) rfl rfl rfl (Nat.le_of_ble_eq_true rfl) (Nat.le_of_ble_eq_true rfl) (by decide) rfl (fun z => by cases z) rfl rfl (by decide) (pc' := 7) rfl (fun n σ' z => ?_) (fun v σ' z => by cases z.1)
  obtain ⟨z1, rfl⟩ := z
  cases z1
  exact ⟨12, 1, hc_run_1, gv_isr _ _⟩
theorem hc_run_3 : gv_ct m_L_run 4 3 15 2 := ⟨[(0, 9, 12, 18)], 0, 9, 13, [], rfl, (List.forall_mem_cons.mpr ⟨⟨⟨by decide, by decide⟩, by decide, "java/lang/IllegalStateException", gv_i3 65 rfl rfl, gv_inn 4 rfl⟩, (fun y hy => by cases hy)⟩), ⟨by decide, by decide⟩, by decide, ⟨"java/lang/IllegalArgumentException", gv_i2 231 rfl rfl, gv_i2 238 rfl rfl⟩, 3, 1, 2, by decide, (Or.inl ⟨3, rfl, rfl, by decide +kernel⟩), by decide +kernel, by decide, by decide +kernel⟩
set_option maxRecDepth 20000 in
theorem ht_run_3 (i : Int32) {σ σ1 : gS} (h : gv_K m_G_run [.ref 0, .int i] σ (gv_is (.inr 3) σ1)) : gv_K m_L_run [.ref 0, .int i, .ref 66] σ (gv_is (.inl (some (.int 2))) σ1) := by
  refine gv_aload_n (n := 2) (pc' := 1) (by decide +kernel) rfl rfl ?_
  refine gv_iconst (n := 0) (v := 0) (pc' := 2) (by decide +kernel) (by decide) rfl ?_
  refine gv_aload_n (n := 0) (pc' := 3) (by decide +kernel) rfl rfl ?_
  refine gv_iload_n (n := 1) (pc' := 4) (by decide +kernel) rfl rfl ?_
  refine gv_callC (k' := 1) (w' := false) (gv_mkV (by decide) md_G_run (Or.inl ml_12_36) vd_G_run) h (by decide +kernel) rfl rfl rfl (Nat.le_of_ble_eq_true rfl) (Nat.le_of_ble_eq_true rfl) (by decide) rfl (fun z => by cases z) rfl rfl (by decide) (pc' := 7) rfl (fun n σ' z => ?_) (fun v σ' z => by cases z.1)
  obtain ⟨z1, rfl⟩ := z
  cases z1
  exact ⟨15, 2, hc_run_3, gv_isr _ _⟩
set_option maxRecDepth 20000 in
theorem hr_order (i : Int32) (r : Int32) {σ σ1 : gS} (h : gv_K m_G_order [.ref 0, .int i] σ (gv_is (.inl (some (.int r))) σ1)) : gv_K m_L_order [.ref 0, .int i, .ref 66] σ (gv_is (.inl (some (.int 0))) (gs_L σ1 66 0 r.toInt64)) := by
  refine gv_aload_n (n := 2) (pc' := 1) (by decide +kernel) rfl rfl ?_
  refine gv_iconst (n := 0) (v := 0) (pc' := 2) (by decide +kernel) (by decide) rfl ?_
  refine gv_aload_n (n := 0) (pc' := 3) (by decide +kernel) rfl rfl ?_
  refine gv_iload_n (n := 1) (pc' := 4) (by decide +kernel) rfl rfl ?_
  refine gv_callC (k' := 1) (w' := false) (gv_mkV (by decide) md_G_order (Or.inl ml_12_39) vd_G_order) h (by decide +kernel) rfl rfl rfl (Nat.le_of_ble_eq_true rfl) (Nat.le_of_ble_eq_true rfl) (by decide) rfl (fun z => by cases z) rfl rfl (by decide) (pc' := 7) rfl (fun n σ' z => by cases z.1) (fun v σ' z => ?_)
  obtain ⟨z1, rfl⟩ := z
  cases z1
  refine gv_i2l (pc' := 8) (by decide +kernel) rfl ?_
  refine gj_last (0) (pc' := 9) (by decide +kernel) rfl (by decide) rfl rfl ?_
  refine gv_goto (off := 9) (tgt := 18) (by decide +kernel) (by decide) ?_
  refine gv_iconst (n := 0) (v := 0) (pc' := 19) (by decide +kernel) (by decide) rfl ?_
  exact gv_iret .int (by decide +kernel) rfl rfl (by decide) (by decide) (gv_isr _ _)
theorem hc_order_1 : gv_ct m_L_order 4 1 12 1 := ⟨[], 0, 9, 18, [(0, 9, 15, 13)], rfl, (fun y hy => by cases hy), ⟨by decide, by decide⟩, by decide, ⟨"java/lang/IllegalStateException", gv_i3 65 rfl rfl, gv_i3 77 rfl rfl⟩, 3, 1, 1, by decide, (Or.inl ⟨3, rfl, rfl, by decide +kernel⟩), by decide +kernel, by decide, by decide +kernel⟩
set_option maxRecDepth 20000 in
theorem ht_order_1 (i : Int32) {σ σ1 : gS} (h : gv_K m_G_order [.ref 0, .int i] σ (gv_is (.inr 1) σ1)) : gv_K m_L_order [.ref 0, .int i, .ref 66] σ (gv_is (.inl (some (.int 1))) σ1) := by
  refine gv_aload_n (n := 2) (pc' := 1) (by decide +kernel) rfl rfl ?_
  refine gv_iconst (n := 0) (v := 0) (pc' := 2) (by decide +kernel) (by decide) rfl ?_
  refine gv_aload_n (n := 0) (pc' := 3) (by decide +kernel) rfl rfl ?_
  refine gv_iload_n (n := 1) (pc' := 4) (by decide +kernel) rfl rfl ?_
  refine gv_callC (k' := 1) (w' := false) (gv_mkV (by decide) md_G_order (Or.inl ml_12_39) vd_G_order) h (by decide +kernel) rfl rfl rfl (Nat.le_of_ble_eq_true rfl) (Nat.le_of_ble_eq_true rfl) (by decide) rfl (fun z => by cases z) rfl rfl (by decide) (pc' := 7) rfl (fun n σ' z => ?_) (fun v σ' z => by cases z.1)
  obtain ⟨z1, rfl⟩ := z
  cases z1
  exact ⟨12, 1, hc_order_1, gv_isr _ _⟩
theorem hc_order_3 : gv_ct m_L_order 4 3 15 2 := ⟨[(0, 9, 12, 18)], 0, 9, 13, [], rfl, (List.forall_mem_cons.mpr ⟨⟨⟨by decide, by decide⟩, by decide, "java/lang/IllegalStateException", gv_i3 65 rfl rfl, gv_inn 4 rfl⟩, (fun y hy => by cases hy)⟩), ⟨by decide, by decide⟩, by decide, ⟨"java/lang/IllegalArgumentException", gv_i2 231 rfl rfl, gv_i2 238 rfl rfl⟩, 3, 1, 2, by decide, (Or.inl ⟨3, rfl, rfl, by decide +kernel⟩), by decide +kernel, by decide, by decide +kernel⟩
set_option maxRecDepth 20000 in
theorem ht_order_3 (i : Int32) {σ σ1 : gS} (h : gv_K m_G_order [.ref 0, .int i] σ (gv_is (.inr 3) σ1)) : gv_K m_L_order [.ref 0, .int i, .ref 66] σ (gv_is (.inl (some (.int 2))) σ1) := by
  refine gv_aload_n (n := 2) (pc' := 1) (by decide +kernel) rfl rfl ?_
  refine gv_iconst (n := 0) (v := 0) (pc' := 2) (by decide +kernel) (by decide) rfl ?_
  refine gv_aload_n (n := 0) (pc' := 3) (by decide +kernel) rfl rfl ?_
  refine gv_iload_n (n := 1) (pc' := 4) (by decide +kernel) rfl rfl ?_
  refine gv_callC (k' := 1) (w' := false) (gv_mkV (by decide) md_G_order (Or.inl ml_12_39) vd_G_order) h (by decide +kernel) rfl rfl rfl (Nat.le_of_ble_eq_true rfl) (Nat.le_of_ble_eq_true rfl) (by decide) rfl (fun z => by cases z) rfl rfl (by decide) (pc' := 7) rfl (fun n σ' z => ?_) (fun v σ' z => by cases z.1)
  obtain ⟨z1, rfl⟩ := z
  cases z1
  exact ⟨15, 2, hc_order_3, gv_isr _ _⟩
set_option maxRecDepth 20000 in
theorem hr_window (i : Int32) (r : Int32) {σ σ1 : gS} (h : gv_K m_G_window [.ref 0, .int i] σ (gv_is (.inl (some (.int r))) σ1)) : gv_K m_L_window [.ref 0, .int i, .ref 66] σ (gv_is (.inl (some (.int 0))) (gs_L σ1 66 0 r.toInt64)) := by
  refine gv_aload_n (n := 2) (pc' := 1) (by decide +kernel) rfl rfl ?_
  refine gv_iconst (n := 0) (v := 0) (pc' := 2) (by decide +kernel) (by decide) rfl ?_
  refine gv_aload_n (n := 0) (pc' := 3) (by decide +kernel) rfl rfl ?_
  refine gv_iload_n (n := 1) (pc' := 4) (by decide +kernel) rfl rfl ?_
  refine gv_callC (k' := 1) (w' := false) (gv_mkV (by decide) md_G_window (Or.inl ml_12_42) vd_G_window) h (by decide +kernel) rfl rfl rfl (Nat.le_of_ble_eq_true rfl) (Nat.le_of_ble_eq_true rfl) (by decide) rfl (fun z => by cases z) rfl rfl (by decide) (pc' := 7) rfl (fun n σ' z => by cases z.1) (fun v σ' z => ?_)
  obtain ⟨z1, rfl⟩ := z
  cases z1
  refine gv_i2l (pc' := 8) (by decide +kernel) rfl ?_
  refine gj_last (0) (pc' := 9) (by decide +kernel) rfl (by decide) rfl rfl ?_
  refine gv_goto (off := 6) (tgt := 15) (by decide +kernel) (by decide) ?_
  refine gv_iconst (n := 0) (v := 0) (pc' := 16) (by decide +kernel) (by decide) rfl ?_
  exact gv_iret .int (by decide +kernel) rfl rfl (by decide) (by decide) (gv_isr _ _)
theorem hc_window_3 : gv_ct m_L_window 4 3 12 1 := ⟨[], 0, 9, 13, [], rfl, (fun y hy => by cases hy), ⟨by decide, by decide⟩, by decide, ⟨"java/lang/IllegalArgumentException", gv_i2 231 rfl rfl, gv_i2 238 rfl rfl⟩, 3, 1, 1, by decide, (Or.inl ⟨3, rfl, rfl, by decide +kernel⟩), by decide +kernel, by decide, by decide +kernel⟩
set_option maxRecDepth 20000 in
theorem ht_window_3 (i : Int32) {σ σ1 : gS} (h : gv_K m_G_window [.ref 0, .int i] σ (gv_is (.inr 3) σ1)) : gv_K m_L_window [.ref 0, .int i, .ref 66] σ (gv_is (.inl (some (.int 1))) σ1) := by
  refine gv_aload_n (n := 2) (pc' := 1) (by decide +kernel) rfl rfl ?_
  refine gv_iconst (n := 0) (v := 0) (pc' := 2) (by decide +kernel) (by decide) rfl ?_
  refine gv_aload_n (n := 0) (pc' := 3) (by decide +kernel) rfl rfl ?_
  refine gv_iload_n (n := 1) (pc' := 4) (by decide +kernel) rfl rfl ?_
  refine gv_callC (k' := 1) (w' := false) (gv_mkV (by decide) md_G_window (Or.inl ml_12_42) vd_G_window) h (by decide +kernel) rfl rfl rfl (Nat.le_of_ble_eq_true rfl) (Nat.le_of_ble_eq_true rfl) (by decide) rfl (fun z => by cases z) rfl rfl (by decide) (pc' := 7) rfl (fun n σ' z => ?_) (fun v σ' z => by cases z.1)
  obtain ⟨z1, rfl⟩ := z
  cases z1
  exact ⟨12, 1, hc_window_3, gv_isr _ _⟩
set_option maxRecDepth 20000 in
theorem hr_state (i : Int32) (r : Int32) {σ σ1 : gS} (h : gv_K m_G_state [.ref 0, .int i] σ (gv_is (.inl (some (.int r))) σ1)) : gv_K m_L_state [.ref 0, .int i, .ref 66] σ (gv_is (.inl (some (.int 0))) (gs_L σ1 66 0 r.toInt64)) := by
  refine gv_aload_n (n := 2) (pc' := 1) (by decide +kernel) rfl rfl ?_
  refine gv_iconst (n := 0) (v := 0) (pc' := 2) (by decide +kernel) (by decide) rfl ?_
  refine gv_aload_n (n := 0) (pc' := 3) (by decide +kernel) rfl rfl ?_
  refine gv_iload_n (n := 1) (pc' := 4) (by decide +kernel) rfl rfl ?_
  refine gv_callC (k' := 1) (w' := false) (gv_mkV (by decide) md_G_state (Or.inl ml_12_45) vd_G_state) h (by decide +kernel) rfl rfl rfl (Nat.le_of_ble_eq_true rfl) (Nat.le_of_ble_eq_true rfl) (by decide) rfl (fun z => by cases z) rfl rfl (by decide) (pc' := 7) rfl (fun n σ' z => by cases z.1) (fun v σ' z => ?_)
  obtain ⟨z1, rfl⟩ := z
  cases z1
  refine gv_i2l (pc' := 8) (by decide +kernel) rfl ?_
  refine gj_last (0) (pc' := 9) (by decide +kernel) rfl (by decide) rfl rfl ?_
  refine gv_goto (off := 9) (tgt := 18) (by decide +kernel) (by decide) ?_
  refine gv_iconst (n := 0) (v := 0) (pc' := 19) (by decide +kernel) (by decide) rfl ?_
  exact gv_iret .int (by decide +kernel) rfl rfl (by decide) (by decide) (gv_isr _ _)
theorem hc_state_1 : gv_ct m_L_state 4 1 12 1 := ⟨[], 0, 9, 18, [(0, 9, 15, 13)], rfl, (fun y hy => by cases hy), ⟨by decide, by decide⟩, by decide, ⟨"java/lang/IllegalStateException", gv_i3 65 rfl rfl, gv_i3 77 rfl rfl⟩, 3, 1, 1, by decide, (Or.inl ⟨3, rfl, rfl, by decide +kernel⟩), by decide +kernel, by decide, by decide +kernel⟩
set_option maxRecDepth 20000 in
theorem ht_state_1 (i : Int32) {σ σ1 : gS} (h : gv_K m_G_state [.ref 0, .int i] σ (gv_is (.inr 1) σ1)) : gv_K m_L_state [.ref 0, .int i, .ref 66] σ (gv_is (.inl (some (.int 1))) σ1) := by
  refine gv_aload_n (n := 2) (pc' := 1) (by decide +kernel) rfl rfl ?_
  refine gv_iconst (n := 0) (v := 0) (pc' := 2) (by decide +kernel) (by decide) rfl ?_
  refine gv_aload_n (n := 0) (pc' := 3) (by decide +kernel) rfl rfl ?_
  refine gv_iload_n (n := 1) (pc' := 4) (by decide +kernel) rfl rfl ?_
  refine gv_callC (k' := 1) (w' := false) (gv_mkV (by decide) md_G_state (Or.inl ml_12_45) vd_G_state) h (by decide +kernel) rfl rfl rfl (Nat.le_of_ble_eq_true rfl) (Nat.le_of_ble_eq_true rfl) (by decide) rfl (fun z => by cases z) rfl rfl (by decide) (pc' := 7) rfl (fun n σ' z => ?_) (fun v σ' z => by cases z.1)
  obtain ⟨z1, rfl⟩ := z
  cases z1
  exact ⟨12, 1, hc_state_1, gv_isr _ _⟩
theorem hc_state_3 : gv_ct m_L_state 4 3 15 2 := ⟨[(0, 9, 12, 18)], 0, 9, 13, [], rfl, (List.forall_mem_cons.mpr ⟨⟨⟨by decide, by decide⟩, by decide, "java/lang/IllegalStateException", gv_i3 65 rfl rfl, gv_inn 4 rfl⟩, (fun y hy => by cases hy)⟩), ⟨by decide, by decide⟩, by decide, ⟨"java/lang/IllegalArgumentException", gv_i2 231 rfl rfl, gv_i2 238 rfl rfl⟩, 3, 1, 2, by decide, (Or.inl ⟨3, rfl, rfl, by decide +kernel⟩), by decide +kernel, by decide, by decide +kernel⟩
set_option maxRecDepth 20000 in
theorem ht_state_3 (i : Int32) {σ σ1 : gS} (h : gv_K m_G_state [.ref 0, .int i] σ (gv_is (.inr 3) σ1)) : gv_K m_L_state [.ref 0, .int i, .ref 66] σ (gv_is (.inl (some (.int 2))) σ1) := by
  refine gv_aload_n (n := 2) (pc' := 1) (by decide +kernel) rfl rfl ?_
  refine gv_iconst (n := 0) (v := 0) (pc' := 2) (by decide +kernel) (by decide) rfl ?_
  refine gv_aload_n (n := 0) (pc' := 3) (by decide +kernel) rfl rfl ?_
  refine gv_iload_n (n := 1) (pc' := 4) (by decide +kernel) rfl rfl ?_
  refine gv_callC (k' := 1) (w' := false) (gv_mkV (by decide) md_G_state (Or.inl ml_12_45) vd_G_state) h (by decide +kernel) rfl rfl rfl (Nat.le_of_ble_eq_true rfl) (Nat.le_of_ble_eq_true rfl) (by decide) rfl (fun z => by cases z) rfl rfl (by decide) (pc' := 7) rfl (fun n σ' z => ?_) (fun v σ' z => by cases z.1)
  obtain ⟨z1, rfl⟩ := z
  cases z1
  exact ⟨15, 2, hc_state_3, gv_isr _ _⟩
set_option maxRecDepth 20000 in
theorem hr_forget (r : Int32) {σ σ1 : gS} (h : gv_K m_G_forget [.ref 0] σ (gv_is (.inl (some (.int r))) σ1)) : gv_K m_L_forget [.ref 0, .ref 66] σ (gv_is (.inl (some (.int 0))) (gs_L σ1 66 0 r.toInt64)) := by
  refine gv_aload_n (n := 1) (pc' := 1) (by decide +kernel) rfl rfl ?_
  refine gv_iconst (n := 0) (v := 0) (pc' := 2) (by decide +kernel) (by decide) rfl ?_
  refine gv_aload_n (n := 0) (pc' := 3) (by decide +kernel) rfl rfl ?_
  refine gv_callC (k' := 1) (w' := false) (gv_mkV (by decide) md_G_forget (Or.inl ml_12_48) vd_G_forget) h (by decide +kernel) rfl rfl rfl (Nat.le_of_ble_eq_true rfl) (Nat.le_of_ble_eq_true rfl) (by decide) rfl (fun z => by cases z) rfl rfl (by decide) (pc' := 6) rfl (fun n σ' z => by cases z.1) (fun v σ' z => ?_)
  obtain ⟨z1, rfl⟩ := z
  cases z1
  refine gv_i2l (pc' := 7) (by decide +kernel) rfl ?_
  refine gj_last (0) (pc' := 8) (by decide +kernel) rfl (by decide) rfl rfl ?_
  refine gv_goto (off := 6) (tgt := 14) (by decide +kernel) (by decide) ?_
  refine gv_iconst (n := 0) (v := 0) (pc' := 15) (by decide +kernel) (by decide) rfl ?_
  exact gv_iret .int (by decide +kernel) rfl rfl (by decide) (by decide) (gv_isr _ _)
theorem hc_forget_1 : gv_ct m_L_forget 3 1 11 1 := ⟨[], 0, 8, 18, [], rfl, (fun y hy => by cases hy), ⟨by decide, by decide⟩, by decide, ⟨"java/lang/IllegalStateException", gv_i3 65 rfl rfl, gv_i3 77 rfl rfl⟩, 2, 1, 1, by decide, (Or.inl ⟨2, rfl, rfl, by decide +kernel⟩), by decide +kernel, by decide, by decide +kernel⟩
set_option maxRecDepth 20000 in
theorem ht_forget_1 {σ σ1 : gS} (h : gv_K m_G_forget [.ref 0] σ (gv_is (.inr 1) σ1)) : gv_K m_L_forget [.ref 0, .ref 66] σ (gv_is (.inl (some (.int 1))) σ1) := by
  refine gv_aload_n (n := 1) (pc' := 1) (by decide +kernel) rfl rfl ?_
  refine gv_iconst (n := 0) (v := 0) (pc' := 2) (by decide +kernel) (by decide) rfl ?_
  refine gv_aload_n (n := 0) (pc' := 3) (by decide +kernel) rfl rfl ?_
  refine gv_callC (k' := 1) (w' := false) (gv_mkV (by decide) md_G_forget (Or.inl ml_12_48) vd_G_forget) h (by decide +kernel) rfl rfl rfl (Nat.le_of_ble_eq_true rfl) (Nat.le_of_ble_eq_true rfl) (by decide) rfl (fun z => by cases z) rfl rfl (by decide) (pc' := 6) rfl (fun n σ' z => ?_) (fun v σ' z => by cases z.1)
  obtain ⟨z1, rfl⟩ := z
  cases z1
  exact ⟨11, 1, hc_forget_1, gv_isr _ _⟩
set_option maxRecDepth 20000 in
theorem hr_check (r : Int32) {σ σ1 : gS} (h : gv_K m_G_check [.ref 0] σ (gv_is (.inl (some (.int r))) σ1)) : gv_K m_L_check [.ref 0, .ref 66] σ (gv_is (.inl (some (.int 0))) (gs_L σ1 66 0 r.toInt64)) := by
  refine gv_aload_n (n := 1) (pc' := 1) (by decide +kernel) rfl rfl ?_
  refine gv_iconst (n := 0) (v := 0) (pc' := 2) (by decide +kernel) (by decide) rfl ?_
  refine gv_aload_n (n := 0) (pc' := 3) (by decide +kernel) rfl rfl ?_
  refine gv_callC (k' := 1) (w' := false) (gv_mkV (by decide) md_G_check (Or.inl ml_12_52) vd_G_check) h (by decide +kernel) rfl rfl rfl (Nat.le_of_ble_eq_true rfl) (Nat.le_of_ble_eq_true rfl) (by decide) rfl (fun z => by cases z) rfl rfl (by decide) (pc' := 6) rfl (fun n σ' z => by cases z.1) (fun v σ' z => ?_)
  obtain ⟨z1, rfl⟩ := z
  cases z1
  refine gv_i2l (pc' := 7) (by decide +kernel) rfl ?_
  refine gj_last (0) (pc' := 8) (by decide +kernel) rfl (by decide) rfl rfl ?_
  refine gv_goto (off := 6) (tgt := 14) (by decide +kernel) (by decide) ?_
  refine gv_iconst (n := 0) (v := 0) (pc' := 15) (by decide +kernel) (by decide) rfl ?_
  exact gv_iret .int (by decide +kernel) rfl rfl (by decide) (by decide) (gv_isr _ _)
theorem hc_check_1 : gv_ct m_L_check 3 1 11 1 := ⟨[], 0, 8, 18, [], rfl, (fun y hy => by cases hy), ⟨by decide, by decide⟩, by decide, ⟨"java/lang/IllegalStateException", gv_i3 65 rfl rfl, gv_i3 77 rfl rfl⟩, 2, 1, 1, by decide, (Or.inl ⟨2, rfl, rfl, by decide +kernel⟩), by decide +kernel, by decide, by decide +kernel⟩
set_option maxRecDepth 20000 in
theorem ht_check_1 {σ σ1 : gS} (h : gv_K m_G_check [.ref 0] σ (gv_is (.inr 1) σ1)) : gv_K m_L_check [.ref 0, .ref 66] σ (gv_is (.inl (some (.int 1))) σ1) := by
  refine gv_aload_n (n := 1) (pc' := 1) (by decide +kernel) rfl rfl ?_
  refine gv_iconst (n := 0) (v := 0) (pc' := 2) (by decide +kernel) (by decide) rfl ?_
  refine gv_aload_n (n := 0) (pc' := 3) (by decide +kernel) rfl rfl ?_
  refine gv_callC (k' := 1) (w' := false) (gv_mkV (by decide) md_G_check (Or.inl ml_12_52) vd_G_check) h (by decide +kernel) rfl rfl rfl (Nat.le_of_ble_eq_true rfl) (Nat.le_of_ble_eq_true rfl) (by decide) rfl (fun z => by cases z) rfl rfl (by decide) (pc' := 6) rfl (fun n σ' z => ?_) (fun v σ' z => by cases z.1)
  obtain ⟨z1, rfl⟩ := z
  cases z1
  exact ⟨11, 1, hc_check_1, gv_isr _ _⟩
set_option maxRecDepth 20000 in
theorem hr_reaches (i j : Int32) (r : Int32) {σ σ1 : gS} (h : gv_K m_G_reaches [.ref 0, .int i, .int j] σ (gv_is (.inl (some (.int r))) σ1)) : gv_K m_L_reaches [.ref 0, .int i, .int j, .ref 66] σ (gv_is (.inl (some (.int 0))) (gs_L σ1 66 0 (if r = 0 then 0 else 1))) := by
  refine gv_aload_n (n := 3) (pc' := 1) (by decide +kernel) rfl rfl ?_
  refine gv_iconst (n := 0) (v := 0) (pc' := 2) (by decide +kernel) (by decide) rfl ?_
  refine gv_aload_n (n := 0) (pc' := 3) (by decide +kernel) rfl rfl ?_
  refine gv_iload_n (n := 1) (pc' := 4) (by decide +kernel) rfl rfl ?_
  refine gv_iload_n (n := 2) (pc' := 5) (by decide +kernel) rfl rfl ?_
  refine gv_callC (k' := 1) (w' := false) (gv_mkV (by decide) md_G_reaches (Or.inl ml_12_55) vd_G_reaches) h (by decide +kernel) rfl rfl rfl (Nat.le_of_ble_eq_true rfl) (Nat.le_of_ble_eq_true rfl) (by decide) rfl (fun z => by cases z) rfl rfl (by decide) (pc' := 8) rfl (fun n σ' z => by cases z.1) (fun v σ' z => ?_)
  obtain ⟨z1, rfl⟩ := z
  cases z1
  refine gv_if_eq (off := 7) (tgt := 15) (pc' := 11) (by decide +kernel) (by decide) rfl (fun h8 => ?_) (fun h8 => ?_)
  · refine gv_lconst (n := 0) (v := 0) (pc' := 16) (by decide +kernel) (by decide) rfl ?_
    refine gj_last (0) (pc' := 17) (by decide +kernel) rfl (by decide) rfl rfl ?_
    refine gv_goto (off := 11) (tgt := 28) (by decide +kernel) (by decide) ?_
    refine gv_iconst (n := 0) (v := 0) (pc' := 29) (by decide +kernel) (by decide) rfl ?_
    exact gv_iret .int (by decide +kernel) rfl rfl (by decide) (by decide) (gv_isv rfl (by rw [if_pos h8]))
  · refine gv_lconst (n := 1) (v := 1) (pc' := 12) (by decide +kernel) (by decide) rfl ?_
    refine gv_goto (off := 4) (tgt := 16) (by decide +kernel) (by decide) ?_
    refine gj_last (0) (pc' := 17) (by decide +kernel) rfl (by decide) rfl rfl ?_
    refine gv_goto (off := 11) (tgt := 28) (by decide +kernel) (by decide) ?_
    refine gv_iconst (n := 0) (v := 0) (pc' := 29) (by decide +kernel) (by decide) rfl ?_
    exact gv_iret .int (by decide +kernel) rfl rfl (by decide) (by decide) (gv_isv rfl (by rw [if_neg h8]))
theorem hc_reaches_1 : gv_ct m_L_reaches 5 1 20 1 := ⟨[], 0, 17, 18, [(0, 17, 24, 20)], rfl, (fun y hy => by cases hy), ⟨by decide, by decide⟩, by decide, ⟨"java/lang/IllegalStateException", gv_i3 65 rfl rfl, gv_i3 77 rfl rfl⟩, 4, 2, 1, by decide, (Or.inr ⟨rfl, by decide +kernel⟩), by decide +kernel, by decide, by decide +kernel⟩
set_option maxRecDepth 20000 in
theorem ht_reaches_1 (i j : Int32) {σ σ1 : gS} (h : gv_K m_G_reaches [.ref 0, .int i, .int j] σ (gv_is (.inr 1) σ1)) : gv_K m_L_reaches [.ref 0, .int i, .int j, .ref 66] σ (gv_is (.inl (some (.int 1))) σ1) := by
  refine gv_aload_n (n := 3) (pc' := 1) (by decide +kernel) rfl rfl ?_
  refine gv_iconst (n := 0) (v := 0) (pc' := 2) (by decide +kernel) (by decide) rfl ?_
  refine gv_aload_n (n := 0) (pc' := 3) (by decide +kernel) rfl rfl ?_
  refine gv_iload_n (n := 1) (pc' := 4) (by decide +kernel) rfl rfl ?_
  refine gv_iload_n (n := 2) (pc' := 5) (by decide +kernel) rfl rfl ?_
  refine gv_callC (k' := 1) (w' := false) (gv_mkV (by decide) md_G_reaches (Or.inl ml_12_55) vd_G_reaches) h (by decide +kernel) rfl rfl rfl (Nat.le_of_ble_eq_true rfl) (Nat.le_of_ble_eq_true rfl) (by decide) rfl (fun z => by cases z) rfl rfl (by decide) (pc' := 8) rfl (fun n σ' z => ?_) (fun v σ' z => by cases z.1)
  obtain ⟨z1, rfl⟩ := z
  cases z1
  exact ⟨20, 1, hc_reaches_1, gv_isr _ _⟩
theorem hc_reaches_2 : gv_ct m_L_reaches 5 2 24 2 := ⟨[(0, 17, 20, 18)], 0, 17, 20, [], rfl, (List.forall_mem_cons.mpr ⟨⟨⟨by decide, by decide⟩, by decide, "java/lang/IllegalStateException", gv_i3 65 rfl rfl, gv_inn 2 rfl⟩, (fun y hy => by cases hy)⟩), ⟨by decide, by decide⟩, by decide, ⟨"java/lang/IndexOutOfBoundsException", gv_i3 66 rfl rfl, gv_i3 96 rfl rfl⟩, 4, 2, 2, by decide, (Or.inr ⟨rfl, by decide +kernel⟩), by decide +kernel, by decide, by decide +kernel⟩
set_option maxRecDepth 20000 in
theorem ht_reaches_2 (i j : Int32) {σ σ1 : gS} (h : gv_K m_G_reaches [.ref 0, .int i, .int j] σ (gv_is (.inr 2) σ1)) : gv_K m_L_reaches [.ref 0, .int i, .int j, .ref 66] σ (gv_is (.inl (some (.int 2))) σ1) := by
  refine gv_aload_n (n := 3) (pc' := 1) (by decide +kernel) rfl rfl ?_
  refine gv_iconst (n := 0) (v := 0) (pc' := 2) (by decide +kernel) (by decide) rfl ?_
  refine gv_aload_n (n := 0) (pc' := 3) (by decide +kernel) rfl rfl ?_
  refine gv_iload_n (n := 1) (pc' := 4) (by decide +kernel) rfl rfl ?_
  refine gv_iload_n (n := 2) (pc' := 5) (by decide +kernel) rfl rfl ?_
  refine gv_callC (k' := 1) (w' := false) (gv_mkV (by decide) md_G_reaches (Or.inl ml_12_55) vd_G_reaches) h (by decide +kernel) rfl rfl rfl (Nat.le_of_ble_eq_true rfl) (Nat.le_of_ble_eq_true rfl) (by decide) rfl (fun z => by cases z) rfl rfl (by decide) (pc' := 8) rfl (fun n σ' z => ?_) (fun v σ' z => by cases z.1)
  obtain ⟨z1, rfl⟩ := z
  cases z1
  exact ⟨24, 2, hc_reaches_2, gv_isr _ _⟩
set_option maxRecDepth 20000 in
theorem hr_mark (i : Int32) (r : Int32) {σ σ1 : gS} (h : gv_K m_G_mark [.ref 0, .int i] σ (gv_is (.inl (some (.int r))) σ1)) : gv_K m_L_mark [.ref 0, .int i, .ref 66] σ (gv_is (.inl (some (.int 0))) (gs_L σ1 66 0 r.toInt64)) := by
  refine gv_aload_n (n := 2) (pc' := 1) (by decide +kernel) rfl rfl ?_
  refine gv_iconst (n := 0) (v := 0) (pc' := 2) (by decide +kernel) (by decide) rfl ?_
  refine gv_aload_n (n := 0) (pc' := 3) (by decide +kernel) rfl rfl ?_
  refine gv_iload_n (n := 1) (pc' := 4) (by decide +kernel) rfl rfl ?_
  refine gv_callC (k' := 1) (w' := false) (gv_mkV (by decide) md_G_mark (Or.inl ml_12_59) vd_G_mark) h (by decide +kernel) rfl rfl rfl (Nat.le_of_ble_eq_true rfl) (Nat.le_of_ble_eq_true rfl) (by decide) rfl (fun z => by cases z) rfl rfl (by decide) (pc' := 7) rfl (fun n σ' z => by cases z.1) (fun v σ' z => ?_)
  obtain ⟨z1, rfl⟩ := z
  cases z1
  refine gv_i2l (pc' := 8) (by decide +kernel) rfl ?_
  refine gj_last (0) (pc' := 9) (by decide +kernel) rfl (by decide) rfl rfl ?_
  refine gv_goto (off := 9) (tgt := 18) (by decide +kernel) (by decide) ?_
  refine gv_iconst (n := 0) (v := 0) (pc' := 19) (by decide +kernel) (by decide) rfl ?_
  exact gv_iret .int (by decide +kernel) rfl rfl (by decide) (by decide) (gv_isr _ _)
theorem hc_mark_1 : gv_ct m_L_mark 4 1 12 1 := ⟨[], 0, 9, 18, [(0, 9, 15, 20)], rfl, (fun y hy => by cases hy), ⟨by decide, by decide⟩, by decide, ⟨"java/lang/IllegalStateException", gv_i3 65 rfl rfl, gv_i3 77 rfl rfl⟩, 3, 1, 1, by decide, (Or.inl ⟨3, rfl, rfl, by decide +kernel⟩), by decide +kernel, by decide, by decide +kernel⟩
set_option maxRecDepth 20000 in
theorem ht_mark_1 (i : Int32) {σ σ1 : gS} (h : gv_K m_G_mark [.ref 0, .int i] σ (gv_is (.inr 1) σ1)) : gv_K m_L_mark [.ref 0, .int i, .ref 66] σ (gv_is (.inl (some (.int 1))) σ1) := by
  refine gv_aload_n (n := 2) (pc' := 1) (by decide +kernel) rfl rfl ?_
  refine gv_iconst (n := 0) (v := 0) (pc' := 2) (by decide +kernel) (by decide) rfl ?_
  refine gv_aload_n (n := 0) (pc' := 3) (by decide +kernel) rfl rfl ?_
  refine gv_iload_n (n := 1) (pc' := 4) (by decide +kernel) rfl rfl ?_
  refine gv_callC (k' := 1) (w' := false) (gv_mkV (by decide) md_G_mark (Or.inl ml_12_59) vd_G_mark) h (by decide +kernel) rfl rfl rfl (Nat.le_of_ble_eq_true rfl) (Nat.le_of_ble_eq_true rfl) (by decide) rfl (fun z => by cases z) rfl rfl (by decide) (pc' := 7) rfl (fun n σ' z => ?_) (fun v σ' z => by cases z.1)
  obtain ⟨z1, rfl⟩ := z
  cases z1
  exact ⟨12, 1, hc_mark_1, gv_isr _ _⟩
theorem hc_mark_2 : gv_ct m_L_mark 4 2 15 2 := ⟨[(0, 9, 12, 18)], 0, 9, 20, [], rfl, (List.forall_mem_cons.mpr ⟨⟨⟨by decide, by decide⟩, by decide, "java/lang/IllegalStateException", gv_i3 65 rfl rfl, gv_inn 2 rfl⟩, (fun y hy => by cases hy)⟩), ⟨by decide, by decide⟩, by decide, ⟨"java/lang/IndexOutOfBoundsException", gv_i3 66 rfl rfl, gv_i3 96 rfl rfl⟩, 3, 1, 2, by decide, (Or.inl ⟨3, rfl, rfl, by decide +kernel⟩), by decide +kernel, by decide, by decide +kernel⟩
set_option maxRecDepth 20000 in
theorem ht_mark_2 (i : Int32) {σ σ1 : gS} (h : gv_K m_G_mark [.ref 0, .int i] σ (gv_is (.inr 2) σ1)) : gv_K m_L_mark [.ref 0, .int i, .ref 66] σ (gv_is (.inl (some (.int 2))) σ1) := by
  refine gv_aload_n (n := 2) (pc' := 1) (by decide +kernel) rfl rfl ?_
  refine gv_iconst (n := 0) (v := 0) (pc' := 2) (by decide +kernel) (by decide) rfl ?_
  refine gv_aload_n (n := 0) (pc' := 3) (by decide +kernel) rfl rfl ?_
  refine gv_iload_n (n := 1) (pc' := 4) (by decide +kernel) rfl rfl ?_
  refine gv_callC (k' := 1) (w' := false) (gv_mkV (by decide) md_G_mark (Or.inl ml_12_59) vd_G_mark) h (by decide +kernel) rfl rfl rfl (Nat.le_of_ble_eq_true rfl) (Nat.le_of_ble_eq_true rfl) (by decide) rfl (fun z => by cases z) rfl rfl (by decide) (pc' := 7) rfl (fun n σ' z => ?_) (fun v σ' z => by cases z.1)
  obtain ⟨z1, rfl⟩ := z
  cases z1
  exact ⟨15, 2, hc_mark_2, gv_isr _ _⟩
set_option maxRecDepth 20000 in
theorem hr_cut (r : Int32) {σ σ1 : gS} (h : gv_K m_G_cut [.ref 0] σ (gv_is (.inl (some (.int r))) σ1)) : gv_K m_L_cut [.ref 0, .ref 66] σ (gv_is (.inl (some (.int 0))) (gs_L σ1 66 0 r.toInt64)) := by
  refine gv_aload_n (n := 1) (pc' := 1) (by decide +kernel) rfl rfl ?_
  refine gv_iconst (n := 0) (v := 0) (pc' := 2) (by decide +kernel) (by decide) rfl ?_
  refine gv_aload_n (n := 0) (pc' := 3) (by decide +kernel) rfl rfl ?_
  refine gv_callC (k' := 1) (w' := false) (gv_mkV (by decide) md_G_cut (Or.inl ml_12_62) vd_G_cut) h (by decide +kernel) rfl rfl rfl (Nat.le_of_ble_eq_true rfl) (Nat.le_of_ble_eq_true rfl) (by decide) rfl (fun z => by cases z) rfl rfl (by decide) (pc' := 6) rfl (fun n σ' z => by cases z.1) (fun v σ' z => ?_)
  obtain ⟨z1, rfl⟩ := z
  cases z1
  refine gv_i2l (pc' := 7) (by decide +kernel) rfl ?_
  refine gj_last (0) (pc' := 8) (by decide +kernel) rfl (by decide) rfl rfl ?_
  refine gv_goto (off := 6) (tgt := 14) (by decide +kernel) (by decide) ?_
  refine gv_iconst (n := 0) (v := 0) (pc' := 15) (by decide +kernel) (by decide) rfl ?_
  exact gv_iret .int (by decide +kernel) rfl rfl (by decide) (by decide) (gv_isr _ _)
theorem hc_cut_1 : gv_ct m_L_cut 3 1 11 1 := ⟨[], 0, 8, 18, [], rfl, (fun y hy => by cases hy), ⟨by decide, by decide⟩, by decide, ⟨"java/lang/IllegalStateException", gv_i3 65 rfl rfl, gv_i3 77 rfl rfl⟩, 2, 1, 1, by decide, (Or.inl ⟨2, rfl, rfl, by decide +kernel⟩), by decide +kernel, by decide, by decide +kernel⟩
set_option maxRecDepth 20000 in
theorem ht_cut_1 {σ σ1 : gS} (h : gv_K m_G_cut [.ref 0] σ (gv_is (.inr 1) σ1)) : gv_K m_L_cut [.ref 0, .ref 66] σ (gv_is (.inl (some (.int 1))) σ1) := by
  refine gv_aload_n (n := 1) (pc' := 1) (by decide +kernel) rfl rfl ?_
  refine gv_iconst (n := 0) (v := 0) (pc' := 2) (by decide +kernel) (by decide) rfl ?_
  refine gv_aload_n (n := 0) (pc' := 3) (by decide +kernel) rfl rfl ?_
  refine gv_callC (k' := 1) (w' := false) (gv_mkV (by decide) md_G_cut (Or.inl ml_12_62) vd_G_cut) h (by decide +kernel) rfl rfl rfl (Nat.le_of_ble_eq_true rfl) (Nat.le_of_ble_eq_true rfl) (by decide) rfl (fun z => by cases z) rfl rfl (by decide) (pc' := 6) rfl (fun n σ' z => ?_) (fun v σ' z => by cases z.1)
  obtain ⟨z1, rfl⟩ := z
  cases z1
  exact ⟨11, 1, hc_cut_1, gv_isr _ _⟩
set_option maxRecDepth 20000 in
theorem hr_rewrite (r : Int32) {σ σ1 : gS} (h : gv_K m_G_rewrite [.ref 0] σ (gv_is (.inl (some (.int r))) σ1)) : gv_K m_L_rewrite [.ref 0, .ref 66] σ (gv_is (.inl (some (.int 0))) (gs_L σ1 66 0 r.toInt64)) := by
  refine gv_aload_n (n := 1) (pc' := 1) (by decide +kernel) rfl rfl ?_
  refine gv_iconst (n := 0) (v := 0) (pc' := 2) (by decide +kernel) (by decide) rfl ?_
  refine gv_aload_n (n := 0) (pc' := 3) (by decide +kernel) rfl rfl ?_
  refine gv_callC (k' := 1) (w' := false) (gv_mkV (by decide) md_G_rewrite (Or.inl ml_12_65) vd_G_rewrite) h (by decide +kernel) rfl rfl rfl (Nat.le_of_ble_eq_true rfl) (Nat.le_of_ble_eq_true rfl) (by decide) rfl (fun z => by cases z) rfl rfl (by decide) (pc' := 6) rfl (fun n σ' z => by cases z.1) (fun v σ' z => ?_)
  obtain ⟨z1, rfl⟩ := z
  cases z1
  refine gv_i2l (pc' := 7) (by decide +kernel) rfl ?_
  refine gj_last (0) (pc' := 8) (by decide +kernel) rfl (by decide) rfl rfl ?_
  refine gv_goto (off := 6) (tgt := 14) (by decide +kernel) (by decide) ?_
  refine gv_iconst (n := 0) (v := 0) (pc' := 15) (by decide +kernel) (by decide) rfl ?_
  exact gv_iret .int (by decide +kernel) rfl rfl (by decide) (by decide) (gv_isr _ _)
theorem hc_rewrite_1 : gv_ct m_L_rewrite 3 1 11 1 := ⟨[], 0, 8, 18, [], rfl, (fun y hy => by cases hy), ⟨by decide, by decide⟩, by decide, ⟨"java/lang/IllegalStateException", gv_i3 65 rfl rfl, gv_i3 77 rfl rfl⟩, 2, 1, 1, by decide, (Or.inl ⟨2, rfl, rfl, by decide +kernel⟩), by decide +kernel, by decide, by decide +kernel⟩
set_option maxRecDepth 20000 in
theorem ht_rewrite_1 {σ σ1 : gS} (h : gv_K m_G_rewrite [.ref 0] σ (gv_is (.inr 1) σ1)) : gv_K m_L_rewrite [.ref 0, .ref 66] σ (gv_is (.inl (some (.int 1))) σ1) := by
  refine gv_aload_n (n := 1) (pc' := 1) (by decide +kernel) rfl rfl ?_
  refine gv_iconst (n := 0) (v := 0) (pc' := 2) (by decide +kernel) (by decide) rfl ?_
  refine gv_aload_n (n := 0) (pc' := 3) (by decide +kernel) rfl rfl ?_
  refine gv_callC (k' := 1) (w' := false) (gv_mkV (by decide) md_G_rewrite (Or.inl ml_12_65) vd_G_rewrite) h (by decide +kernel) rfl rfl rfl (Nat.le_of_ble_eq_true rfl) (Nat.le_of_ble_eq_true rfl) (by decide) rfl (fun z => by cases z) rfl rfl (by decide) (pc' := 6) rfl (fun n σ' z => ?_) (fun v σ' z => by cases z.1)
  obtain ⟨z1, rfl⟩ := z
  cases z1
  exact ⟨11, 1, hc_rewrite_1, gv_isr _ _⟩
set_option maxRecDepth 20000 in
theorem hr_home (i : Int32) (r : Int32) {σ σ1 : gS} (h : gv_K m_G_home [.ref 0, .int i] σ (gv_is (.inl (some (.int r))) σ1)) : gv_K m_L_home [.ref 0, .int i, .ref 66] σ (gv_is (.inl (some (.int 0))) (gs_L σ1 66 0 r.toInt64)) := by
  refine gv_aload_n (n := 2) (pc' := 1) (by decide +kernel) rfl rfl ?_
  refine gv_iconst (n := 0) (v := 0) (pc' := 2) (by decide +kernel) (by decide) rfl ?_
  refine gv_aload_n (n := 0) (pc' := 3) (by decide +kernel) rfl rfl ?_
  refine gv_iload_n (n := 1) (pc' := 4) (by decide +kernel) rfl rfl ?_
  refine gv_callC (k' := 1) (w' := false) (gv_mkV (by decide) md_G_home (Or.inl ml_12_68) vd_G_home) h (by decide +kernel) rfl rfl rfl (Nat.le_of_ble_eq_true rfl) (Nat.le_of_ble_eq_true rfl) (by decide) rfl (fun z => by cases z) rfl rfl (by decide) (pc' := 7) rfl (fun n σ' z => by cases z.1) (fun v σ' z => ?_)
  obtain ⟨z1, rfl⟩ := z
  cases z1
  refine gv_i2l (pc' := 8) (by decide +kernel) rfl ?_
  refine gj_last (0) (pc' := 9) (by decide +kernel) rfl (by decide) rfl rfl ?_
  refine gv_goto (off := 6) (tgt := 15) (by decide +kernel) (by decide) ?_
  refine gv_iconst (n := 0) (v := 0) (pc' := 16) (by decide +kernel) (by decide) rfl ?_
  exact gv_iret .int (by decide +kernel) rfl rfl (by decide) (by decide) (gv_isr _ _)
theorem hc_home_2 : gv_ct m_L_home 4 2 12 1 := ⟨[], 0, 9, 20, [], rfl, (fun y hy => by cases hy), ⟨by decide, by decide⟩, by decide, ⟨"java/lang/IndexOutOfBoundsException", gv_i3 66 rfl rfl, gv_i3 96 rfl rfl⟩, 3, 1, 1, by decide, (Or.inl ⟨3, rfl, rfl, by decide +kernel⟩), by decide +kernel, by decide, by decide +kernel⟩
set_option maxRecDepth 20000 in
theorem ht_home_2 (i : Int32) {σ σ1 : gS} (h : gv_K m_G_home [.ref 0, .int i] σ (gv_is (.inr 2) σ1)) : gv_K m_L_home [.ref 0, .int i, .ref 66] σ (gv_is (.inl (some (.int 1))) σ1) := by
  refine gv_aload_n (n := 2) (pc' := 1) (by decide +kernel) rfl rfl ?_
  refine gv_iconst (n := 0) (v := 0) (pc' := 2) (by decide +kernel) (by decide) rfl ?_
  refine gv_aload_n (n := 0) (pc' := 3) (by decide +kernel) rfl rfl ?_
  refine gv_iload_n (n := 1) (pc' := 4) (by decide +kernel) rfl rfl ?_
  refine gv_callC (k' := 1) (w' := false) (gv_mkV (by decide) md_G_home (Or.inl ml_12_68) vd_G_home) h (by decide +kernel) rfl rfl rfl (Nat.le_of_ble_eq_true rfl) (Nat.le_of_ble_eq_true rfl) (by decide) rfl (fun z => by cases z) rfl rfl (by decide) (pc' := 7) rfl (fun n σ' z => ?_) (fun v σ' z => by cases z.1)
  obtain ⟨z1, rfl⟩ := z
  cases z1
  exact ⟨12, 1, hc_home_2, gv_isr _ _⟩
end
