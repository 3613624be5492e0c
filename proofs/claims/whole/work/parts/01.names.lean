-- ===== PART A: goes FIRST, ahead of the names: the tables' words, and 'selects' of the private methods out of them =====
/-- a private method of a class that the tables say can be made, by its rows of tables_1 -/
def lw_okq (q : MethodName × Nat) : Prop := (q.1.cls ≠ "java/lang/invoke/MethodHandle" ∧ q.1.cls ≠ "java/lang/invoke/VarHandle") ∧ Cond.instantiable q.1.cls q.2 ∈ tables_1 ∧ Cond.privateMethod q.1 ∈ tables_1 ∧ Cond.instanceMethod q.1 ∈ tables_1
theorem lw_p0 : lw_okq (⟨"LayerBook$Order", "writeRest", "(I)V"⟩, 2) := ⟨⟨by decide +kernel, by decide +kernel⟩, List.mem_of_getElem? (i := 325) (by decide +kernel), List.mem_of_getElem? (i := 333) (by decide +kernel), List.mem_of_getElem? (i := 334) (by decide +kernel)⟩
theorem lw_p1 : lw_okq (⟨"LayerBook$Tape", "at", "(I)I"⟩, 6) := ⟨⟨by decide +kernel, by decide +kernel⟩, List.mem_of_getElem? (i := 267) (by decide +kernel), List.mem_of_getElem? (i := 488) (by decide +kernel), List.mem_of_getElem? (i := 489) (by decide +kernel)⟩
theorem lw_p2 : lw_okq (⟨"LayerBook$Tape", "readNumber", "()V"⟩, 6) := ⟨⟨by decide +kernel, by decide +kernel⟩, List.mem_of_getElem? (i := 267) (by decide +kernel), List.mem_of_getElem? (i := 501) (by decide +kernel), List.mem_of_getElem? (i := 502) (by decide +kernel)⟩
theorem lw_p3 : lw_okq (⟨"LayerBook$Tape", "isSame", "(Ljava/lang/String;II)Z"⟩, 6) := ⟨⟨by decide +kernel, by decide +kernel⟩, List.mem_of_getElem? (i := 267) (by decide +kernel), List.mem_of_getElem? (i := 618) (by decide +kernel), List.mem_of_getElem? (i := 619) (by decide +kernel)⟩
theorem lw_p4 : lw_okq (⟨"LayerBook$Law", "readChain", "(LLayerBook$Tape;I)Z"⟩, 5) := ⟨⟨by decide +kernel, by decide +kernel⟩, List.mem_of_getElem? (i := 304) (by decide +kernel), List.mem_of_getElem? (i := 623) (by decide +kernel), List.mem_of_getElem? (i := 624) (by decide +kernel)⟩
theorem lw_p5 : lw_okq (⟨"LayerBook$Law", "readCompared", "(LLayerBook$Tape;)Z"⟩, 5) := ⟨⟨by decide +kernel, by decide +kernel⟩, List.mem_of_getElem? (i := 304) (by decide +kernel), List.mem_of_getElem? (i := 627) (by decide +kernel), List.mem_of_getElem? (i := 628) (by decide +kernel)⟩
theorem lw_p6 : lw_okq (⟨"LayerBook$Law", "opens", "(LLayerBook$Tape;)Z"⟩, 5) := ⟨⟨by decide +kernel, by decide +kernel⟩, List.mem_of_getElem? (i := 304) (by decide +kernel), List.mem_of_getElem? (i := 632) (by decide +kernel), List.mem_of_getElem? (i := 633) (by decide +kernel)⟩
theorem lw_p7 : lw_okq (⟨"LayerBook$Law", "closes", "()Z"⟩, 5) := ⟨⟨by decide +kernel, by decide +kernel⟩, List.mem_of_getElem? (i := 304) (by decide +kernel), List.mem_of_getElem? (i := 636) (by decide +kernel), List.mem_of_getElem? (i := 637) (by decide +kernel)⟩
theorem lw_p8 : lw_okq (⟨"LayerBook$Law", "write", "(I)Z"⟩, 5) := ⟨⟨by decide +kernel, by decide +kernel⟩, List.mem_of_getElem? (i := 304) (by decide +kernel), List.mem_of_getElem? (i := 640) (by decide +kernel), List.mem_of_getElem? (i := 641) (by decide +kernel)⟩
theorem lw_p9 : lw_okq (⟨"LayerBook$Law", "readOne", "(LLayerBook$Tape;)Z"⟩, 5) := ⟨⟨by decide +kernel, by decide +kernel⟩, List.mem_of_getElem? (i := 304) (by decide +kernel), List.mem_of_getElem? (i := 653) (by decide +kernel), List.mem_of_getElem? (i := 654) (by decide +kernel)⟩
theorem lw_p10 : lw_okq (⟨"LayerBook", "orderIn", "(I)LLayerBook$Order;"⟩, 15) := ⟨⟨by decide +kernel, by decide +kernel⟩, List.mem_of_getElem? (i := 19) (by decide +kernel), List.mem_of_getElem? (i := 746) (by decide +kernel), List.mem_of_getElem? (i := 747) (by decide +kernel)⟩
theorem lw_p11 : lw_okq (⟨"LayerBook$Fall", "turnTrip", "(J)V"⟩, 10) := ⟨⟨by decide +kernel, by decide +kernel⟩, List.mem_of_getElem? (i := 110) (by decide +kernel), List.mem_of_getElem? (i := 754) (by decide +kernel), List.mem_of_getElem? (i := 755) (by decide +kernel)⟩
theorem lw_p12 : lw_okq (⟨"LayerBook$Fall", "lostShare", "()J"⟩, 10) := ⟨⟨by decide +kernel, by decide +kernel⟩, List.mem_of_getElem? (i := 110) (by decide +kernel), List.mem_of_getElem? (i := 758) (by decide +kernel), List.mem_of_getElem? (i := 759) (by decide +kernel)⟩
theorem lw_p13 : lw_okq (⟨"LayerBook$Fall", "takeSteps", "(ILLayerBook$Month;LLayerBook$Order;)V"⟩, 10) := ⟨⟨by decide +kernel, by decide +kernel⟩, List.mem_of_getElem? (i := 110) (by decide +kernel), List.mem_of_getElem? (i := 772) (by decide +kernel), List.mem_of_getElem? (i := 773) (by decide +kernel)⟩
theorem lw_p14 : lw_okq (⟨"LayerBook$Fall", "passes", "([IILLayerBook$Month;)Z"⟩, 10) := ⟨⟨by decide +kernel, by decide +kernel⟩, List.mem_of_getElem? (i := 110) (by decide +kernel), List.mem_of_getElem? (i := 776) (by decide +kernel), List.mem_of_getElem? (i := 777) (by decide +kernel)⟩
theorem lw_p15 : lw_okq (⟨"LayerBook$Fall", "field", "(IILLayerBook$Month;)J"⟩, 10) := ⟨⟨by decide +kernel, by decide +kernel⟩, List.mem_of_getElem? (i := 110) (by decide +kernel), List.mem_of_getElem? (i := 780) (by decide +kernel), List.mem_of_getElem? (i := 781) (by decide +kernel)⟩
def lw_privs_1 : List (MethodName × Nat) := [(⟨"LayerBook$Order", "writeRest", "(I)V"⟩, 2), (⟨"LayerBook$Tape", "at", "(I)I"⟩, 6), (⟨"LayerBook$Tape", "readNumber", "()V"⟩, 6), (⟨"LayerBook$Tape", "isSame", "(Ljava/lang/String;II)Z"⟩, 6), (⟨"LayerBook$Law", "readChain", "(LLayerBook$Tape;I)Z"⟩, 5), (⟨"LayerBook$Law", "readCompared", "(LLayerBook$Tape;)Z"⟩, 5), (⟨"LayerBook$Law", "opens", "(LLayerBook$Tape;)Z"⟩, 5), (⟨"LayerBook$Law", "closes", "()Z"⟩, 5), (⟨"LayerBook$Law", "write", "(I)Z"⟩, 5), (⟨"LayerBook$Law", "readOne", "(LLayerBook$Tape;)Z"⟩, 5), (⟨"LayerBook", "orderIn", "(I)LLayerBook$Order;"⟩, 15), (⟨"LayerBook$Fall", "turnTrip", "(J)V"⟩, 10), (⟨"LayerBook$Fall", "lostShare", "()J"⟩, 10), (⟨"LayerBook$Fall", "takeSteps", "(ILLayerBook$Month;LLayerBook$Order;)V"⟩, 10), (⟨"LayerBook$Fall", "passes", "([IILLayerBook$Month;)Z"⟩, 10), (⟨"LayerBook$Fall", "field", "(IILLayerBook$Month;)J"⟩, 10)]
theorem lw_r1 : ∀ q ∈ lw_privs_1, lw_okq q := List.forall_mem_cons.mpr ⟨lw_p0, List.forall_mem_cons.mpr ⟨lw_p1, List.forall_mem_cons.mpr ⟨lw_p2, List.forall_mem_cons.mpr ⟨lw_p3, List.forall_mem_cons.mpr ⟨lw_p4, List.forall_mem_cons.mpr ⟨lw_p5, List.forall_mem_cons.mpr ⟨lw_p6, List.forall_mem_cons.mpr ⟨lw_p7, List.forall_mem_cons.mpr ⟨lw_p8, List.forall_mem_cons.mpr ⟨lw_p9, List.forall_mem_cons.mpr ⟨lw_p10, List.forall_mem_cons.mpr ⟨lw_p11, List.forall_mem_cons.mpr ⟨lw_p12, List.forall_mem_cons.mpr ⟨lw_p13, List.forall_mem_cons.mpr ⟨lw_p14, List.forall_mem_cons.mpr ⟨lw_p15, fun _ h => absurd h List.not_mem_nil⟩⟩⟩⟩⟩⟩⟩⟩⟩⟩⟩⟩⟩⟩⟩⟩
theorem lw_p16 : lw_okq (⟨"LayerBook$Fall", "cover", "(J)J"⟩, 10) := ⟨⟨by decide +kernel, by decide +kernel⟩, List.mem_of_getElem? (i := 110) (by decide +kernel), List.mem_of_getElem? (i := 784) (by decide +kernel), List.mem_of_getElem? (i := 785) (by decide +kernel)⟩
theorem lw_p17 : lw_okq (⟨"LayerBook$Fall", "wish", "([ILLayerBook$Month;J)J"⟩, 10) := ⟨⟨by decide +kernel, by decide +kernel⟩, List.mem_of_getElem? (i := 110) (by decide +kernel), List.mem_of_getElem? (i := 793) (by decide +kernel), List.mem_of_getElem? (i := 794) (by decide +kernel)⟩
theorem lw_p18 : lw_okq (⟨"LayerBook$Fall", "paperOf", "([I)LLayerBook$Paper;"⟩, 10) := ⟨⟨by decide +kernel, by decide +kernel⟩, List.mem_of_getElem? (i := 110) (by decide +kernel), List.mem_of_getElem? (i := 797) (by decide +kernel), List.mem_of_getElem? (i := 798) (by decide +kernel)⟩
theorem lw_p19 : lw_okq (⟨"LayerBook$Fall", "give", "([IJI)V"⟩, 10) := ⟨⟨by decide +kernel, by decide +kernel⟩, List.mem_of_getElem? (i := 110) (by decide +kernel), List.mem_of_getElem? (i := 805) (by decide +kernel), List.mem_of_getElem? (i := 806) (by decide +kernel)⟩
theorem lw_p20 : lw_okq (⟨"LayerBook$Fall", "writeDown", "(J)V"⟩, 10) := ⟨⟨by decide +kernel, by decide +kernel⟩, List.mem_of_getElem? (i := 110) (by decide +kernel), List.mem_of_getElem? (i := 821) (by decide +kernel), List.mem_of_getElem? (i := 822) (by decide +kernel)⟩
theorem lw_p21 : lw_okq (⟨"LayerBook$Loan", "findPay", "(I)V"⟩, 8) := ⟨⟨by decide +kernel, by decide +kernel⟩, List.mem_of_getElem? (i := 34) (by decide +kernel), List.mem_of_getElem? (i := 863) (by decide +kernel), List.mem_of_getElem? (i := 864) (by decide +kernel)⟩
theorem lw_p22 : lw_okq (⟨"LayerBook$Loan", "wouldEnd", "(JI)Z"⟩, 8) := ⟨⟨by decide +kernel, by decide +kernel⟩, List.mem_of_getElem? (i := 34) (by decide +kernel), List.mem_of_getElem? (i := 874) (by decide +kernel), List.mem_of_getElem? (i := 875) (by decide +kernel)⟩
theorem lw_p23 : lw_okq (⟨"LayerBook$Pool", "draw", "(ILLayerBook$Loan;ILLayerBook$Month;)V"⟩, 7) := ⟨⟨by decide +kernel, by decide +kernel⟩, List.mem_of_getElem? (i := 27) (by decide +kernel), List.mem_of_getElem? (i := 882) (by decide +kernel), List.mem_of_getElem? (i := 883) (by decide +kernel)⟩
theorem lw_p24 : lw_okq (⟨"LayerBook$Pool", "chance", "(ILLayerBook$Loan;I)I"⟩, 7) := ⟨⟨by decide +kernel, by decide +kernel⟩, List.mem_of_getElem? (i := 27) (by decide +kernel), List.mem_of_getElem? (i := 886) (by decide +kernel), List.mem_of_getElem? (i := 887) (by decide +kernel)⟩
theorem lw_p25 : lw_okq (⟨"LayerBook$Pool", "lot", "(II)I"⟩, 7) := ⟨⟨by decide +kernel, by decide +kernel⟩, List.mem_of_getElem? (i := 27) (by decide +kernel), List.mem_of_getElem? (i := 893) (by decide +kernel), List.mem_of_getElem? (i := 894) (by decide +kernel)⟩
theorem lw_p26 : lw_okq (⟨"LayerBook$Pool", "fallLate", "(LLayerBook$Loan;ILLayerBook$Month;)V"⟩, 7) := ⟨⟨by decide +kernel, by decide +kernel⟩, List.mem_of_getElem? (i := 27) (by decide +kernel), List.mem_of_getElem? (i := 910) (by decide +kernel), List.mem_of_getElem? (i := 911) (by decide +kernel)⟩
theorem lw_p27 : lw_okq (⟨"LayerBook$Pool", "sell", "(LLayerBook$Loan;LLayerBook$Month;)V"⟩, 7) := ⟨⟨by decide +kernel, by decide +kernel⟩, List.mem_of_getElem? (i := 27) (by decide +kernel), List.mem_of_getElem? (i := 930) (by decide +kernel), List.mem_of_getElem? (i := 931) (by decide +kernel)⟩
theorem lw_p28 : lw_okq (⟨"LayerBook$Pool", "late", "()I"⟩, 7) := ⟨⟨by decide +kernel, by decide +kernel⟩, List.mem_of_getElem? (i := 27) (by decide +kernel), List.mem_of_getElem? (i := 936) (by decide +kernel), List.mem_of_getElem? (i := 937) (by decide +kernel)⟩
theorem lw_p29 : lw_okq (⟨"LayerBook", "refusalOf", "(III)I"⟩, 15) := ⟨⟨by decide +kernel, by decide +kernel⟩, List.mem_of_getElem? (i := 19) (by decide +kernel), List.mem_of_getElem? (i := 961) (by decide +kernel), List.mem_of_getElem? (i := 962) (by decide +kernel)⟩
theorem lw_p30 : lw_okq (⟨"LayerBook", "firstUnlike", "([IIII)I"⟩, 15) := ⟨⟨by decide +kernel, by decide +kernel⟩, List.mem_of_getElem? (i := 19) (by decide +kernel), List.mem_of_getElem? (i := 969) (by decide +kernel), List.mem_of_getElem? (i := 970) (by decide +kernel)⟩
theorem lw_p31 : lw_okq (⟨"LayerBookModel", "spell", "(IJ)V"⟩, 81) := ⟨⟨by decide +kernel, by decide +kernel⟩, List.mem_of_getElem? (i := 1025) (by decide +kernel), List.mem_of_getElem? (i := 1032) (by decide +kernel), List.mem_of_getElem? (i := 1033) (by decide +kernel)⟩
def lw_privs_2 : List (MethodName × Nat) := [(⟨"LayerBook$Fall", "cover", "(J)J"⟩, 10), (⟨"LayerBook$Fall", "wish", "([ILLayerBook$Month;J)J"⟩, 10), (⟨"LayerBook$Fall", "paperOf", "([I)LLayerBook$Paper;"⟩, 10), (⟨"LayerBook$Fall", "give", "([IJI)V"⟩, 10), (⟨"LayerBook$Fall", "writeDown", "(J)V"⟩, 10), (⟨"LayerBook$Loan", "findPay", "(I)V"⟩, 8), (⟨"LayerBook$Loan", "wouldEnd", "(JI)Z"⟩, 8), (⟨"LayerBook$Pool", "draw", "(ILLayerBook$Loan;ILLayerBook$Month;)V"⟩, 7), (⟨"LayerBook$Pool", "chance", "(ILLayerBook$Loan;I)I"⟩, 7), (⟨"LayerBook$Pool", "lot", "(II)I"⟩, 7), (⟨"LayerBook$Pool", "fallLate", "(LLayerBook$Loan;ILLayerBook$Month;)V"⟩, 7), (⟨"LayerBook$Pool", "sell", "(LLayerBook$Loan;LLayerBook$Month;)V"⟩, 7), (⟨"LayerBook$Pool", "late", "()I"⟩, 7), (⟨"LayerBook", "refusalOf", "(III)I"⟩, 15), (⟨"LayerBook", "firstUnlike", "([IIII)I"⟩, 15), (⟨"LayerBookModel", "spell", "(IJ)V"⟩, 81)]
theorem lw_r2 : ∀ q ∈ lw_privs_2, lw_okq q := List.forall_mem_cons.mpr ⟨lw_p16, List.forall_mem_cons.mpr ⟨lw_p17, List.forall_mem_cons.mpr ⟨lw_p18, List.forall_mem_cons.mpr ⟨lw_p19, List.forall_mem_cons.mpr ⟨lw_p20, List.forall_mem_cons.mpr ⟨lw_p21, List.forall_mem_cons.mpr ⟨lw_p22, List.forall_mem_cons.mpr ⟨lw_p23, List.forall_mem_cons.mpr ⟨lw_p24, List.forall_mem_cons.mpr ⟨lw_p25, List.forall_mem_cons.mpr ⟨lw_p26, List.forall_mem_cons.mpr ⟨lw_p27, List.forall_mem_cons.mpr ⟨lw_p28, List.forall_mem_cons.mpr ⟨lw_p29, List.forall_mem_cons.mpr ⟨lw_p30, List.forall_mem_cons.mpr ⟨lw_p31, fun _ h => absurd h List.not_mem_nil⟩⟩⟩⟩⟩⟩⟩⟩⟩⟩⟩⟩⟩⟩⟩⟩
theorem lw_p32 : lw_okq (⟨"LayerBookModel", "isLoan", "(I)Z"⟩, 81) := ⟨⟨by decide +kernel, by decide +kernel⟩, List.mem_of_getElem? (i := 1025) (by decide +kernel), List.mem_of_getElem? (i := 1299) (by decide +kernel), List.mem_of_getElem? (i := 1300) (by decide +kernel)⟩
theorem lw_p33 : lw_okq (⟨"LayerBookModel", "read", "(II)I"⟩, 81) := ⟨⟨by decide +kernel, by decide +kernel⟩, List.mem_of_getElem? (i := 1025) (by decide +kernel), List.mem_of_getElem? (i := 1320) (by decide +kernel), List.mem_of_getElem? (i := 1321) (by decide +kernel)⟩
theorem lw_p34 : lw_okq (⟨"LayerBookModel", "next", "()V"⟩, 81) := ⟨⟨by decide +kernel, by decide +kernel⟩, List.mem_of_getElem? (i := 1025) (by decide +kernel), List.mem_of_getElem? (i := 1324) (by decide +kernel), List.mem_of_getElem? (i := 1325) (by decide +kernel)⟩
theorem lw_p35 : lw_okq (⟨"LayerBookModel", "byteAt", "(I)I"⟩, 81) := ⟨⟨by decide +kernel, by decide +kernel⟩, List.mem_of_getElem? (i := 1025) (by decide +kernel), List.mem_of_getElem? (i := 1328) (by decide +kernel), List.mem_of_getElem? (i := 1329) (by decide +kernel)⟩
theorem lw_p36 : lw_okq (⟨"LayerBookModel", "part", "(J)I"⟩, 81) := ⟨⟨by decide +kernel, by decide +kernel⟩, List.mem_of_getElem? (i := 1025) (by decide +kernel), List.mem_of_getElem? (i := 1338) (by decide +kernel), List.mem_of_getElem? (i := 1339) (by decide +kernel)⟩
theorem lw_p37 : lw_okq (⟨"LayerBookModel", "isWord", "(J)Z"⟩, 81) := ⟨⟨by decide +kernel, by decide +kernel⟩, List.mem_of_getElem? (i := 1025) (by decide +kernel), List.mem_of_getElem? (i := 1342) (by decide +kernel), List.mem_of_getElem? (i := 1343) (by decide +kernel)⟩
theorem lw_p38 : lw_okq (⟨"LayerBookModel", "fail", "()V"⟩, 81) := ⟨⟨by decide +kernel, by decide +kernel⟩, List.mem_of_getElem? (i := 1025) (by decide +kernel), List.mem_of_getElem? (i := 1346) (by decide +kernel), List.mem_of_getElem? (i := 1347) (by decide +kernel)⟩
theorem lw_p39 : lw_okq (⟨"LayerBookModel", "either", "()I"⟩, 81) := ⟨⟨by decide +kernel, by decide +kernel⟩, List.mem_of_getElem? (i := 1025) (by decide +kernel), List.mem_of_getElem? (i := 1350) (by decide +kernel), List.mem_of_getElem? (i := 1351) (by decide +kernel)⟩
theorem lw_p40 : lw_okq (⟨"LayerBookModel", "both", "()I"⟩, 81) := ⟨⟨by decide +kernel, by decide +kernel⟩, List.mem_of_getElem? (i := 1025) (by decide +kernel), List.mem_of_getElem? (i := 1354) (by decide +kernel), List.mem_of_getElem? (i := 1355) (by decide +kernel)⟩
theorem lw_p41 : lw_okq (⟨"LayerBookModel", "not", "()I"⟩, 81) := ⟨⟨by decide +kernel, by decide +kernel⟩, List.mem_of_getElem? (i := 1025) (by decide +kernel), List.mem_of_getElem? (i := 1358) (by decide +kernel), List.mem_of_getElem? (i := 1359) (by decide +kernel)⟩
theorem lw_p42 : lw_okq (⟨"LayerBookModel", "opens", "()Z"⟩, 81) := ⟨⟨by decide +kernel, by decide +kernel⟩, List.mem_of_getElem? (i := 1025) (by decide +kernel), List.mem_of_getElem? (i := 1363) (by decide +kernel), List.mem_of_getElem? (i := 1364) (by decide +kernel)⟩
theorem lw_p43 : lw_okq (⟨"LayerBookModel", "added", "()I"⟩, 81) := ⟨⟨by decide +kernel, by decide +kernel⟩, List.mem_of_getElem? (i := 1025) (by decide +kernel), List.mem_of_getElem? (i := 1367) (by decide +kernel), List.mem_of_getElem? (i := 1368) (by decide +kernel)⟩
theorem lw_p44 : lw_okq (⟨"LayerBookModel", "term", "()I"⟩, 81) := ⟨⟨by decide +kernel, by decide +kernel⟩, List.mem_of_getElem? (i := 1025) (by decide +kernel), List.mem_of_getElem? (i := 1371) (by decide +kernel), List.mem_of_getElem? (i := 1372) (by decide +kernel)⟩
theorem lw_p45 : lw_okq (⟨"LayerBookModel", "one", "()I"⟩, 81) := ⟨⟨by decide +kernel, by decide +kernel⟩, List.mem_of_getElem? (i := 1025) (by decide +kernel), List.mem_of_getElem? (i := 1375) (by decide +kernel), List.mem_of_getElem? (i := 1376) (by decide +kernel)⟩
theorem lw_p46 : lw_okq (⟨"LayerBookModel", "isSign", "(I)Z"⟩, 81) := ⟨⟨by decide +kernel, by decide +kernel⟩, List.mem_of_getElem? (i := 1025) (by decide +kernel), List.mem_of_getElem? (i := 1379) (by decide +kernel), List.mem_of_getElem? (i := 1380) (by decide +kernel)⟩
theorem lw_p47 : lw_okq (⟨"LayerBookModel", "name", "()I"⟩, 81) := ⟨⟨by decide +kernel, by decide +kernel⟩, List.mem_of_getElem? (i := 1025) (by decide +kernel), List.mem_of_getElem? (i := 1383) (by decide +kernel), List.mem_of_getElem? (i := 1384) (by decide +kernel)⟩
def lw_privs_3 : List (MethodName × Nat) := [(⟨"LayerBookModel", "isLoan", "(I)Z"⟩, 81), (⟨"LayerBookModel", "read", "(II)I"⟩, 81), (⟨"LayerBookModel", "next", "()V"⟩, 81), (⟨"LayerBookModel", "byteAt", "(I)I"⟩, 81), (⟨"LayerBookModel", "part", "(J)I"⟩, 81), (⟨"LayerBookModel", "isWord", "(J)Z"⟩, 81), (⟨"LayerBookModel", "fail", "()V"⟩, 81), (⟨"LayerBookModel", "either", "()I"⟩, 81), (⟨"LayerBookModel", "both", "()I"⟩, 81), (⟨"LayerBookModel", "not", "()I"⟩, 81), (⟨"LayerBookModel", "opens", "()Z"⟩, 81), (⟨"LayerBookModel", "added", "()I"⟩, 81), (⟨"LayerBookModel", "term", "()I"⟩, 81), (⟨"LayerBookModel", "one", "()I"⟩, 81), (⟨"LayerBookModel", "isSign", "(I)Z"⟩, 81), (⟨"LayerBookModel", "name", "()I"⟩, 81)]
theorem lw_r3 : ∀ q ∈ lw_privs_3, lw_okq q := List.forall_mem_cons.mpr ⟨lw_p32, List.forall_mem_cons.mpr ⟨lw_p33, List.forall_mem_cons.mpr ⟨lw_p34, List.forall_mem_cons.mpr ⟨lw_p35, List.forall_mem_cons.mpr ⟨lw_p36, List.forall_mem_cons.mpr ⟨lw_p37, List.forall_mem_cons.mpr ⟨lw_p38, List.forall_mem_cons.mpr ⟨lw_p39, List.forall_mem_cons.mpr ⟨lw_p40, List.forall_mem_cons.mpr ⟨lw_p41, List.forall_mem_cons.mpr ⟨lw_p42, List.forall_mem_cons.mpr ⟨lw_p43, List.forall_mem_cons.mpr ⟨lw_p44, List.forall_mem_cons.mpr ⟨lw_p45, List.forall_mem_cons.mpr ⟨lw_p46, List.forall_mem_cons.mpr ⟨lw_p47, fun _ h => absurd h List.not_mem_nil⟩⟩⟩⟩⟩⟩⟩⟩⟩⟩⟩⟩⟩⟩⟩⟩
theorem lw_p48 : lw_okq (⟨"LayerBookModel", "saysOf", "(III)I"⟩, 81) := ⟨⟨by decide +kernel, by decide +kernel⟩, List.mem_of_getElem? (i := 1025) (by decide +kernel), List.mem_of_getElem? (i := 1407) (by decide +kernel), List.mem_of_getElem? (i := 1408) (by decide +kernel)⟩
theorem lw_p49 : lw_okq (⟨"LayerBookModel", "readStep", "(I)V"⟩, 81) := ⟨⟨by decide +kernel, by decide +kernel⟩, List.mem_of_getElem? (i := 1025) (by decide +kernel), List.mem_of_getElem? (i := 1417) (by decide +kernel), List.mem_of_getElem? (i := 1418) (by decide +kernel)⟩
theorem lw_p50 : lw_okq (⟨"LayerBookModel", "paperHere", "()I"⟩, 81) := ⟨⟨by decide +kernel, by decide +kernel⟩, List.mem_of_getElem? (i := 1025) (by decide +kernel), List.mem_of_getElem? (i := 1426) (by decide +kernel), List.mem_of_getElem? (i := 1427) (by decide +kernel)⟩
theorem lw_p51 : lw_okq (⟨"LayerBookModel", "numberHere", "()I"⟩, 81) := ⟨⟨by decide +kernel, by decide +kernel⟩, List.mem_of_getElem? (i := 1025) (by decide +kernel), List.mem_of_getElem? (i := 1431) (by decide +kernel), List.mem_of_getElem? (i := 1432) (by decide +kernel)⟩
theorem lw_p52 : lw_okq (⟨"LayerBookModel", "fieldHere", "()I"⟩, 81) := ⟨⟨by decide +kernel, by decide +kernel⟩, List.mem_of_getElem? (i := 1025) (by decide +kernel), List.mem_of_getElem? (i := 1436) (by decide +kernel), List.mem_of_getElem? (i := 1437) (by decide +kernel)⟩
theorem lw_p53 : lw_okq (⟨"LayerBookModel", "isPaper", "(I)Z"⟩, 81) := ⟨⟨by decide +kernel, by decide +kernel⟩, List.mem_of_getElem? (i := 1025) (by decide +kernel), List.mem_of_getElem? (i := 1456) (by decide +kernel), List.mem_of_getElem? (i := 1457) (by decide +kernel)⟩
theorem lw_p54 : lw_okq (⟨"LayerBookModel", "anew", "()V"⟩, 81) := ⟨⟨by decide +kernel, by decide +kernel⟩, List.mem_of_getElem? (i := 1025) (by decide +kernel), List.mem_of_getElem? (i := 1475) (by decide +kernel), List.mem_of_getElem? (i := 1476) (by decide +kernel)⟩
theorem lw_p55 : lw_okq (⟨"LayerBookModel", "pay", "(I)V"⟩, 81) := ⟨⟨by decide +kernel, by decide +kernel⟩, List.mem_of_getElem? (i := 1025) (by decide +kernel), List.mem_of_getElem? (i := 1479) (by decide +kernel), List.mem_of_getElem? (i := 1480) (by decide +kernel)⟩
theorem lw_p56 : lw_okq (⟨"LayerBookModel", "lostNow", "()J"⟩, 81) := ⟨⟨by decide +kernel, by decide +kernel⟩, List.mem_of_getElem? (i := 1025) (by decide +kernel), List.mem_of_getElem? (i := 1483) (by decide +kernel), List.mem_of_getElem? (i := 1484) (by decide +kernel)⟩
theorem lw_p57 : lw_okq (⟨"LayerBookModel", "isSo", "(II)Z"⟩, 81) := ⟨⟨by decide +kernel, by decide +kernel⟩, List.mem_of_getElem? (i := 1025) (by decide +kernel), List.mem_of_getElem? (i := 1489) (by decide +kernel), List.mem_of_getElem? (i := 1490) (by decide +kernel)⟩
theorem lw_p58 : lw_okq (⟨"LayerBookModel", "field", "(II)J"⟩, 81) := ⟨⟨by decide +kernel, by decide +kernel⟩, List.mem_of_getElem? (i := 1025) (by decide +kernel), List.mem_of_getElem? (i := 1493) (by decide +kernel), List.mem_of_getElem? (i := 1494) (by decide +kernel)⟩
theorem lw_p59 : lw_okq (⟨"LayerBookModel", "wish", "(IIJ)J"⟩, 81) := ⟨⟨by decide +kernel, by decide +kernel⟩, List.mem_of_getElem? (i := 1025) (by decide +kernel), List.mem_of_getElem? (i := 1499) (by decide +kernel), List.mem_of_getElem? (i := 1500) (by decide +kernel)⟩
theorem lw_p60 : lw_okq (⟨"LayerBookModel", "goOn", "()V"⟩, 81) := ⟨⟨by decide +kernel, by decide +kernel⟩, List.mem_of_getElem? (i := 1025) (by decide +kernel), List.mem_of_getElem? (i := 1507) (by decide +kernel), List.mem_of_getElem? (i := 1508) (by decide +kernel)⟩
theorem lw_p61 : lw_okq (⟨"LayerBookModel", "collect", "(I)V"⟩, 81) := ⟨⟨by decide +kernel, by decide +kernel⟩, List.mem_of_getElem? (i := 1025) (by decide +kernel), List.mem_of_getElem? (i := 1511) (by decide +kernel), List.mem_of_getElem? (i := 1512) (by decide +kernel)⟩
theorem lw_p62 : lw_okq (⟨"LayerBookModel", "pool", "()I"⟩, 81) := ⟨⟨by decide +kernel, by decide +kernel⟩, List.mem_of_getElem? (i := 1025) (by decide +kernel), List.mem_of_getElem? (i := 1515) (by decide +kernel), List.mem_of_getElem? (i := 1516) (by decide +kernel)⟩
theorem lw_p63 : lw_okq (⟨"LayerBookModel", "goes", "(II)V"⟩, 81) := ⟨⟨by decide +kernel, by decide +kernel⟩, List.mem_of_getElem? (i := 1025) (by decide +kernel), List.mem_of_getElem? (i := 1534) (by decide +kernel), List.mem_of_getElem? (i := 1535) (by decide +kernel)⟩
def lw_privs_4 : List (MethodName × Nat) := [(⟨"LayerBookModel", "saysOf", "(III)I"⟩, 81), (⟨"LayerBookModel", "readStep", "(I)V"⟩, 81), (⟨"LayerBookModel", "paperHere", "()I"⟩, 81), (⟨"LayerBookModel", "numberHere", "()I"⟩, 81), (⟨"LayerBookModel", "fieldHere", "()I"⟩, 81), (⟨"LayerBookModel", "isPaper", "(I)Z"⟩, 81), (⟨"LayerBookModel", "anew", "()V"⟩, 81), (⟨"LayerBookModel", "pay", "(I)V"⟩, 81), (⟨"LayerBookModel", "lostNow", "()J"⟩, 81), (⟨"LayerBookModel", "isSo", "(II)Z"⟩, 81), (⟨"LayerBookModel", "field", "(II)J"⟩, 81), (⟨"LayerBookModel", "wish", "(IIJ)J"⟩, 81), (⟨"LayerBookModel", "goOn", "()V"⟩, 81), (⟨"LayerBookModel", "collect", "(I)V"⟩, 81), (⟨"LayerBookModel", "pool", "()I"⟩, 81), (⟨"LayerBookModel", "goes", "(II)V"⟩, 81)]
theorem lw_r4 : ∀ q ∈ lw_privs_4, lw_okq q := List.forall_mem_cons.mpr ⟨lw_p48, List.forall_mem_cons.mpr ⟨lw_p49, List.forall_mem_cons.mpr ⟨lw_p50, List.forall_mem_cons.mpr ⟨lw_p51, List.forall_mem_cons.mpr ⟨lw_p52, List.forall_mem_cons.mpr ⟨lw_p53, List.forall_mem_cons.mpr ⟨lw_p54, List.forall_mem_cons.mpr ⟨lw_p55, List.forall_mem_cons.mpr ⟨lw_p56, List.forall_mem_cons.mpr ⟨lw_p57, List.forall_mem_cons.mpr ⟨lw_p58, List.forall_mem_cons.mpr ⟨lw_p59, List.forall_mem_cons.mpr ⟨lw_p60, List.forall_mem_cons.mpr ⟨lw_p61, List.forall_mem_cons.mpr ⟨lw_p62, List.forall_mem_cons.mpr ⟨lw_p63, fun _ h => absurd h List.not_mem_nil⟩⟩⟩⟩⟩⟩⟩⟩⟩⟩⟩⟩⟩⟩⟩⟩
theorem lw_p64 : lw_okq (⟨"LayerBookModel", "lot", "(II)I"⟩, 81) := ⟨⟨by decide +kernel, by decide +kernel⟩, List.mem_of_getElem? (i := 1025) (by decide +kernel), List.mem_of_getElem? (i := 1541) (by decide +kernel), List.mem_of_getElem? (i := 1542) (by decide +kernel)⟩
theorem lw_p65 : lw_okq (⟨"LayerBookModel", "paysOff", "(IIII)V"⟩, 81) := ⟨⟨by decide +kernel, by decide +kernel⟩, List.mem_of_getElem? (i := 1025) (by decide +kernel), List.mem_of_getElem? (i := 1549) (by decide +kernel), List.mem_of_getElem? (i := 1550) (by decide +kernel)⟩
theorem lw_p66 : lw_okq (⟨"LayerBookModel", "principal", "(III)I"⟩, 81) := ⟨⟨by decide +kernel, by decide +kernel⟩, List.mem_of_getElem? (i := 1025) (by decide +kernel), List.mem_of_getElem? (i := 1553) (by decide +kernel), List.mem_of_getElem? (i := 1554) (by decide +kernel)⟩
theorem lw_p67 : lw_okq (⟨"LayerBookModel", "turn", "(Z)V"⟩, 81) := ⟨⟨by decide +kernel, by decide +kernel⟩, List.mem_of_getElem? (i := 1025) (by decide +kernel), List.mem_of_getElem? (i := 1569) (by decide +kernel), List.mem_of_getElem? (i := 1570) (by decide +kernel)⟩
theorem lw_p68 : lw_okq (⟨"LayerBookModel", "pass", "(ZJ)J"⟩, 81) := ⟨⟨by decide +kernel, by decide +kernel⟩, List.mem_of_getElem? (i := 1025) (by decide +kernel), List.mem_of_getElem? (i := 1573) (by decide +kernel), List.mem_of_getElem? (i := 1574) (by decide +kernel)⟩
theorem lw_p69 : lw_okq (⟨"LayerBookModel", "noRow", "(IIII)I"⟩, 81) := ⟨⟨by decide +kernel, by decide +kernel⟩, List.mem_of_getElem? (i := 1025) (by decide +kernel), List.mem_of_getElem? (i := 1596) (by decide +kernel), List.mem_of_getElem? (i := 1597) (by decide +kernel)⟩
def lw_privs_5 : List (MethodName × Nat) := [(⟨"LayerBookModel", "lot", "(II)I"⟩, 81), (⟨"LayerBookModel", "paysOff", "(IIII)V"⟩, 81), (⟨"LayerBookModel", "principal", "(III)I"⟩, 81), (⟨"LayerBookModel", "turn", "(Z)V"⟩, 81), (⟨"LayerBookModel", "pass", "(ZJ)J"⟩, 81), (⟨"LayerBookModel", "noRow", "(IIII)I"⟩, 81)]
theorem lw_r5 : ∀ q ∈ lw_privs_5, lw_okq q := List.forall_mem_cons.mpr ⟨lw_p64, List.forall_mem_cons.mpr ⟨lw_p65, List.forall_mem_cons.mpr ⟨lw_p66, List.forall_mem_cons.mpr ⟨lw_p67, List.forall_mem_cons.mpr ⟨lw_p68, List.forall_mem_cons.mpr ⟨lw_p69, fun _ h => absurd h List.not_mem_nil⟩⟩⟩⟩⟩⟩
def lw_privs : List (MethodName × Nat) := lw_privs_1 ++ (lw_privs_2 ++ (lw_privs_3 ++ (lw_privs_4 ++ (lw_privs_5))))
def lw_tbl : List Cond := k2_sels lw_privs ++ tables_1
theorem lw_privs_ok : ∀ q ∈ lw_privs, lw_okq q := by
  show ∀ q ∈ lw_privs_1 ++ (lw_privs_2 ++ (lw_privs_3 ++ (lw_privs_4 ++ (lw_privs_5)))), lw_okq q
  exact List.forall_mem_append.mpr ⟨lw_r1, List.forall_mem_append.mpr ⟨lw_r2, List.forall_mem_append.mpr ⟨lw_r3, List.forall_mem_append.mpr ⟨lw_r4, lw_r5⟩⟩⟩⟩
def RX0 : String := "LayerBook$Fall"
def TX0 : u_T := fun k => match k with
  | 0 => ("LayerBook$Fall", "papers", "[LLayerBook$Paper;", true)
  | 1 => ("LayerBook$Fall", "count", "I", false)
  | 2 => ("LayerBook$Fall", "bound", "I", false)
  | 3 => ("LayerBook$Fall", "cure", "I", false)
  | 4 => ("LayerBook$Fall", "reserve", "J", false)
  | 5 => ("LayerBook$Fall", "tripped", "Z", false)
  | 6 => ("LayerBook$Fall", "quiet", "I", false)
  | 7 => ("LayerBook$Fall", "lost", "J", false)
  | 8 => ("LayerBook$Fall", "firstPool", "J", false)
  | _ => ("LayerBook$Fall", "rested", "J", false)
def tyX0 : Nat → FieldType := fun k => match k with
  | 0 => .array (.object "LayerBook$Paper")
  | 1 => .int
  | 2 => .int
  | 3 => .int
  | 4 => .long
  | 5 => .boolean
  | 6 => .int
  | 7 => .long
  | 8 => .long
  | _ => .long
theorem nmX0 : ∀ a, a < 10 → ∀ b, b < 10 → a ≠ b → (TX0 a).2.1 ≠ (TX0 b).2.1 := by decide +kernel
theorem tyX0_ok : ∀ k, k < 10 → parseFieldDescriptor (TX0 k).2.2.1 = some (tyX0 k) := by decide +kernel
abbrev cX0_init : ByteArray := prog_2_method_1_code
def yX0_init : MethodName := ⟨RX0, "<init>", "()V"⟩
abbrev cX0_restart : ByteArray := prog_2_method_2_code
def yX0_restart : MethodName := ⟨RX0, "restart", "()V"⟩
abbrev cX0_copy : ByteArray := prog_2_method_3_code
def yX0_copy : MethodName := ⟨RX0, "copy", "(LLayerBook$Fall;)V"⟩
abbrev cX0_pour : ByteArray := prog_2_method_4_code
def yX0_pour : MethodName := ⟨RX0, "pour", "(ILLayerBook$Month;LLayerBook$Order;)V"⟩
abbrev cX0_turnTrip : ByteArray := prog_2_method_5_code
def yX0_turnTrip : MethodName := ⟨RX0, "turnTrip", "(J)V"⟩
abbrev cX0_lostShare : ByteArray := prog_2_method_6_code
def yX0_lostShare : MethodName := ⟨RX0, "lostShare", "()J"⟩
abbrev cX0_takeSteps : ByteArray := prog_2_method_7_code
def yX0_takeSteps : MethodName := ⟨RX0, "takeSteps", "(ILLayerBook$Month;LLayerBook$Order;)V"⟩
abbrev cX0_passes : ByteArray := prog_2_method_8_code
def yX0_passes : MethodName := ⟨RX0, "passes", "([IILLayerBook$Month;)Z"⟩
abbrev cX0_field : ByteArray := prog_2_method_9_code
def yX0_field : MethodName := ⟨RX0, "field", "(IILLayerBook$Month;)J"⟩
abbrev cX0_cover : ByteArray := prog_2_method_10_code
def yX0_cover : MethodName := ⟨RX0, "cover", "(J)J"⟩
abbrev cX0_wish : ByteArray := prog_2_method_11_code
def yX0_wish : MethodName := ⟨RX0, "wish", "([ILLayerBook$Month;J)J"⟩
abbrev cX0_give : ByteArray := prog_2_method_12_code
def yX0_give : MethodName := ⟨RX0, "give", "([IJI)V"⟩
abbrev cX0_paperOf : ByteArray := prog_2_method_13_code
def yX0_paperOf : MethodName := ⟨RX0, "paperOf", "([I)LLayerBook$Paper;"⟩
abbrev cX0_writeDown : ByteArray := prog_2_method_14_code
def yX0_writeDown : MethodName := ⟨RX0, "writeDown", "(J)V"⟩
def RX1 : String := "LayerBook$Law"
def TX1 : u_T := fun k => match k with
  | 0 => ("LayerBook$Law", "code", "[I", true)
  | 1 => ("LayerBook$Law", "starts", "[I", true)
  | 2 => ("LayerBook$Law", "stack", "[I", true)
  | 3 => ("LayerBook$Law", "length", "I", false)
  | _ => ("LayerBook$Law", "open", "I", false)
def tyX1 : Nat → FieldType := fun k => match k with
  | 0 => .array .int
  | 1 => .array .int
  | 2 => .array .int
  | 3 => .int
  | _ => .int
theorem nmX1 : ∀ a, a < 5 → ∀ b, b < 5 → a ≠ b → (TX1 a).2.1 ≠ (TX1 b).2.1 := by decide +kernel
theorem tyX1_ok : ∀ k, k < 5 → parseFieldDescriptor (TX1 k).2.2.1 = some (tyX1 k) := by decide +kernel
abbrev cX1_init : ByteArray := prog_3_method_1_code
def yX1_init : MethodName := ⟨RX1, "<init>", "()V"⟩
abbrev cX1_read : ByteArray := prog_3_method_2_code
def yX1_read : MethodName := ⟨RX1, "read", "(LLayerBook$Tape;)I"⟩
abbrev cX1_readChain : ByteArray := prog_3_method_3_code
def yX1_readChain : MethodName := ⟨RX1, "readChain", "(LLayerBook$Tape;I)Z"⟩
abbrev cX1_signOf : ByteArray := prog_3_method_4_code
def yX1_signOf : MethodName := ⟨RX1, "signOf", "(LLayerBook$Tape;I)I"⟩
abbrev cX1_readCompared : ByteArray := prog_3_method_5_code
def yX1_readCompared : MethodName := ⟨RX1, "readCompared", "(LLayerBook$Tape;)Z"⟩
abbrev cX1_readOne : ByteArray := prog_3_method_6_code
def yX1_readOne : MethodName := ⟨RX1, "readOne", "(LLayerBook$Tape;)Z"⟩
abbrev cX1_opens : ByteArray := prog_3_method_7_code
def yX1_opens : MethodName := ⟨RX1, "opens", "(LLayerBook$Tape;)Z"⟩
abbrev cX1_closes : ByteArray := prog_3_method_8_code
def yX1_closes : MethodName := ⟨RX1, "closes", "()Z"⟩
abbrev cX1_write : ByteArray := prog_3_method_9_code
def yX1_write : MethodName := ⟨RX1, "write", "(I)Z"⟩
abbrev cX1_value : ByteArray := prog_3_method_10_code
def yX1_value : MethodName := ⟨RX1, "value", "(ILLayerBook$Loan;I)I"⟩
abbrev cX1_joined : ByteArray := prog_3_method_11_code
def yX1_joined : MethodName := ⟨RX1, "joined", "(III)I"⟩
abbrev cX1_truth : ByteArray := prog_3_method_12_code
def yX1_truth : MethodName := ⟨RX1, "truth", "(Z)I"⟩
abbrev cX1_named : ByteArray := prog_3_method_13_code
def yX1_named : MethodName := ⟨RX1, "named", "(ILLayerBook$Loan;I)I"⟩
def RX2 : String := "LayerBook$Loan"
def TX2 : u_T := fun k => match k with
  | 0 => ("LayerBook$Loan", "kind", "I", false)
  | 1 => ("LayerBook$Loan", "balance", "J", false)
  | 2 => ("LayerBook$Loan", "rate", "I", false)
  | 3 => ("LayerBook$Loan", "months", "I", false)
  | 4 => ("LayerBook$Loan", "owed", "J", false)
  | 5 => ("LayerBook$Loan", "state", "I", false)
  | 6 => ("LayerBook$Loan", "pay", "J", false)
  | _ => ("LayerBook$Loan", "failedIn", "I", false)
def tyX2 : Nat → FieldType := fun k => match k with
  | 0 => .int
  | 1 => .long
  | 2 => .int
  | 3 => .int
  | 4 => .long
  | 5 => .int
  | 6 => .long
  | _ => .int
theorem nmX2 : ∀ a, a < 8 → ∀ b, b < 8 → a ≠ b → (TX2 a).2.1 ≠ (TX2 b).2.1 := by decide +kernel
theorem tyX2_ok : ∀ k, k < 8 → parseFieldDescriptor (TX2 k).2.2.1 = some (tyX2 k) := by decide +kernel
abbrev cX2_init : ByteArray := prog_4_method_1_code
def yX2_init : MethodName := ⟨RX2, "<init>", "()V"⟩
abbrev cX2_open : ByteArray := prog_4_method_2_code
def yX2_open : MethodName := ⟨RX2, "open", "(IIII)V"⟩
abbrev cX2_copy : ByteArray := prog_4_method_3_code
def yX2_copy : MethodName := ⟨RX2, "copy", "(LLayerBook$Loan;)V"⟩
abbrev cX2_isKind : ByteArray := prog_4_method_4_code
def yX2_isKind : MethodName := ⟨RX2, "isKind", "(I)Z"⟩
abbrev cX2_goesOn : ByteArray := prog_4_method_5_code
def yX2_goesOn : MethodName := ⟨RX2, "goesOn", "()Z"⟩
abbrev cX2_isPooled : ByteArray := prog_4_method_6_code
def yX2_isPooled : MethodName := ⟨RX2, "isPooled", "()Z"⟩
abbrev cX2_isSoldIn : ByteArray := prog_4_method_7_code
def yX2_isSoldIn : MethodName := ⟨RX2, "isSoldIn", "(I)Z"⟩
abbrev cX2_left : ByteArray := prog_4_method_8_code
def yX2_left : MethodName := ⟨RX2, "left", "(I)I"⟩
abbrev cX2_isLast : ByteArray := prog_4_method_9_code
def yX2_isLast : MethodName := ⟨RX2, "isLast", "(I)Z"⟩
abbrev cX2_rests : ByteArray := prog_4_method_10_code
def yX2_rests : MethodName := ⟨RX2, "rests", "(I)Z"⟩
abbrev cX2_interest : ByteArray := prog_4_method_11_code
def yX2_interest : MethodName := ⟨RX2, "interest", "()J"⟩
abbrev cX2_principal : ByteArray := prog_4_method_12_code
def yX2_principal : MethodName := ⟨RX2, "principal", "(I)J"⟩
abbrev cX2_begin : ByteArray := prog_4_method_13_code
def yX2_begin : MethodName := ⟨RX2, "begin", "(I)V"⟩
abbrev cX2_findPay : ByteArray := prog_4_method_14_code
def yX2_findPay : MethodName := ⟨RX2, "findPay", "(I)V"⟩
abbrev cX2_wouldEnd : ByteArray := prog_4_method_15_code
def yX2_wouldEnd : MethodName := ⟨RX2, "wouldEnd", "(JI)Z"⟩
def RX3 : String := "LayerBook$Month"
def TX3 : u_T := fun k => match k with
  | 0 => ("LayerBook$Month", "interests", "J", false)
  | 1 => ("LayerBook$Month", "principals", "J", false)
  | 2 => ("LayerBook$Month", "backs", "J", false)
  | 3 => ("LayerBook$Month", "advanced", "J", false)
  | 4 => ("LayerBook$Month", "paidBack", "J", false)
  | 5 => ("LayerBook$Month", "cash", "J", false)
  | 6 => ("LayerBook$Month", "poolAhead", "J", false)
  | 7 => ("LayerBook$Month", "poolBehind", "J", false)
  | 8 => ("LayerBook$Month", "loss", "J", false)
  | 9 => ("LayerBook$Month", "late", "I", false)
  | 10 => ("LayerBook$Month", "reserve", "J", false)
  | 11 => ("LayerBook$Month", "tripped", "Z", false)
  | _ => ("LayerBook$Month", "took", "[J", true)
def tyX3 : Nat → FieldType := fun k => match k with
  | 0 => .long
  | 1 => .long
  | 2 => .long
  | 3 => .long
  | 4 => .long
  | 5 => .long
  | 6 => .long
  | 7 => .long
  | 8 => .long
  | 9 => .int
  | 10 => .long
  | 11 => .boolean
  | _ => .array .long
theorem nmX3 : ∀ a, a < 13 → ∀ b, b < 13 → a ≠ b → (TX3 a).2.1 ≠ (TX3 b).2.1 := by decide +kernel
theorem tyX3_ok : ∀ k, k < 13 → parseFieldDescriptor (TX3 k).2.2.1 = some (tyX3 k) := by decide +kernel
abbrev cX3_init : ByteArray := prog_5_method_1_code
def yX3_init : MethodName := ⟨RX3, "<init>", "()V"⟩
abbrev cX3_clear : ByteArray := prog_5_method_2_code
def yX3_clear : MethodName := ⟨RX3, "clear", "()V"⟩
abbrev cX3_collected : ByteArray := prog_5_method_3_code
def yX3_collected : MethodName := ⟨RX3, "collected", "()J"⟩
abbrev cX3_fact : ByteArray := prog_5_method_4_code
def yX3_fact : MethodName := ⟨RX3, "fact", "(I)I"⟩
def RX4 : String := "LayerBook$Order"
def TX4 : u_T := fun k => match k with
  | 0 => ("LayerBook$Order", "steps", "[[I", true)
  | _ => ("LayerBook$Order", "count", "I", false)
def tyX4 : Nat → FieldType := fun k => match k with
  | 0 => .array (.array .int)
  | _ => .int
theorem nmX4 : ∀ a, a < 2 → ∀ b, b < 2 → a ≠ b → (TX4 a).2.1 ≠ (TX4 b).2.1 := by decide +kernel
theorem tyX4_ok : ∀ k, k < 2 → parseFieldDescriptor (TX4 k).2.2.1 = some (tyX4 k) := by decide +kernel
abbrev cX4_init : ByteArray := prog_6_method_1_code
def yX4_init : MethodName := ⟨RX4, "<init>", "()V"⟩
abbrev cX4_read : ByteArray := prog_6_method_2_code
def yX4_read : MethodName := ⟨RX4, "read", "(LLayerBook$Tape;)I"⟩
abbrev cX4_writeRest : ByteArray := prog_6_method_3_code
def yX4_writeRest : MethodName := ⟨RX4, "writeRest", "(I)V"⟩
abbrev cX4_clear : ByteArray := prog_6_method_4_code
def yX4_clear : MethodName := ⟨RX4, "clear", "([I)V"⟩
abbrev cX4_readStep : ByteArray := prog_6_method_5_code
def yX4_readStep : MethodName := ⟨RX4, "readStep", "(LLayerBook$Tape;[I)Z"⟩
abbrev cX4_readTest : ByteArray := prog_6_method_6_code
def yX4_readTest : MethodName := ⟨RX4, "readTest", "(LLayerBook$Tape;[I)Z"⟩
abbrev cX4_readWord : ByteArray := prog_6_method_7_code
def yX4_readWord : MethodName := ⟨RX4, "readWord", "(LLayerBook$Tape;Ljava/lang/String;[II)Z"⟩
abbrev cX4_readNumber : ByteArray := prog_6_method_8_code
def yX4_readNumber : MethodName := ⟨RX4, "readNumber", "(LLayerBook$Tape;[II)Z"⟩
def RX5 : String := "LayerBook$Paper"
def TX5 : u_T := fun k => match k with
  | 0 => ("LayerBook$Paper", "coupon", "I", false)
  | 1 => ("LayerBook$Paper", "first", "J", false)
  | 2 => ("LayerBook$Paper", "balance", "J", false)
  | 3 => ("LayerBook$Paper", "lacking", "J", false)
  | 4 => ("LayerBook$Paper", "interest", "J", false)
  | 5 => ("LayerBook$Paper", "principal", "J", false)
  | 6 => ("LayerBook$Paper", "written", "J", false)
  | 7 => ("LayerBook$Paper", "weighted", "J", false)
  | _ => ("LayerBook$Paper", "due", "J", false)
def tyX5 : Nat → FieldType := fun k => match k with
  | 0 => .int
  | 1 => .long
  | 2 => .long
  | 3 => .long
  | 4 => .long
  | 5 => .long
  | 6 => .long
  | 7 => .long
  | _ => .long
theorem nmX5 : ∀ a, a < 9 → ∀ b, b < 9 → a ≠ b → (TX5 a).2.1 ≠ (TX5 b).2.1 := by decide +kernel
theorem tyX5_ok : ∀ k, k < 9 → parseFieldDescriptor (TX5 k).2.2.1 = some (tyX5 k) := by decide +kernel
abbrev cX5_init : ByteArray := prog_7_method_1_code
def yX5_init : MethodName := ⟨RX5, "<init>", "()V"⟩
abbrev cX5_open : ByteArray := prog_7_method_2_code
def yX5_open : MethodName := ⟨RX5, "open", "(II)V"⟩
abbrev cX5_restart : ByteArray := prog_7_method_3_code
def yX5_restart : MethodName := ⟨RX5, "restart", "()V"⟩
abbrev cX5_copy : ByteArray := prog_7_method_4_code
def yX5_copy : MethodName := ⟨RX5, "copy", "(LLayerBook$Paper;)V"⟩
abbrev cX5_got : ByteArray := prog_7_method_5_code
def yX5_got : MethodName := ⟨RX5, "got", "()J"⟩
abbrev cX5_begin : ByteArray := prog_7_method_6_code
def yX5_begin : MethodName := ⟨RX5, "begin", "()V"⟩
abbrev cX5_end : ByteArray := prog_7_method_7_code
def yX5_end : MethodName := ⟨RX5, "end", "()V"⟩
abbrev cX5_payInterest : ByteArray := prog_7_method_8_code
def yX5_payInterest : MethodName := ⟨RX5, "payInterest", "(J)V"⟩
abbrev cX5_payPrincipal : ByteArray := prog_7_method_9_code
def yX5_payPrincipal : MethodName := ⟨RX5, "payPrincipal", "(JI)V"⟩
abbrev cX5_writeDown : ByteArray := prog_7_method_10_code
def yX5_writeDown : MethodName := ⟨RX5, "writeDown", "(J)V"⟩
def RX6 : String := "LayerBook$Pool"
def TX6 : u_T := fun k => match k with
  | 0 => ("LayerBook$Pool", "loans", "[LLayerBook$Loan;", true)
  | 1 => ("LayerBook$Pool", "count", "I", false)
  | 2 => ("LayerBook$Pool", "seed", "I", false)
  | 3 => ("LayerBook$Pool", "back", "I", false)
  | 4 => ("LayerBook$Pool", "advances", "Z", false)
  | 5 => ("LayerBook$Pool", "advanced", "J", false)
  | _ => ("LayerBook$Pool", "law", "LLayerBook$Law;", false)
def tyX6 : Nat → FieldType := fun k => match k with
  | 0 => .array (.object "LayerBook$Loan")
  | 1 => .int
  | 2 => .int
  | 3 => .int
  | 4 => .boolean
  | 5 => .long
  | _ => .object "LayerBook$Law"
theorem nmX6 : ∀ a, a < 7 → ∀ b, b < 7 → a ≠ b → (TX6 a).2.1 ≠ (TX6 b).2.1 := by decide +kernel
theorem tyX6_ok : ∀ k, k < 7 → parseFieldDescriptor (TX6 k).2.2.1 = some (tyX6 k) := by decide +kernel
abbrev cX6_init : ByteArray := prog_8_method_1_code
def yX6_init : MethodName := ⟨RX6, "<init>", "()V"⟩
abbrev cX6_copy : ByteArray := prog_8_method_2_code
def yX6_copy : MethodName := ⟨RX6, "copy", "(LLayerBook$Pool;)V"⟩
abbrev cX6_balances : ByteArray := prog_8_method_3_code
def yX6_balances : MethodName := ⟨RX6, "balances", "()J"⟩
abbrev cX6_late : ByteArray := prog_8_method_4_code
def yX6_late : MethodName := ⟨RX6, "late", "()I"⟩
abbrev cX6_collect : ByteArray := prog_8_method_5_code
def yX6_collect : MethodName := ⟨RX6, "collect", "(ILLayerBook$Month;)V"⟩
abbrev cX6_draw : ByteArray := prog_8_method_6_code
def yX6_draw : MethodName := ⟨RX6, "draw", "(ILLayerBook$Loan;ILLayerBook$Month;)V"⟩
abbrev cX6_chance : ByteArray := prog_8_method_7_code
def yX6_chance : MethodName := ⟨RX6, "chance", "(ILLayerBook$Loan;I)I"⟩
abbrev cX6_lot : ByteArray := prog_8_method_8_code
def yX6_lot : MethodName := ⟨RX6, "lot", "(II)I"⟩
abbrev cX6_fallLate : ByteArray := prog_8_method_9_code
def yX6_fallLate : MethodName := ⟨RX6, "fallLate", "(LLayerBook$Loan;ILLayerBook$Month;)V"⟩
abbrev cX6_payMonth : ByteArray := prog_8_method_10_code
def yX6_payMonth : MethodName := ⟨RX6, "payMonth", "(LLayerBook$Loan;ILLayerBook$Month;)V"⟩
abbrev cX6_payAll : ByteArray := prog_8_method_11_code
def yX6_payAll : MethodName := ⟨RX6, "payAll", "(LLayerBook$Loan;LLayerBook$Month;JI)V"⟩
abbrev cX6_sell : ByteArray := prog_8_method_12_code
def yX6_sell : MethodName := ⟨RX6, "sell", "(LLayerBook$Loan;LLayerBook$Month;)V"⟩
def RX7 : String := "LayerBook$Sheet"
def TX7 : u_T := fun k => match k with
  | 0 => ("LayerBook$Sheet", "cells", "[I", true)
  | 1 => ("LayerBook$Sheet", "sort", "I", false)
  | _ => ("LayerBook$Sheet", "size", "I", false)
def tyX7 : Nat → FieldType := fun k => match k with
  | 0 => .array .int
  | 1 => .int
  | _ => .int
theorem nmX7 : ∀ a, a < 3 → ∀ b, b < 3 → a ≠ b → (TX7 a).2.1 ≠ (TX7 b).2.1 := by decide +kernel
theorem tyX7_ok : ∀ k, k < 3 → parseFieldDescriptor (TX7 k).2.2.1 = some (tyX7 k) := by decide +kernel
abbrev cX7_init : ByteArray := prog_9_method_1_code
def yX7_init : MethodName := ⟨RX7, "<init>", "()V"⟩
abbrev cX7_lay : ByteArray := prog_9_method_2_code
def yX7_lay : MethodName := ⟨RX7, "lay", "(II)V"⟩
abbrev cX7_holds : ByteArray := prog_9_method_3_code
def yX7_holds : MethodName := ⟨RX7, "holds", "(J)Z"⟩
def RX8 : String := "LayerBook$Tape"
def TX8 : u_T := fun k => match k with
  | 0 => ("LayerBook$Tape", "bytes", "[B", true)
  | 1 => ("LayerBook$Tape", "size", "I", false)
  | 2 => ("LayerBook$Tape", "start", "I", false)
  | 3 => ("LayerBook$Tape", "number", "I", false)
  | 4 => ("LayerBook$Tape", "end", "I", false)
  | _ => ("LayerBook$Tape", "sort", "I", false)
def tyX8 : Nat → FieldType := fun k => match k with
  | 0 => .array .byte
  | 1 => .int
  | 2 => .int
  | 3 => .int
  | 4 => .int
  | _ => .int
theorem nmX8 : ∀ a, a < 6 → ∀ b, b < 6 → a ≠ b → (TX8 a).2.1 ≠ (TX8 b).2.1 := by decide +kernel
theorem tyX8_ok : ∀ k, k < 6 → parseFieldDescriptor (TX8 k).2.2.1 = some (tyX8 k) := by decide +kernel
abbrev cX8_init : ByteArray := prog_10_method_1_code
def yX8_init : MethodName := ⟨RX8, "<init>", "()V"⟩
abbrev cX8_append : ByteArray := prog_10_method_2_code
def yX8_append : MethodName := ⟨RX8, "append", "(IJ)V"⟩
abbrev cX8_begin : ByteArray := prog_10_method_3_code
def yX8_begin : MethodName := ⟨RX8, "begin", "()V"⟩
abbrev cX8_next : ByteArray := prog_10_method_4_code
def yX8_next : MethodName := ⟨RX8, "next", "()V"⟩
abbrev cX8_readNumber : ByteArray := prog_10_method_5_code
def yX8_readNumber : MethodName := ⟨RX8, "readNumber", "()V"⟩
abbrev cX8_at : ByteArray := prog_10_method_6_code
def yX8_at : MethodName := ⟨RX8, "at", "(I)I"⟩
abbrev cX8_isBlank : ByteArray := prog_10_method_7_code
def yX8_isBlank : MethodName := ⟨RX8, "isBlank", "(I)Z"⟩
abbrev cX8_isLetter : ByteArray := prog_10_method_8_code
def yX8_isLetter : MethodName := ⟨RX8, "isLetter", "(I)Z"⟩
abbrev cX8_isDigit : ByteArray := prog_10_method_9_code
def yX8_isDigit : MethodName := ⟨RX8, "isDigit", "(I)Z"⟩
abbrev cX8_isEnd : ByteArray := prog_10_method_10_code
def yX8_isEnd : MethodName := ⟨RX8, "isEnd", "()Z"⟩
abbrev cX8_isNumber : ByteArray := prog_10_method_11_code
def yX8_isNumber : MethodName := ⟨RX8, "isNumber", "()Z"⟩
abbrev cX8_isSign : ByteArray := prog_10_method_12_code
def yX8_isSign : MethodName := ⟨RX8, "isSign", "(C)Z"⟩
abbrev cX8_takesSign : ByteArray := prog_10_method_13_code
def yX8_takesSign : MethodName := ⟨RX8, "takesSign", "(C)Z"⟩
abbrev cX8_takesWord : ByteArray := prog_10_method_14_code
def yX8_takesWord : MethodName := ⟨RX8, "takesWord", "(Ljava/lang/String;)Z"⟩
abbrev cX8_which : ByteArray := prog_10_method_15_code
def yX8_which : MethodName := ⟨RX8, "which", "(Ljava/lang/String;)I"⟩
abbrev cX8_isSame : ByteArray := prog_10_method_16_code
def yX8_isSame : MethodName := ⟨RX8, "isSame", "(Ljava/lang/String;II)Z"⟩
def RX9 : String := "LayerBook"
def TX9 : u_T := fun k => match k with
  | 0 => ("LayerBook", "pool", "LLayerBook$Pool;", true)
  | 1 => ("LayerBook", "fall", "LLayerBook$Fall;", true)
  | 2 => ("LayerBook", "otherPool", "LLayerBook$Pool;", true)
  | 3 => ("LayerBook", "otherFall", "LLayerBook$Fall;", true)
  | 4 => ("LayerBook", "otherMonth", "LLayerBook$Month;", true)
  | 5 => ("LayerBook", "months", "[LLayerBook$Month;", true)
  | 6 => ("LayerBook", "orderOf", "[I", true)
  | 7 => ("LayerBook", "tape", "LLayerBook$Tape;", true)
  | 8 => ("LayerBook", "laws", "[LLayerBook$Law;", true)
  | 9 => ("LayerBook", "orders", "[LLayerBook$Order;", true)
  | 10 => ("LayerBook", "sheets", "[LLayerBook$Sheet;", true)
  | 11 => ("LayerBook", "month", "I", false)
  | 12 => ("LayerBook", "lawCount", "I", false)
  | 13 => ("LayerBook", "orderCount", "I", false)
  | _ => ("LayerBook", "forced", "I", false)
def tyX9 : Nat → FieldType := fun k => match k with
  | 0 => .object "LayerBook$Pool"
  | 1 => .object "LayerBook$Fall"
  | 2 => .object "LayerBook$Pool"
  | 3 => .object "LayerBook$Fall"
  | 4 => .object "LayerBook$Month"
  | 5 => .array (.object "LayerBook$Month")
  | 6 => .array .int
  | 7 => .object "LayerBook$Tape"
  | 8 => .array (.object "LayerBook$Law")
  | 9 => .array (.object "LayerBook$Order")
  | 10 => .array (.object "LayerBook$Sheet")
  | 11 => .int
  | 12 => .int
  | 13 => .int
  | _ => .int
theorem nmX9 : ∀ a, a < 15 → ∀ b, b < 15 → a ≠ b → (TX9 a).2.1 ≠ (TX9 b).2.1 := by decide +kernel
theorem tyX9_ok : ∀ k, k < 15 → parseFieldDescriptor (TX9 k).2.2.1 = some (tyX9 k) := by decide +kernel
abbrev cX9_init : ByteArray := prog_1_method_1_code
def yX9_init : MethodName := ⟨RX9, "<init>", "()V"⟩
abbrev cX9_loan : ByteArray := prog_1_method_2_code
def yX9_loan : MethodName := ⟨RX9, "loan", "(IIII)I"⟩
abbrev cX9_loanTold : ByteArray := prog_1_method_3_code
def yX9_loanTold : MethodName := ⟨RX9, "loanTold", "(II)I"⟩
abbrev cX9_paper : ByteArray := prog_1_method_4_code
def yX9_paper : MethodName := ⟨RX9, "paper", "(II)I"⟩
abbrev cX9_paperTold : ByteArray := prog_1_method_5_code
def yX9_paperTold : MethodName := ⟨RX9, "paperTold", "(II)I"⟩
abbrev cX9_life : ByteArray := prog_1_method_6_code
def yX9_life : MethodName := ⟨RX9, "life", "(II)J"⟩
abbrev cX9_tell : ByteArray := prog_1_method_7_code
def yX9_tell : MethodName := ⟨RX9, "tell", "(II)I"⟩
abbrev cX9_trip : ByteArray := prog_1_method_8_code
def yX9_trip : MethodName := ⟨RX9, "trip", "(II)I"⟩
abbrev cX9_feed : ByteArray := prog_1_method_9_code
def yX9_feed : MethodName := ⟨RX9, "feed", "(IJ)I"⟩
abbrev cX9_text : ByteArray := prog_1_method_10_code
def yX9_text : MethodName := ⟨RX9, "text", "()I"⟩
abbrev cX9_force : ByteArray := prog_1_method_11_code
def yX9_force : MethodName := ⟨RX9, "force", "(I)I"⟩
abbrev cX9_says : ByteArray := prog_1_method_12_code
def yX9_says : MethodName := ⟨RX9, "says", "(II)J"⟩
abbrev cX9_order : ByteArray := prog_1_method_13_code
def yX9_order : MethodName := ⟨RX9, "order", "()I"⟩
abbrev cX9_step : ByteArray := prog_1_method_14_code
def yX9_step : MethodName := ⟨RX9, "step", "(III)I"⟩
abbrev cX9_amend : ByteArray := prog_1_method_15_code
def yX9_amend : MethodName := ⟨RX9, "amend", "(II)I"⟩
abbrev cX9_run : ByteArray := prog_1_method_16_code
def yX9_run : MethodName := ⟨RX9, "run", "(I)I"⟩
abbrev cX9_month : ByteArray := prog_1_method_17_code
def yX9_month : MethodName := ⟨RX9, "month", "(II)I"⟩
abbrev cX9_paid : ByteArray := prog_1_method_18_code
def yX9_paid : MethodName := ⟨RX9, "paid", "(II)I"⟩
abbrev cX9_buy : ByteArray := prog_1_method_19_code
def yX9_buy : MethodName := ⟨RX9, "buy", "(I)I"⟩
abbrev cX9_report : ByteArray := prog_1_method_20_code
def yX9_report : MethodName := ⟨RX9, "report", "(IIIII)I"⟩
abbrev cX9_firstUnlike : ByteArray := prog_1_method_21_code
def yX9_firstUnlike : MethodName := ⟨RX9, "firstUnlike", "([IIII)I"⟩
abbrev cX9_beside : ByteArray := prog_1_method_22_code
def yX9_beside : MethodName := ⟨RX9, "beside", "(III)J"⟩
abbrev cX9_count : ByteArray := prog_1_method_23_code
def yX9_count : MethodName := ⟨RX9, "count", "(I)I"⟩
abbrev cX9_sheet : ByteArray := prog_1_method_24_code
def yX9_sheet : MethodName := ⟨RX9, "sheet", "(III)I"⟩
abbrev cX9_cell : ByteArray := prog_1_method_25_code
def yX9_cell : MethodName := ⟨RX9, "cell", "(III)I"⟩
abbrev cX9_loans : ByteArray := prog_1_method_26_code
def yX9_loans : MethodName := ⟨RX9, "loans", "(IIII)I"⟩
abbrev cX9_taken : ByteArray := prog_1_method_27_code
def yX9_taken : MethodName := ⟨RX9, "taken", "(II)I"⟩
abbrev cX9_refusalOf : ByteArray := prog_1_method_28_code
def yX9_refusalOf : MethodName := ⟨RX9, "refusalOf", "(III)I"⟩
abbrev cX9_orderIn : ByteArray := prog_1_method_29_code
def yX9_orderIn : MethodName := ⟨RX9, "orderIn", "(I)LLayerBook$Order;"⟩
abbrev cX9_within : ByteArray := prog_1_method_30_code
def yX9_within : MethodName := ⟨RX9, "within", "(III)Z"⟩
abbrev cX9_commonDivisor : ByteArray := prog_1_method_31_code
def yX9_commonDivisor : MethodName := ⟨RX9, "commonDivisor", "(JJ)J"⟩
def RX10 : String := "LayerBookModel"
def TX10 : u_T := fun k => match k with
  | 0 => ("LayerBookModel", "thrown", "I", false)
  | 1 => ("LayerBookModel", "now", "I", false)
  | 2 => ("LayerBookModel", "loans", "I", false)
  | 3 => ("LayerBookModel", "kind", "[I", true)
  | 4 => ("LayerBookModel", "balance", "[I", true)
  | 5 => ("LayerBookModel", "rate", "[I", true)
  | 6 => ("LayerBookModel", "months", "[I", true)
  | 7 => ("LayerBookModel", "owed", "[I", true)
  | 8 => ("LayerBookModel", "state", "[I", true)
  | 9 => ("LayerBookModel", "pays", "[I", true)
  | 10 => ("LayerBookModel", "failedIn", "[I", true)
  | 11 => ("LayerBookModel", "seed", "I", false)
  | 12 => ("LayerBookModel", "back", "I", false)
  | 13 => ("LayerBookModel", "advances", "I", false)
  | 14 => ("LayerBookModel", "advanced", "I", false)
  | 15 => ("LayerBookModel", "interests", "[J", true)
  | 16 => ("LayerBookModel", "principals", "[J", true)
  | 17 => ("LayerBookModel", "backs", "[J", true)
  | 18 => ("LayerBookModel", "advancedIn", "[J", true)
  | 19 => ("LayerBookModel", "paidBack", "[J", true)
  | 20 => ("LayerBookModel", "poolBegan", "[J", true)
  | 21 => ("LayerBookModel", "poolEnded", "[J", true)
  | 22 => ("LayerBookModel", "losses", "[J", true)
  | 23 => ("LayerBookModel", "lates", "[I", true)
  | 24 => ("LayerBookModel", "texts", "[I", true)
  | 25 => ("LayerBookModel", "textSize", "[I", true)
  | 26 => ("LayerBookModel", "textCount", "I", false)
  | 27 => ("LayerBookModel", "rule", "I", false)
  | 28 => ("LayerBookModel", "tape", "[I", true)
  | 29 => ("LayerBookModel", "taped", "I", false)
  | 30 => ("LayerBookModel", "from", "I", false)
  | 31 => ("LayerBookModel", "size", "I", false)
  | 32 => ("LayerBookModel", "token", "I", false)
  | 33 => ("LayerBookModel", "tokenAt", "I", false)
  | 34 => ("LayerBookModel", "tokenWorth", "J", false)
  | 35 => ("LayerBookModel", "here", "I", false)
  | 36 => ("LayerBookModel", "open", "I", false)
  | 37 => ("LayerBookModel", "bad", "Z", false)
  | 38 => ("LayerBookModel", "fault", "I", false)
  | 39 => ("LayerBookModel", "valueMonth", "I", false)
  | 40 => ("LayerBookModel", "valueRate", "I", false)
  | 41 => ("LayerBookModel", "valueLeft", "I", false)
  | 42 => ("LayerBookModel", "valueOwed", "I", false)
  | 43 => ("LayerBookModel", "valueBalance", "I", false)
  | 44 => ("LayerBookModel", "valueKind", "I", false)
  | 45 => ("LayerBookModel", "orderCount", "I", false)
  | 46 => ("LayerBookModel", "stepCount", "[I", true)
  | 47 => ("LayerBookModel", "stepSort", "[I", true)
  | 48 => ("LayerBookModel", "stepPaper", "[I", true)
  | 49 => ("LayerBookModel", "stepNumber", "[I", true)
  | 50 => ("LayerBookModel", "stepTest", "[I", true)
  | 51 => ("LayerBookModel", "stepField", "[I", true)
  | 52 => ("LayerBookModel", "stepBound", "[I", true)
  | 53 => ("LayerBookModel", "papers", "I", false)
  | 54 => ("LayerBookModel", "began", "[J", true)
  | 55 => ("LayerBookModel", "coupon", "[I", true)
  | 56 => ("LayerBookModel", "paper", "[J", true)
  | 57 => ("LayerBookModel", "shorts", "[J", true)
  | 58 => ("LayerBookModel", "gotInterest", "[J", true)
  | 59 => ("LayerBookModel", "gotPrincipal", "[J", true)
  | 60 => ("LayerBookModel", "gotTimes", "[J", true)
  | 61 => ("LayerBookModel", "written", "[J", true)
  | 62 => ("LayerBookModel", "due", "[J", true)
  | 63 => ("LayerBookModel", "orders", "[I", true)
  | 64 => ("LayerBookModel", "reserve", "J", false)
  | 65 => ("LayerBookModel", "lost", "J", false)
  | 66 => ("LayerBookModel", "restTook", "J", false)
  | 67 => ("LayerBookModel", "isOn", "Z", false)
  | 68 => ("LayerBookModel", "quiet", "I", false)
  | 69 => ("LayerBookModel", "bound", "I", false)
  | 70 => ("LayerBookModel", "cure", "I", false)
  | 71 => ("LayerBookModel", "cashes", "[J", true)
  | 72 => ("LayerBookModel", "reserves", "[J", true)
  | 73 => ("LayerBookModel", "trips", "[Z", true)
  | 74 => ("LayerBookModel", "took", "[J", true)
  | 75 => ("LayerBookModel", "page", "[J", true)
  | 76 => ("LayerBookModel", "pageAt", "I", false)
  | 77 => ("LayerBookModel", "isThere", "[Z", true)
  | 78 => ("LayerBookModel", "sorts", "[I", true)
  | 79 => ("LayerBookModel", "sheetSize", "[I", true)
  | _ => ("LayerBookModel", "items", "[I", true)
def tyX10 : Nat → FieldType := fun k => match k with
  | 0 => .int
  | 1 => .int
  | 2 => .int
  | 3 => .array .int
  | 4 => .array .int
  | 5 => .array .int
  | 6 => .array .int
  | 7 => .array .int
  | 8 => .array .int
  | 9 => .array .int
  | 10 => .array .int
  | 11 => .int
  | 12 => .int
  | 13 => .int
  | 14 => .int
  | 15 => .array .long
  | 16 => .array .long
  | 17 => .array .long
  | 18 => .array .long
  | 19 => .array .long
  | 20 => .array .long
  | 21 => .array .long
  | 22 => .array .long
  | 23 => .array .int
  | 24 => .array .int
  | 25 => .array .int
  | 26 => .int
  | 27 => .int
  | 28 => .array .int
  | 29 => .int
  | 30 => .int
  | 31 => .int
  | 32 => .int
  | 33 => .int
  | 34 => .long
  | 35 => .int
  | 36 => .int
  | 37 => .boolean
  | 38 => .int
  | 39 => .int
  | 40 => .int
  | 41 => .int
  | 42 => .int
  | 43 => .int
  | 44 => .int
  | 45 => .int
  | 46 => .array .int
  | 47 => .array .int
  | 48 => .array .int
  | 49 => .array .int
  | 50 => .array .int
  | 51 => .array .int
  | 52 => .array .int
  | 53 => .int
  | 54 => .array .long
  | 55 => .array .int
  | 56 => .array .long
  | 57 => .array .long
  | 58 => .array .long
  | 59 => .array .long
  | 60 => .array .long
  | 61 => .array .long
  | 62 => .array .long
  | 63 => .array .int
  | 64 => .long
  | 65 => .long
  | 66 => .long
  | 67 => .boolean
  | 68 => .int
  | 69 => .int
  | 70 => .int
  | 71 => .array .long
  | 72 => .array .long
  | 73 => .array .boolean
  | 74 => .array .long
  | 75 => .array .long
  | 76 => .int
  | 77 => .array .boolean
  | 78 => .array .int
  | 79 => .array .int
  | _ => .array .int
theorem nmX10 : ∀ a, a < 81 → ∀ b, b < 81 → a ≠ b → (TX10 a).2.1 ≠ (TX10 b).2.1 := by decide +kernel
theorem tyX10_ok : ∀ k, k < 81 → parseFieldDescriptor (TX10 k).2.2.1 = some (tyX10 k) := by decide +kernel
abbrev cX10_in : ByteArray := prog_12_method_2_code
def yX10_in : MethodName := ⟨RX10, "in", "(III)Z"⟩
abbrev cX10_init : ByteArray := prog_12_method_3_code
def yX10_init : MethodName := ⟨RX10, "<init>", "()V"⟩
abbrev cX10_spell : ByteArray := prog_12_method_4_code
def yX10_spell : MethodName := ⟨RX10, "spell", "(IJ)V"⟩
abbrev cX10_isLoan : ByteArray := prog_12_method_5_code
def yX10_isLoan : MethodName := ⟨RX10, "isLoan", "(I)Z"⟩
abbrev cX10_isTold : ByteArray := prog_12_method_6_code
def yX10_isTold : MethodName := ⟨RX10, "isTold", "(IIII)Z"⟩
abbrev cX10_loan : ByteArray := prog_12_method_7_code
def yX10_loan : MethodName := ⟨RX10, "loan", "(IIII)I"⟩
abbrev cX10_loanTold : ByteArray := prog_12_method_8_code
def yX10_loanTold : MethodName := ⟨RX10, "loanTold", "(II)I"⟩
abbrev cX10_isFixed : ByteArray := prog_12_method_9_code
def yX10_isFixed : MethodName := ⟨RX10, "isFixed", "(I)Z"⟩
abbrev cX10_isReset : ByteArray := prog_12_method_10_code
def yX10_isReset : MethodName := ⟨RX10, "isReset", "(I)Z"⟩
abbrev cX10_interest : ByteArray := prog_12_method_11_code
def yX10_interest : MethodName := ⟨RX10, "interest", "(II)I"⟩
abbrev cX10_leftBy : ByteArray := prog_12_method_12_code
def yX10_leftBy : MethodName := ⟨RX10, "leftBy", "(IIII)I"⟩
abbrev cX10_payFor : ByteArray := prog_12_method_13_code
def yX10_payFor : MethodName := ⟨RX10, "payFor", "(III)I"⟩
abbrev cX10_pool : ByteArray := prog_12_method_14_code
def yX10_pool : MethodName := ⟨RX10, "pool", "()I"⟩
abbrev cX10_principal : ByteArray := prog_12_method_15_code
def yX10_principal : MethodName := ⟨RX10, "principal", "(III)I"⟩
abbrev cX10_tell : ByteArray := prog_12_method_16_code
def yX10_tell : MethodName := ⟨RX10, "tell", "(II)I"⟩
abbrev cX10_buy : ByteArray := prog_12_method_17_code
def yX10_buy : MethodName := ⟨RX10, "buy", "(I)I"⟩
abbrev cX10_within : ByteArray := prog_12_method_18_code
def yX10_within : MethodName := ⟨RX10, "within", "(I)I"⟩
abbrev cX10_lot : ByteArray := prog_12_method_19_code
def yX10_lot : MethodName := ⟨RX10, "lot", "(II)I"⟩
abbrev cX10_paysOff : ByteArray := prog_12_method_20_code
def yX10_paysOff : MethodName := ⟨RX10, "paysOff", "(IIII)V"⟩
abbrev cX10_goes : ByteArray := prog_12_method_21_code
def yX10_goes : MethodName := ⟨RX10, "goes", "(II)V"⟩
abbrev cX10_collect : ByteArray := prog_12_method_22_code
def yX10_collect : MethodName := ⟨RX10, "collect", "(I)V"⟩
abbrev cX10_feed : ByteArray := prog_12_method_23_code
def yX10_feed : MethodName := ⟨RX10, "feed", "(IJ)I"⟩
abbrev cX10_byteAt : ByteArray := prog_12_method_24_code
def yX10_byteAt : MethodName := ⟨RX10, "byteAt", "(I)I"⟩
abbrev cX10_next : ByteArray := prog_12_method_25_code
def yX10_next : MethodName := ⟨RX10, "next", "()V"⟩
abbrev cX10_fail : ByteArray := prog_12_method_26_code
def yX10_fail : MethodName := ⟨RX10, "fail", "()V"⟩
abbrev cX10_isWord : ByteArray := prog_12_method_27_code
def yX10_isWord : MethodName := ⟨RX10, "isWord", "(J)Z"⟩
abbrev cX10_isSign : ByteArray := prog_12_method_28_code
def yX10_isSign : MethodName := ⟨RX10, "isSign", "(I)Z"⟩
abbrev cX10_opens : ByteArray := prog_12_method_29_code
def yX10_opens : MethodName := ⟨RX10, "opens", "()Z"⟩
abbrev cX10_name : ByteArray := prog_12_method_30_code
def yX10_name : MethodName := ⟨RX10, "name", "()I"⟩
abbrev cX10_one : ByteArray := prog_12_method_31_code
def yX10_one : MethodName := ⟨RX10, "one", "()I"⟩
abbrev cX10_term : ByteArray := prog_12_method_32_code
def yX10_term : MethodName := ⟨RX10, "term", "()I"⟩
abbrev cX10_added : ByteArray := prog_12_method_33_code
def yX10_added : MethodName := ⟨RX10, "added", "()I"⟩
abbrev cX10_not : ByteArray := prog_12_method_34_code
def yX10_not : MethodName := ⟨RX10, "not", "()I"⟩
abbrev cX10_both : ByteArray := prog_12_method_35_code
def yX10_both : MethodName := ⟨RX10, "both", "()I"⟩
abbrev cX10_either : ByteArray := prog_12_method_36_code
def yX10_either : MethodName := ⟨RX10, "either", "()I"⟩
abbrev cX10_part : ByteArray := prog_12_method_37_code
def yX10_part : MethodName := ⟨RX10, "part", "(J)I"⟩
abbrev cX10_read : ByteArray := prog_12_method_38_code
def yX10_read : MethodName := ⟨RX10, "read", "(II)I"⟩
abbrev cX10_saysOf : ByteArray := prog_12_method_39_code
def yX10_saysOf : MethodName := ⟨RX10, "saysOf", "(III)I"⟩
abbrev cX10_text : ByteArray := prog_12_method_40_code
def yX10_text : MethodName := ⟨RX10, "text", "()I"⟩
abbrev cX10_force : ByteArray := prog_12_method_41_code
def yX10_force : MethodName := ⟨RX10, "force", "(I)I"⟩
abbrev cX10_says : ByteArray := prog_12_method_42_code
def yX10_says : MethodName := ⟨RX10, "says", "(II)J"⟩
abbrev cX10_numberHere : ByteArray := prog_12_method_43_code
def yX10_numberHere : MethodName := ⟨RX10, "numberHere", "()I"⟩
abbrev cX10_paperHere : ByteArray := prog_12_method_44_code
def yX10_paperHere : MethodName := ⟨RX10, "paperHere", "()I"⟩
abbrev cX10_fieldHere : ByteArray := prog_12_method_45_code
def yX10_fieldHere : MethodName := ⟨RX10, "fieldHere", "()I"⟩
abbrev cX10_readStep : ByteArray := prog_12_method_46_code
def yX10_readStep : MethodName := ⟨RX10, "readStep", "(I)V"⟩
abbrev cX10_order : ByteArray := prog_12_method_47_code
def yX10_order : MethodName := ⟨RX10, "order", "()I"⟩
abbrev cX10_step : ByteArray := prog_12_method_48_code
def yX10_step : MethodName := ⟨RX10, "step", "(III)I"⟩
abbrev cX10_paper : ByteArray := prog_12_method_49_code
def yX10_paper : MethodName := ⟨RX10, "paper", "(II)I"⟩
abbrev cX10_isPaper : ByteArray := prog_12_method_50_code
def yX10_isPaper : MethodName := ⟨RX10, "isPaper", "(I)Z"⟩
abbrev cX10_paperTold : ByteArray := prog_12_method_51_code
def yX10_paperTold : MethodName := ⟨RX10, "paperTold", "(II)I"⟩
abbrev cX10_divisor : ByteArray := prog_12_method_52_code
def yX10_divisor : MethodName := ⟨RX10, "divisor", "(JJ)J"⟩
abbrev cX10_life : ByteArray := prog_12_method_53_code
def yX10_life : MethodName := ⟨RX10, "life", "(II)J"⟩
abbrev cX10_trip : ByteArray := prog_12_method_54_code
def yX10_trip : MethodName := ⟨RX10, "trip", "(II)I"⟩
abbrev cX10_lostNow : ByteArray := prog_12_method_55_code
def yX10_lostNow : MethodName := ⟨RX10, "lostNow", "()J"⟩
abbrev cX10_field : ByteArray := prog_12_method_56_code
def yX10_field : MethodName := ⟨RX10, "field", "(II)J"⟩
abbrev cX10_isSo : ByteArray := prog_12_method_57_code
def yX10_isSo : MethodName := ⟨RX10, "isSo", "(II)Z"⟩
abbrev cX10_wish : ByteArray := prog_12_method_58_code
def yX10_wish : MethodName := ⟨RX10, "wish", "(IIJ)J"⟩
abbrev cX10_pay : ByteArray := prog_12_method_59_code
def yX10_pay : MethodName := ⟨RX10, "pay", "(I)V"⟩
abbrev cX10_anew : ByteArray := prog_12_method_60_code
def yX10_anew : MethodName := ⟨RX10, "anew", "()V"⟩
abbrev cX10_amend : ByteArray := prog_12_method_61_code
def yX10_amend : MethodName := ⟨RX10, "amend", "(II)I"⟩
abbrev cX10_goOn : ByteArray := prog_12_method_62_code
def yX10_goOn : MethodName := ⟨RX10, "goOn", "()V"⟩
abbrev cX10_run : ByteArray := prog_12_method_63_code
def yX10_run : MethodName := ⟨RX10, "run", "(I)I"⟩
abbrev cX10_month : ByteArray := prog_12_method_64_code
def yX10_month : MethodName := ⟨RX10, "month", "(II)I"⟩
abbrev cX10_paid : ByteArray := prog_12_method_65_code
def yX10_paid : MethodName := ⟨RX10, "paid", "(II)I"⟩
abbrev cX10_pass : ByteArray := prog_12_method_66_code
def yX10_pass : MethodName := ⟨RX10, "pass", "(ZJ)J"⟩
abbrev cX10_turn : ByteArray := prog_12_method_67_code
def yX10_turn : MethodName := ⟨RX10, "turn", "(Z)V"⟩
abbrev cX10_beside : ByteArray := prog_12_method_68_code
def yX10_beside : MethodName := ⟨RX10, "beside", "(III)J"⟩
abbrev cX10_count : ByteArray := prog_12_method_69_code
def yX10_count : MethodName := ⟨RX10, "count", "(I)I"⟩
abbrev cX10_isSheet : ByteArray := prog_12_method_70_code
def yX10_isSheet : MethodName := ⟨RX10, "isSheet", "(I)Z"⟩
abbrev cX10_sheet : ByteArray := prog_12_method_71_code
def yX10_sheet : MethodName := ⟨RX10, "sheet", "(III)I"⟩
abbrev cX10_cell : ByteArray := prog_12_method_72_code
def yX10_cell : MethodName := ⟨RX10, "cell", "(III)I"⟩
abbrev cX10_noRow : ByteArray := prog_12_method_73_code
def yX10_noRow : MethodName := ⟨RX10, "noRow", "(IIII)I"⟩
abbrev cX10_report : ByteArray := prog_12_method_74_code
def yX10_report : MethodName := ⟨RX10, "report", "(IIIII)I"⟩
abbrev cX10_loans : ByteArray := prog_12_method_75_code
def yX10_loans : MethodName := ⟨RX10, "loans", "(IIII)I"⟩
abbrev cX10_over : ByteArray := prog_12_method_76_code
def yX10_over : MethodName := ⟨RX10, "over", "(I)I"⟩
abbrev cX10_taken : ByteArray := prog_12_method_77_code
def yX10_taken : MethodName := ⟨RX10, "taken", "(II)I"⟩
def RL : String := "LayerBookLaw"
abbrev cL_law : ByteArray := code
def yL_law : MethodName := ⟨RL, "law", "([I)Z"⟩
abbrev vwCl : List vw_C := [(RX0, TX0, 10), (RX1, TX1, 5), (RX2, TX2, 8), (RX3, TX3, 13), (RX4, TX4, 2), (RX5, TX5, 9), (RX6, TX6, 7), (RX7, TX7, 3), (RX8, TX8, 6), (RX9, TX9, 15), (RX10, TX10, 81)]
