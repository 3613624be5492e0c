section
-- ===== PART A: goes FIRST, ahead of the names: the tables' words, and 'selects' of the private methods out of them =====
/-- a private method of a class that the tables say can be made, by its rows of tables_1 -/
def lw_okq (q : MethodName × Nat) : Prop := (q.1.cls ≠ "java/lang/invoke/MethodHandle" ∧ q.1.cls ≠ "java/lang/invoke/VarHandle") ∧ Cond.instantiable q.1.cls q.2 ∈ tables_1 ∧ Cond.privateMethod q.1 ∈ tables_1 ∧ Cond.instanceMethod q.1 ∈ tables_1
theorem lw_p0 : lw_okq (⟨"LayerBook$Order", "writeRest", "(I)V"⟩, 2) := ⟨⟨by decide +kernel, by decide +kernel⟩, List.mem_of_getElem? (i := 325) (by decide +kernel), List.mem_of_getElem? (i := 333) (by decide +kernel), List.mem_of_getElem? (i := 334) (by decide +kernel)⟩
theorem lw_p1 : lw_okq (⟨"LayerBook$Tape", "at", "(I)I"⟩, 6) := ⟨⟨by decide +kernel, by decide +kernel⟩, List.mem_of_getElem? (i := 267) (by decide +kernel), List.mem_of_getElem? (i := 488) (by decide +kernel), List.mem_of_getElem? (i := 489) (by decide +kernel)⟩
theorem lw_p2 : lw_okq (⟨"LayerBook$Tape", "readNumber", "()V"⟩, 6) := ⟨⟨by decide +kernel, by decide +kernel⟩, List.mem_of_getElem? (i := 267) (by decide +kernel), List.mem_of_getElem? (i := 501) (by decide +kernel), List.mem_of_getElem? (i := 502) (by decide +kernel)⟩
theorem lw_p3 : lw_okq (⟨"LayerBook$Tape", "isSame", "(Ljava/lang/String;II)Z"⟩, 6) := ⟨⟨by decide +kernel, by decide +kernel⟩, List.mem_of_getElem? (i := 267) (by decide +kernel), List.mem_of_getElem? (i := 618) (by decide +kernel), List.mem_of_getElem? (i := 619) (by decide +kernel)⟩
theorem lw_p4 : lw_okq (⟨"LayerBook$Law", "readChain", "(LLayerBook$Tape;I)Z"⟩, 5) := ⟨⟨by decide +kernel, by decide +kernel⟩, List.mem_of_getElem? (i := 304) (by decide +kernel), List.mem_of_getElem? (i := 623) (by decide +kernel), List.mem_of_getElem? (i := 624) (by decide +kernel)⟩
theorem lw_p5 : lw_okq (⟨"LayerBook$Law", "readCompared", "(LLayerBook$Tape;)Z"⟩, 5) := ⟨⟨by decide +kernel, by decide +kernel⟩, List.mem_of_getElem? (i := 304) (by decide +kernel), List.mem_of_getElem? (i := 627) (by decide +kernel), List.mem_of_getElem? (i := 628) (by decide +kernel)⟩
theorem lw_p6 : lw_okq (⟨"LayerBook$Law", "opens", "(LLayerBook$Tape;)Z"⟩, 5) := ⟨⟨by decide +kernel, by decide +kernel⟩, List.mem_of_getElem? (i := 304) (by decide +kernel), List.mem_of_getElem? (i := 632) (by decide +kernel), List.mem_of_getElem? (i := 633) (by decide +kernel)⟩
theorem lw_p7 : lw_okq (⟨"LayerBook$Law", "closes", "()Z"⟩, 5) := ⟨⟨by decide +kernel, by decide +kernel⟩, List.mem_of_getElem? (i := 304) (by decide +kernel), List.mem_of_getElem? (i := 636) (by decide +kernel), List.mem_of_getElem? (i := 637) (by decide +kernel)⟩
theorem lw_p8 : lw_okq (⟨"LayerBook$Law", "write", "(I)Z"⟩, 5) := ⟨⟨by decide +kernel, by decide +kernel⟩, List.mem_of_getElem? (i := 304) (by decide +kernel), List.mem_of_getElem? (i := 640) (by decide +kernel), List.mem_of_getElem? (i := 641) (by decide +kernel)⟩
theorem lw_p9 : lw_okq (⟨"LayerBook$Law", "readOne", "(LLayerBook$Tape;)Z"⟩, 5) := ⟨⟨by decide +kernel, by decide +kernel⟩, List.mem_of_getElem? (i := 304) (by decide +kernel), List.mem_of_getElem? (i := 653) (by decide +kernel), List.mem_of_getElem? (i := 654) (by decide +kernel)⟩
theorem lw_p10 : lw_okq (⟨"LayerBook$Tape", "goesOn", "(Z)Z"⟩, 6) := ⟨⟨by decide +kernel, by decide +kernel⟩, List.mem_of_getElem? (i := 267) (by decide +kernel), List.mem_of_getElem? (i := 662) (by decide +kernel), List.mem_of_getElem? (i := 663) (by decide +kernel)⟩
theorem lw_p11 : lw_okq (⟨"LayerBook", "orderIn", "(I)LLayerBook$Order;"⟩, 15) := ⟨⟨by decide +kernel, by decide +kernel⟩, List.mem_of_getElem? (i := 19) (by decide +kernel), List.mem_of_getElem? (i := 750) (by decide +kernel), List.mem_of_getElem? (i := 751) (by decide +kernel)⟩
theorem lw_p12 : lw_okq (⟨"LayerBook$Fall", "turnTrip", "(J)V"⟩, 10) := ⟨⟨by decide +kernel, by decide +kernel⟩, List.mem_of_getElem? (i := 110) (by decide +kernel), List.mem_of_getElem? (i := 758) (by decide +kernel), List.mem_of_getElem? (i := 759) (by decide +kernel)⟩
theorem lw_p13 : lw_okq (⟨"LayerBook$Fall", "lostShare", "()J"⟩, 10) := ⟨⟨by decide +kernel, by decide +kernel⟩, List.mem_of_getElem? (i := 110) (by decide +kernel), List.mem_of_getElem? (i := 762) (by decide +kernel), List.mem_of_getElem? (i := 763) (by decide +kernel)⟩
theorem lw_p14 : lw_okq (⟨"LayerBook$Fall", "takeSteps", "(ILLayerBook$Month;LLayerBook$Order;)V"⟩, 10) := ⟨⟨by decide +kernel, by decide +kernel⟩, List.mem_of_getElem? (i := 110) (by decide +kernel), List.mem_of_getElem? (i := 776) (by decide +kernel), List.mem_of_getElem? (i := 777) (by decide +kernel)⟩
theorem lw_p15 : lw_okq (⟨"LayerBook$Fall", "passes", "([IILLayerBook$Month;)Z"⟩, 10) := ⟨⟨by decide +kernel, by decide +kernel⟩, List.mem_of_getElem? (i := 110) (by decide +kernel), List.mem_of_getElem? (i := 780) (by decide +kernel), List.mem_of_getElem? (i := 781) (by decide +kernel)⟩
def lw_privs_1 : List (MethodName × Nat) := [(⟨"LayerBook$Order", "writeRest", "(I)V"⟩, 2), (⟨"LayerBook$Tape", "at", "(I)I"⟩, 6), (⟨"LayerBook$Tape", "readNumber", "()V"⟩, 6), (⟨"LayerBook$Tape", "isSame", "(Ljava/lang/String;II)Z"⟩, 6), (⟨"LayerBook$Law", "readChain", "(LLayerBook$Tape;I)Z"⟩, 5), (⟨"LayerBook$Law", "readCompared", "(LLayerBook$Tape;)Z"⟩, 5), (⟨"LayerBook$Law", "opens", "(LLayerBook$Tape;)Z"⟩, 5), (⟨"LayerBook$Law", "closes", "()Z"⟩, 5), (⟨"LayerBook$Law", "write", "(I)Z"⟩, 5), (⟨"LayerBook$Law", "readOne", "(LLayerBook$Tape;)Z"⟩, 5), (⟨"LayerBook$Tape", "goesOn", "(Z)Z"⟩, 6), (⟨"LayerBook", "orderIn", "(I)LLayerBook$Order;"⟩, 15), (⟨"LayerBook$Fall", "turnTrip", "(J)V"⟩, 10), (⟨"LayerBook$Fall", "lostShare", "()J"⟩, 10), (⟨"LayerBook$Fall", "takeSteps", "(ILLayerBook$Month;LLayerBook$Order;)V"⟩, 10), (⟨"LayerBook$Fall", "passes", "([IILLayerBook$Month;)Z"⟩, 10)]
theorem lw_r1 : ∀ q ∈ lw_privs_1, lw_okq q := List.forall_mem_cons.mpr ⟨lw_p0, List.forall_mem_cons.mpr ⟨lw_p1, List.forall_mem_cons.mpr ⟨lw_p2, List.forall_mem_cons.mpr ⟨lw_p3, List.forall_mem_cons.mpr ⟨lw_p4, List.forall_mem_cons.mpr ⟨lw_p5, List.forall_mem_cons.mpr ⟨lw_p6, List.forall_mem_cons.mpr ⟨lw_p7, List.forall_mem_cons.mpr ⟨lw_p8, List.forall_mem_cons.mpr ⟨lw_p9, List.forall_mem_cons.mpr ⟨lw_p10, List.forall_mem_cons.mpr ⟨lw_p11, List.forall_mem_cons.mpr ⟨lw_p12, List.forall_mem_cons.mpr ⟨lw_p13, List.forall_mem_cons.mpr ⟨lw_p14, List.forall_mem_cons.mpr ⟨lw_p15, fun _ h => absurd h List.not_mem_nil⟩⟩⟩⟩⟩⟩⟩⟩⟩⟩⟩⟩⟩⟩⟩⟩
theorem lw_p16 : lw_okq (⟨"LayerBook$Fall", "field", "(IILLayerBook$Month;)J"⟩, 10) := ⟨⟨by decide +kernel, by decide +kernel⟩, List.mem_of_getElem? (i := 110) (by decide +kernel), List.mem_of_getElem? (i := 784) (by decide +kernel), List.mem_of_getElem? (i := 785) (by decide +kernel)⟩
theorem lw_p17 : lw_okq (⟨"LayerBook$Fall", "cover", "(J)J"⟩, 10) := ⟨⟨by decide +kernel, by decide +kernel⟩, List.mem_of_getElem? (i := 110) (by decide +kernel), List.mem_of_getElem? (i := 788) (by decide +kernel), List.mem_of_getElem? (i := 789) (by decide +kernel)⟩
theorem lw_p18 : lw_okq (⟨"LayerBook$Fall", "wish", "([ILLayerBook$Month;J)J"⟩, 10) := ⟨⟨by decide +kernel, by decide +kernel⟩, List.mem_of_getElem? (i := 110) (by decide +kernel), List.mem_of_getElem? (i := 797) (by decide +kernel), List.mem_of_getElem? (i := 798) (by decide +kernel)⟩
theorem lw_p19 : lw_okq (⟨"LayerBook$Fall", "paperOf", "([I)LLayerBook$Paper;"⟩, 10) := ⟨⟨by decide +kernel, by decide +kernel⟩, List.mem_of_getElem? (i := 110) (by decide +kernel), List.mem_of_getElem? (i := 801) (by decide +kernel), List.mem_of_getElem? (i := 802) (by decide +kernel)⟩
theorem lw_p20 : lw_okq (⟨"LayerBook$Fall", "give", "([IJI)V"⟩, 10) := ⟨⟨by decide +kernel, by decide +kernel⟩, List.mem_of_getElem? (i := 110) (by decide +kernel), List.mem_of_getElem? (i := 809) (by decide +kernel), List.mem_of_getElem? (i := 810) (by decide +kernel)⟩
theorem lw_p21 : lw_okq (⟨"LayerBook$Fall", "writeDown", "(J)V"⟩, 10) := ⟨⟨by decide +kernel, by decide +kernel⟩, List.mem_of_getElem? (i := 110) (by decide +kernel), List.mem_of_getElem? (i := 825) (by decide +kernel), List.mem_of_getElem? (i := 826) (by decide +kernel)⟩
theorem lw_p22 : lw_okq (⟨"LayerBook$Loan", "findPay", "(I)V"⟩, 8) := ⟨⟨by decide +kernel, by decide +kernel⟩, List.mem_of_getElem? (i := 34) (by decide +kernel), List.mem_of_getElem? (i := 867) (by decide +kernel), List.mem_of_getElem? (i := 868) (by decide +kernel)⟩
theorem lw_p23 : lw_okq (⟨"LayerBook$Loan", "wouldEnd", "(JI)Z"⟩, 8) := ⟨⟨by decide +kernel, by decide +kernel⟩, List.mem_of_getElem? (i := 34) (by decide +kernel), List.mem_of_getElem? (i := 878) (by decide +kernel), List.mem_of_getElem? (i := 879) (by decide +kernel)⟩
theorem lw_p24 : lw_okq (⟨"LayerBook$Pool", "draw", "(ILLayerBook$Loan;ILLayerBook$Month;)V"⟩, 7) := ⟨⟨by decide +kernel, by decide +kernel⟩, List.mem_of_getElem? (i := 27) (by decide +kernel), List.mem_of_getElem? (i := 886) (by decide +kernel), List.mem_of_getElem? (i := 887) (by decide +kernel)⟩
theorem lw_p25 : lw_okq (⟨"LayerBook$Pool", "chance", "(ILLayerBook$Loan;I)I"⟩, 7) := ⟨⟨by decide +kernel, by decide +kernel⟩, List.mem_of_getElem? (i := 27) (by decide +kernel), List.mem_of_getElem? (i := 890) (by decide +kernel), List.mem_of_getElem? (i := 891) (by decide +kernel)⟩
theorem lw_p26 : lw_okq (⟨"LayerBook$Pool", "lot", "(II)I"⟩, 7) := ⟨⟨by decide +kernel, by decide +kernel⟩, List.mem_of_getElem? (i := 27) (by decide +kernel), List.mem_of_getElem? (i := 897) (by decide +kernel), List.mem_of_getElem? (i := 898) (by decide +kernel)⟩
theorem lw_p27 : lw_okq (⟨"LayerBook$Pool", "fallLate", "(LLayerBook$Loan;ILLayerBook$Month;)V"⟩, 7) := ⟨⟨by decide +kernel, by decide +kernel⟩, List.mem_of_getElem? (i := 27) (by decide +kernel), List.mem_of_getElem? (i := 914) (by decide +kernel), List.mem_of_getElem? (i := 915) (by decide +kernel)⟩
theorem lw_p28 : lw_okq (⟨"LayerBook$Pool", "sell", "(LLayerBook$Loan;LLayerBook$Month;)V"⟩, 7) := ⟨⟨by decide +kernel, by decide +kernel⟩, List.mem_of_getElem? (i := 27) (by decide +kernel), List.mem_of_getElem? (i := 934) (by decide +kernel), List.mem_of_getElem? (i := 935) (by decide +kernel)⟩
theorem lw_p29 : lw_okq (⟨"LayerBook$Pool", "late", "()I"⟩, 7) := ⟨⟨by decide +kernel, by decide +kernel⟩, List.mem_of_getElem? (i := 27) (by decide +kernel), List.mem_of_getElem? (i := 940) (by decide +kernel), List.mem_of_getElem? (i := 941) (by decide +kernel)⟩
theorem lw_p30 : lw_okq (⟨"LayerBook", "refusalOf", "(III)I"⟩, 15) := ⟨⟨by decide +kernel, by decide +kernel⟩, List.mem_of_getElem? (i := 19) (by decide +kernel), List.mem_of_getElem? (i := 965) (by decide +kernel), List.mem_of_getElem? (i := 966) (by decide +kernel)⟩
theorem lw_p31 : lw_okq (⟨"LayerBook", "firstUnlike", "([IIII)I"⟩, 15) := ⟨⟨by decide +kernel, by decide +kernel⟩, List.mem_of_getElem? (i := 19) (by decide +kernel), List.mem_of_getElem? (i := 973) (by decide +kernel), List.mem_of_getElem? (i := 974) (by decide +kernel)⟩
def lw_privs_2 : List (MethodName × Nat) := [(⟨"LayerBook$Fall", "field", "(IILLayerBook$Month;)J"⟩, 10), (⟨"LayerBook$Fall", "cover", "(J)J"⟩, 10), (⟨"LayerBook$Fall", "wish", "([ILLayerBook$Month;J)J"⟩, 10), (⟨"LayerBook$Fall", "paperOf", "([I)LLayerBook$Paper;"⟩, 10), (⟨"LayerBook$Fall", "give", "([IJI)V"⟩, 10), (⟨"LayerBook$Fall", "writeDown", "(J)V"⟩, 10), (⟨"LayerBook$Loan", "findPay", "(I)V"⟩, 8), (⟨"LayerBook$Loan", "wouldEnd", "(JI)Z"⟩, 8), (⟨"LayerBook$Pool", "draw", "(ILLayerBook$Loan;ILLayerBook$Month;)V"⟩, 7), (⟨"LayerBook$Pool", "chance", "(ILLayerBook$Loan;I)I"⟩, 7), (⟨"LayerBook$Pool", "lot", "(II)I"⟩, 7), (⟨"LayerBook$Pool", "fallLate", "(LLayerBook$Loan;ILLayerBook$Month;)V"⟩, 7), (⟨"LayerBook$Pool", "sell", "(LLayerBook$Loan;LLayerBook$Month;)V"⟩, 7), (⟨"LayerBook$Pool", "late", "()I"⟩, 7), (⟨"LayerBook", "refusalOf", "(III)I"⟩, 15), (⟨"LayerBook", "firstUnlike", "([IIII)I"⟩, 15)]
theorem lw_r2 : ∀ q ∈ lw_privs_2, lw_okq q := List.forall_mem_cons.mpr ⟨lw_p16, List.forall_mem_cons.mpr ⟨lw_p17, List.forall_mem_cons.mpr ⟨lw_p18, List.forall_mem_cons.mpr ⟨lw_p19, List.forall_mem_cons.mpr ⟨lw_p20, List.forall_mem_cons.mpr ⟨lw_p21, List.forall_mem_cons.mpr ⟨lw_p22, List.forall_mem_cons.mpr ⟨lw_p23, List.forall_mem_cons.mpr ⟨lw_p24, List.forall_mem_cons.mpr ⟨lw_p25, List.forall_mem_cons.mpr ⟨lw_p26, List.forall_mem_cons.mpr ⟨lw_p27, List.forall_mem_cons.mpr ⟨lw_p28, List.forall_mem_cons.mpr ⟨lw_p29, List.forall_mem_cons.mpr ⟨lw_p30, List.forall_mem_cons.mpr ⟨lw_p31, fun _ h => absurd h List.not_mem_nil⟩⟩⟩⟩⟩⟩⟩⟩⟩⟩⟩⟩⟩⟩⟩⟩
theorem lw_p32 : lw_okq (⟨"LayerBookModel", "spell", "(IJ)V"⟩, 81) := ⟨⟨by decide +kernel, by decide +kernel⟩, List.mem_of_getElem? (i := 1029) (by decide +kernel), List.mem_of_getElem? (i := 1036) (by decide +kernel), List.mem_of_getElem? (i := 1037) (by decide +kernel)⟩
theorem lw_p33 : lw_okq (⟨"LayerBookModel", "isLoan", "(I)Z"⟩, 81) := ⟨⟨by decide +kernel, by decide +kernel⟩, List.mem_of_getElem? (i := 1029) (by decide +kernel), List.mem_of_getElem? (i := 1303) (by decide +kernel), List.mem_of_getElem? (i := 1304) (by decide +kernel)⟩
theorem lw_p34 : lw_okq (⟨"LayerBookModel", "read", "(II)I"⟩, 81) := ⟨⟨by decide +kernel, by decide +kernel⟩, List.mem_of_getElem? (i := 1029) (by decide +kernel), List.mem_of_getElem? (i := 1324) (by decide +kernel), List.mem_of_getElem? (i := 1325) (by decide +kernel)⟩
theorem lw_p35 : lw_okq (⟨"LayerBookModel", "next", "()V"⟩, 81) := ⟨⟨by decide +kernel, by decide +kernel⟩, List.mem_of_getElem? (i := 1029) (by decide +kernel), List.mem_of_getElem? (i := 1328) (by decide +kernel), List.mem_of_getElem? (i := 1329) (by decide +kernel)⟩
theorem lw_p36 : lw_okq (⟨"LayerBookModel", "byteAt", "(I)I"⟩, 81) := ⟨⟨by decide +kernel, by decide +kernel⟩, List.mem_of_getElem? (i := 1029) (by decide +kernel), List.mem_of_getElem? (i := 1332) (by decide +kernel), List.mem_of_getElem? (i := 1333) (by decide +kernel)⟩
theorem lw_p37 : lw_okq (⟨"LayerBookModel", "part", "(J)I"⟩, 81) := ⟨⟨by decide +kernel, by decide +kernel⟩, List.mem_of_getElem? (i := 1029) (by decide +kernel), List.mem_of_getElem? (i := 1342) (by decide +kernel), List.mem_of_getElem? (i := 1343) (by decide +kernel)⟩
theorem lw_p38 : lw_okq (⟨"LayerBookModel", "isWord", "(J)Z"⟩, 81) := ⟨⟨by decide +kernel, by decide +kernel⟩, List.mem_of_getElem? (i := 1029) (by decide +kernel), List.mem_of_getElem? (i := 1346) (by decide +kernel), List.mem_of_getElem? (i := 1347) (by decide +kernel)⟩
theorem lw_p39 : lw_okq (⟨"LayerBookModel", "fail", "()V"⟩, 81) := ⟨⟨by decide +kernel, by decide +kernel⟩, List.mem_of_getElem? (i := 1029) (by decide +kernel), List.mem_of_getElem? (i := 1350) (by decide +kernel), List.mem_of_getElem? (i := 1351) (by decide +kernel)⟩
theorem lw_p40 : lw_okq (⟨"LayerBookModel", "either", "()I"⟩, 81) := ⟨⟨by decide +kernel, by decide +kernel⟩, List.mem_of_getElem? (i := 1029) (by decide +kernel), List.mem_of_getElem? (i := 1354) (by decide +kernel), List.mem_of_getElem? (i := 1355) (by decide +kernel)⟩
theorem lw_p41 : lw_okq (⟨"LayerBookModel", "both", "()I"⟩, 81) := ⟨⟨by decide +kernel, by decide +kernel⟩, List.mem_of_getElem? (i := 1029) (by decide +kernel), List.mem_of_getElem? (i := 1358) (by decide +kernel), List.mem_of_getElem? (i := 1359) (by decide +kernel)⟩
theorem lw_p42 : lw_okq (⟨"LayerBookModel", "not", "()I"⟩, 81) := ⟨⟨by decide +kernel, by decide +kernel⟩, List.mem_of_getElem? (i := 1029) (by decide +kernel), List.mem_of_getElem? (i := 1362) (by decide +kernel), List.mem_of_getElem? (i := 1363) (by decide +kernel)⟩
theorem lw_p43 : lw_okq (⟨"LayerBookModel", "opens", "()Z"⟩, 81) := ⟨⟨by decide +kernel, by decide +kernel⟩, List.mem_of_getElem? (i := 1029) (by decide +kernel), List.mem_of_getElem? (i := 1367) (by decide +kernel), List.mem_of_getElem? (i := 1368) (by decide +kernel)⟩
theorem lw_p44 : lw_okq (⟨"LayerBookModel", "added", "()I"⟩, 81) := ⟨⟨by decide +kernel, by decide +kernel⟩, List.mem_of_getElem? (i := 1029) (by decide +kernel), List.mem_of_getElem? (i := 1371) (by decide +kernel), List.mem_of_getElem? (i := 1372) (by decide +kernel)⟩
theorem lw_p45 : lw_okq (⟨"LayerBookModel", "term", "()I"⟩, 81) := ⟨⟨by decide +kernel, by decide +kernel⟩, List.mem_of_getElem? (i := 1029) (by decide +kernel), List.mem_of_getElem? (i := 1375) (by decide +kernel), List.mem_of_getElem? (i := 1376) (by decide +kernel)⟩
theorem lw_p46 : lw_okq (⟨"LayerBookModel", "one", "()I"⟩, 81) := ⟨⟨by decide +kernel, by decide +kernel⟩, List.mem_of_getElem? (i := 1029) (by decide +kernel), List.mem_of_getElem? (i := 1379) (by decide +kernel), List.mem_of_getElem? (i := 1380) (by decide +kernel)⟩
theorem lw_p47 : lw_okq (⟨"LayerBookModel", "isSign", "(I)Z"⟩, 81) := ⟨⟨by decide +kernel, by decide +kernel⟩, List.mem_of_getElem? (i := 1029) (by decide +kernel), List.mem_of_getElem? (i := 1383) (by decide +kernel), List.mem_of_getElem? (i := 1384) (by decide +kernel)⟩
def lw_privs_3 : List (MethodName × Nat) := [(⟨"LayerBookModel", "spell", "(IJ)V"⟩, 81), (⟨"LayerBookModel", "isLoan", "(I)Z"⟩, 81), (⟨"LayerBookModel", "read", "(II)I"⟩, 81), (⟨"LayerBookModel", "next", "()V"⟩, 81), (⟨"LayerBookModel", "byteAt", "(I)I"⟩, 81), (⟨"LayerBookModel", "part", "(J)I"⟩, 81), (⟨"LayerBookModel", "isWord", "(J)Z"⟩, 81), (⟨"LayerBookModel", "fail", "()V"⟩, 81), (⟨"LayerBookModel", "either", "()I"⟩, 81), (⟨"LayerBookModel", "both", "()I"⟩, 81), (⟨"LayerBookModel", "not", "()I"⟩, 81), (⟨"LayerBookModel", "opens", "()Z"⟩, 81), (⟨"LayerBookModel", "added", "()I"⟩, 81), (⟨"LayerBookModel", "term", "()I"⟩, 81), (⟨"LayerBookModel", "one", "()I"⟩, 81), (⟨"LayerBookModel", "isSign", "(I)Z"⟩, 81)]
theorem lw_r3 : ∀ q ∈ lw_privs_3, lw_okq q := List.forall_mem_cons.mpr ⟨lw_p32, List.forall_mem_cons.mpr ⟨lw_p33, List.forall_mem_cons.mpr ⟨lw_p34, List.forall_mem_cons.mpr ⟨lw_p35, List.forall_mem_cons.mpr ⟨lw_p36, List.forall_mem_cons.mpr ⟨lw_p37, List.forall_mem_cons.mpr ⟨lw_p38, List.forall_mem_cons.mpr ⟨lw_p39, List.forall_mem_cons.mpr ⟨lw_p40, List.forall_mem_cons.mpr ⟨lw_p41, List.forall_mem_cons.mpr ⟨lw_p42, List.forall_mem_cons.mpr ⟨lw_p43, List.forall_mem_cons.mpr ⟨lw_p44, List.forall_mem_cons.mpr ⟨lw_p45, List.forall_mem_cons.mpr ⟨lw_p46, List.forall_mem_cons.mpr ⟨lw_p47, fun _ h => absurd h List.not_mem_nil⟩⟩⟩⟩⟩⟩⟩⟩⟩⟩⟩⟩⟩⟩⟩⟩
theorem lw_p48 : lw_okq (⟨"LayerBookModel", "name", "()I"⟩, 81) := ⟨⟨by decide +kernel, by decide +kernel⟩, List.mem_of_getElem? (i := 1029) (by decide +kernel), List.mem_of_getElem? (i := 1387) (by decide +kernel), List.mem_of_getElem? (i := 1388) (by decide +kernel)⟩
theorem lw_p49 : lw_okq (⟨"LayerBookModel", "saysOf", "(III)I"⟩, 81) := ⟨⟨by decide +kernel, by decide +kernel⟩, List.mem_of_getElem? (i := 1029) (by decide +kernel), List.mem_of_getElem? (i := 1411) (by decide +kernel), List.mem_of_getElem? (i := 1412) (by decide +kernel)⟩
theorem lw_p50 : lw_okq (⟨"LayerBookModel", "readStep", "(I)V"⟩, 81) := ⟨⟨by decide +kernel, by decide +kernel⟩, List.mem_of_getElem? (i := 1029) (by decide +kernel), List.mem_of_getElem? (i := 1421) (by decide +kernel), List.mem_of_getElem? (i := 1422) (by decide +kernel)⟩
theorem lw_p51 : lw_okq (⟨"LayerBookModel", "paperHere", "()I"⟩, 81) := ⟨⟨by decide +kernel, by decide +kernel⟩, List.mem_of_getElem? (i := 1029) (by decide +kernel), List.mem_of_getElem? (i := 1430) (by decide +kernel), List.mem_of_getElem? (i := 1431) (by decide +kernel)⟩
theorem lw_p52 : lw_okq (⟨"LayerBookModel", "numberHere", "()I"⟩, 81) := ⟨⟨by decide +kernel, by decide +kernel⟩, List.mem_of_getElem? (i := 1029) (by decide +kernel), List.mem_of_getElem? (i := 1435) (by decide +kernel), List.mem_of_getElem? (i := 1436) (by decide +kernel)⟩
theorem lw_p53 : lw_okq (⟨"LayerBookModel", "fieldHere", "()I"⟩, 81) := ⟨⟨by decide +kernel, by decide +kernel⟩, List.mem_of_getElem? (i := 1029) (by decide +kernel), List.mem_of_getElem? (i := 1440) (by decide +kernel), List.mem_of_getElem? (i := 1441) (by decide +kernel)⟩
theorem lw_p54 : lw_okq (⟨"LayerBookModel", "isPaper", "(I)Z"⟩, 81) := ⟨⟨by decide +kernel, by decide +kernel⟩, List.mem_of_getElem? (i := 1029) (by decide +kernel), List.mem_of_getElem? (i := 1460) (by decide +kernel), List.mem_of_getElem? (i := 1461) (by decide +kernel)⟩
theorem lw_p55 : lw_okq (⟨"LayerBookModel", "anew", "()V"⟩, 81) := ⟨⟨by decide +kernel, by decide +kernel⟩, List.mem_of_getElem? (i := 1029) (by decide +kernel), List.mem_of_getElem? (i := 1479) (by decide +kernel), List.mem_of_getElem? (i := 1480) (by decide +kernel)⟩
theorem lw_p56 : lw_okq (⟨"LayerBookModel", "pay", "(I)V"⟩, 81) := ⟨⟨by decide +kernel, by decide +kernel⟩, List.mem_of_getElem? (i := 1029) (by decide +kernel), List.mem_of_getElem? (i := 1483) (by decide +kernel), List.mem_of_getElem? (i := 1484) (by decide +kernel)⟩
theorem lw_p57 : lw_okq (⟨"LayerBookModel", "lostNow", "()J"⟩, 81) := ⟨⟨by decide +kernel, by decide +kernel⟩, List.mem_of_getElem? (i := 1029) (by decide +kernel), List.mem_of_getElem? (i := 1487) (by decide +kernel), List.mem_of_getElem? (i := 1488) (by decide +kernel)⟩
theorem lw_p58 : lw_okq (⟨"LayerBookModel", "isSo", "(II)Z"⟩, 81) := ⟨⟨by decide +kernel, by decide +kernel⟩, List.mem_of_getElem? (i := 1029) (by decide +kernel), List.mem_of_getElem? (i := 1493) (by decide +kernel), List.mem_of_getElem? (i := 1494) (by decide +kernel)⟩
theorem lw_p59 : lw_okq (⟨"LayerBookModel", "field", "(II)J"⟩, 81) := ⟨⟨by decide +kernel, by decide +kernel⟩, List.mem_of_getElem? (i := 1029) (by decide +kernel), List.mem_of_getElem? (i := 1497) (by decide +kernel), List.mem_of_getElem? (i := 1498) (by decide +kernel)⟩
theorem lw_p60 : lw_okq (⟨"LayerBookModel", "wish", "(IIJ)J"⟩, 81) := ⟨⟨by decide +kernel, by decide +kernel⟩, List.mem_of_getElem? (i := 1029) (by decide +kernel), List.mem_of_getElem? (i := 1503) (by decide +kernel), List.mem_of_getElem? (i := 1504) (by decide +kernel)⟩
theorem lw_p61 : lw_okq (⟨"LayerBookModel", "goOn", "()V"⟩, 81) := ⟨⟨by decide +kernel, by decide +kernel⟩, List.mem_of_getElem? (i := 1029) (by decide +kernel), List.mem_of_getElem? (i := 1511) (by decide +kernel), List.mem_of_getElem? (i := 1512) (by decide +kernel)⟩
theorem lw_p62 : lw_okq (⟨"LayerBookModel", "collect", "(I)V"⟩, 81) := ⟨⟨by decide +kernel, by decide +kernel⟩, List.mem_of_getElem? (i := 1029) (by decide +kernel), List.mem_of_getElem? (i := 1515) (by decide +kernel), List.mem_of_getElem? (i := 1516) (by decide +kernel)⟩
theorem lw_p63 : lw_okq (⟨"LayerBookModel", "pool", "()I"⟩, 81) := ⟨⟨by decide +kernel, by decide +kernel⟩, List.mem_of_getElem? (i := 1029) (by decide +kernel), List.mem_of_getElem? (i := 1519) (by decide +kernel), List.mem_of_getElem? (i := 1520) (by decide +kernel)⟩
def lw_privs_4 : List (MethodName × Nat) := [(⟨"LayerBookModel", "name", "()I"⟩, 81), (⟨"LayerBookModel", "saysOf", "(III)I"⟩, 81), (⟨"LayerBookModel", "readStep", "(I)V"⟩, 81), (⟨"LayerBookModel", "paperHere", "()I"⟩, 81), (⟨"LayerBookModel", "numberHere", "()I"⟩, 81), (⟨"LayerBookModel", "fieldHere", "()I"⟩, 81), (⟨"LayerBookModel", "isPaper", "(I)Z"⟩, 81), (⟨"LayerBookModel", "anew", "()V"⟩, 81), (⟨"LayerBookModel", "pay", "(I)V"⟩, 81), (⟨"LayerBookModel", "lostNow", "()J"⟩, 81), (⟨"LayerBookModel", "isSo", "(II)Z"⟩, 81), (⟨"LayerBookModel", "field", "(II)J"⟩, 81), (⟨"LayerBookModel", "wish", "(IIJ)J"⟩, 81), (⟨"LayerBookModel", "goOn", "()V"⟩, 81), (⟨"LayerBookModel", "collect", "(I)V"⟩, 81), (⟨"LayerBookModel", "pool", "()I"⟩, 81)]
theorem lw_r4 : ∀ q ∈ lw_privs_4, lw_okq q := List.forall_mem_cons.mpr ⟨lw_p48, List.forall_mem_cons.mpr ⟨lw_p49, List.forall_mem_cons.mpr ⟨lw_p50, List.forall_mem_cons.mpr ⟨lw_p51, List.forall_mem_cons.mpr ⟨lw_p52, List.forall_mem_cons.mpr ⟨lw_p53, List.forall_mem_cons.mpr ⟨lw_p54, List.forall_mem_cons.mpr ⟨lw_p55, List.forall_mem_cons.mpr ⟨lw_p56, List.forall_mem_cons.mpr ⟨lw_p57, List.forall_mem_cons.mpr ⟨lw_p58, List.forall_mem_cons.mpr ⟨lw_p59, List.forall_mem_cons.mpr ⟨lw_p60, List.forall_mem_cons.mpr ⟨lw_p61, List.forall_mem_cons.mpr ⟨lw_p62, List.forall_mem_cons.mpr ⟨lw_p63, fun _ h => absurd h List.not_mem_nil⟩⟩⟩⟩⟩⟩⟩⟩⟩⟩⟩⟩⟩⟩⟩⟩
theorem lw_p64 : lw_okq (⟨"LayerBookModel", "goes", "(II)V"⟩, 81) := ⟨⟨by decide +kernel, by decide +kernel⟩, List.mem_of_getElem? (i := 1029) (by decide +kernel), List.mem_of_getElem? (i := 1538) (by decide +kernel), List.mem_of_getElem? (i := 1539) (by decide +kernel)⟩
theorem lw_p65 : lw_okq (⟨"LayerBookModel", "lot", "(II)I"⟩, 81) := ⟨⟨by decide +kernel, by decide +kernel⟩, List.mem_of_getElem? (i := 1029) (by decide +kernel), List.mem_of_getElem? (i := 1545) (by decide +kernel), List.mem_of_getElem? (i := 1546) (by decide +kernel)⟩
theorem lw_p66 : lw_okq (⟨"LayerBookModel", "paysOff", "(IIII)V"⟩, 81) := ⟨⟨by decide +kernel, by decide +kernel⟩, List.mem_of_getElem? (i := 1029) (by decide +kernel), List.mem_of_getElem? (i := 1553) (by decide +kernel), List.mem_of_getElem? (i := 1554) (by decide +kernel)⟩
theorem lw_p67 : lw_okq (⟨"LayerBookModel", "principal", "(III)I"⟩, 81) := ⟨⟨by decide +kernel, by decide +kernel⟩, List.mem_of_getElem? (i := 1029) (by decide +kernel), List.mem_of_getElem? (i := 1557) (by decide +kernel), List.mem_of_getElem? (i := 1558) (by decide +kernel)⟩
theorem lw_p68 : lw_okq (⟨"LayerBookModel", "turn", "(Z)V"⟩, 81) := ⟨⟨by decide +kernel, by decide +kernel⟩, List.mem_of_getElem? (i := 1029) (by decide +kernel), List.mem_of_getElem? (i := 1573) (by decide +kernel), List.mem_of_getElem? (i := 1574) (by decide +kernel)⟩
theorem lw_p69 : lw_okq (⟨"LayerBookModel", "pass", "(ZJ)J"⟩, 81) := ⟨⟨by decide +kernel, by decide +kernel⟩, List.mem_of_getElem? (i := 1029) (by decide +kernel), List.mem_of_getElem? (i := 1577) (by decide +kernel), List.mem_of_getElem? (i := 1578) (by decide +kernel)⟩
theorem lw_p70 : lw_okq (⟨"LayerBookModel", "noRow", "(IIII)I"⟩, 81) := ⟨⟨by decide +kernel, by decide +kernel⟩, List.mem_of_getElem? (i := 1029) (by decide +kernel), List.mem_of_getElem? (i := 1600) (by decide +kernel), List.mem_of_getElem? (i := 1601) (by decide +kernel)⟩
def lw_privs_5 : List (MethodName × Nat) := [(⟨"LayerBookModel", "goes", "(II)V"⟩, 81), (⟨"LayerBookModel", "lot", "(II)I"⟩, 81), (⟨"LayerBookModel", "paysOff", "(IIII)V"⟩, 81), (⟨"LayerBookModel", "principal", "(III)I"⟩, 81), (⟨"LayerBookModel", "turn", "(Z)V"⟩, 81), (⟨"LayerBookModel", "pass", "(ZJ)J"⟩, 81), (⟨"LayerBookModel", "noRow", "(IIII)I"⟩, 81)]
theorem lw_r5 : ∀ q ∈ lw_privs_5, lw_okq q := List.forall_mem_cons.mpr ⟨lw_p64, List.forall_mem_cons.mpr ⟨lw_p65, List.forall_mem_cons.mpr ⟨lw_p66, List.forall_mem_cons.mpr ⟨lw_p67, List.forall_mem_cons.mpr ⟨lw_p68, List.forall_mem_cons.mpr ⟨lw_p69, List.forall_mem_cons.mpr ⟨lw_p70, fun _ h => absurd h List.not_mem_nil⟩⟩⟩⟩⟩⟩⟩
def lw_privs : List (MethodName × Nat) := lw_privs_1 ++ (lw_privs_2 ++ (lw_privs_3 ++ (lw_privs_4 ++ (lw_privs_5))))
def lw_tbl : List Cond := k2_sels lw_privs ++ tables_1
theorem lw_privs_ok : ∀ q ∈ lw_privs, lw_okq q := by
  show ∀ q ∈ lw_privs_1 ++ (lw_privs_2 ++ (lw_privs_3 ++ (lw_privs_4 ++ (lw_privs_5)))), lw_okq q
  exact List.forall_mem_append.mpr ⟨lw_r1, List.forall_mem_append.mpr ⟨lw_r2, List.forall_mem_append.mpr ⟨lw_r3, List.forall_mem_append.mpr ⟨lw_r4, lw_r5⟩⟩⟩⟩
def RX0 : String := "LayerBook$Fall"
def TX0 : u_T := fun k => match k with
  | 0 => ("LayerBook$Fall", "papers", "[LLayerBook$Paper;", true)
  | 1 => ("LayerBook$Fall", "count", "I", false)
  | 2 => ("LayerBook$Fall", "bound", "I", false)
  | 3 => ("LayerBook$Fall", "cure", "I", false)
  | 4 => ("LayerBook$Fall", "reserve", "J", false)
  | 5 => ("LayerBook$Fall", "tripped", "Z", false)
  | 6 => ("LayerBook$Fall", "quiet", "I", false)
  | 7 => ("LayerBook$Fall", "lost", "J", false)
  | 8 => ("LayerBook$Fall", "firstPool", "J", false)
  | _ => ("LayerBook$Fall", "rested", "J", false)
def tyX0 : Nat → FieldType := fun k => match k with
  | 0 => .array (.object "LayerBook$Paper")
  | 1 => .int
  | 2 => .int
  | 3 => .int
  | 4 => .long
  | 5 => .boolean
  | 6 => .int
  | 7 => .long
  | 8 => .long
  | _ => .long
theorem nmX0 : ∀ a, a < 10 → ∀ b, b < 10 → a ≠ b → (TX0 a).2.1 ≠ (TX0 b).2.1 := by decide +kernel
theorem tyX0_ok : ∀ k, k < 10 → parseFieldDescriptor (TX0 k).2.2.1 = some (tyX0 k) := by decide +kernel
abbrev cX0_init : ByteArray := prog_2_method_1_code
def yX0_init : MethodName := ⟨RX0, "<init>", "()V"⟩
abbrev cX0_restart : ByteArray := prog_2_method_2_code
def yX0_restart : MethodName := ⟨RX0, "restart", "()V"⟩
abbrev cX0_copy : ByteArray := prog_2_method_3_code
def yX0_copy : MethodName := ⟨RX0, "copy", "(LLayerBook$Fall;)V"⟩
abbrev cX0_pour : ByteArray := prog_2_method_4_code
def yX0_pour : MethodName := ⟨RX0, "pour", "(ILLayerBook$Month;LLayerBook$Order;)V"⟩
abbrev cX0_turnTrip : ByteArray := prog_2_method_5_code
def yX0_turnTrip : MethodName := ⟨RX0, "turnTrip", "(J)V"⟩
abbrev cX0_lostShare : ByteArray := prog_2_method_6_code
def yX0_lostShare : MethodName := ⟨RX0, "lostShare", "()J"⟩
abbrev cX0_takeSteps : ByteArray := prog_2_method_7_code
def yX0_takeSteps : MethodName := ⟨RX0, "takeSteps", "(ILLayerBook$Month;LLayerBook$Order;)V"⟩
abbrev cX0_passes : ByteArray := prog_2_method_8_code
def yX0_passes : MethodName := ⟨RX0, "passes", "([IILLayerBook$Month;)Z"⟩
abbrev cX0_field : ByteArray := prog_2_method_9_code
def yX0_field : MethodName := ⟨RX0, "field", "(IILLayerBook$Month;)J"⟩
abbrev cX0_cover : ByteArray := prog_2_method_10_code
def yX0_cover : MethodName := ⟨RX0, "cover", "(J)J"⟩
abbrev cX0_wish : ByteArray := prog_2_method_11_code
def yX0_wish : MethodName := ⟨RX0, "wish", "([ILLayerBook$Month;J)J"⟩
abbrev cX0_give : ByteArray := prog_2_method_12_code
def yX0_give : MethodName := ⟨RX0, "give", "([IJI)V"⟩
abbrev cX0_paperOf : ByteArray := prog_2_method_13_code
def yX0_paperOf : MethodName := ⟨RX0, "paperOf", "([I)LLayerBook$Paper;"⟩
abbrev cX0_writeDown : ByteArray := prog_2_method_14_code
def yX0_writeDown : MethodName := ⟨RX0, "writeDown", "(J)V"⟩
def RX1 : String := "LayerBook$Law"
def TX1 : u_T := fun k => match k with
  | 0 => ("LayerBook$Law", "code", "[I", true)
  | 1 => ("LayerBook$Law", "starts", "[I", true)
  | 2 => ("LayerBook$Law", "stack", "[I", true)
  | 3 => ("LayerBook$Law", "length", "I", false)
  | _ => ("LayerBook$Law", "open", "I", false)
def tyX1 : Nat → FieldType := fun k => match k with
  | 0 => .array .int
  | 1 => .array .int
  | 2 => .array .int
  | 3 => .int
  | _ => .int
theorem nmX1 : ∀ a, a < 5 → ∀ b, b < 5 → a ≠ b → (TX1 a).2.1 ≠ (TX1 b).2.1 := by decide +kernel
theorem tyX1_ok : ∀ k, k < 5 → parseFieldDescriptor (TX1 k).2.2.1 = some (tyX1 k) := by decide +kernel
abbrev cX1_init : ByteArray := prog_3_method_1_code
def yX1_init : MethodName := ⟨RX1, "<init>", "()V"⟩
abbrev cX1_read : ByteArray := prog_3_method_2_code
def yX1_read : MethodName := ⟨RX1, "read", "(LLayerBook$Tape;)I"⟩
abbrev cX1_readChain : ByteArray := prog_3_method_3_code
def yX1_readChain : MethodName := ⟨RX1, "readChain", "(LLayerBook$Tape;I)Z"⟩
abbrev cX1_signOf : ByteArray := prog_3_method_4_code
def yX1_signOf : MethodName := ⟨RX1, "signOf", "(LLayerBook$Tape;I)I"⟩
abbrev cX1_readCompared : ByteArray := prog_3_method_5_code
def yX1_readCompared : MethodName := ⟨RX1, "readCompared", "(LLayerBook$Tape;)Z"⟩
abbrev cX1_readOne : ByteArray := prog_3_method_6_code
def yX1_readOne : MethodName := ⟨RX1, "readOne", "(LLayerBook$Tape;)Z"⟩
abbrev cX1_opens : ByteArray := prog_3_method_7_code
def yX1_opens : MethodName := ⟨RX1, "opens", "(LLayerBook$Tape;)Z"⟩
abbrev cX1_closes : ByteArray := prog_3_method_8_code
def yX1_closes : MethodName := ⟨RX1, "closes", "()Z"⟩
abbrev cX1_write : ByteArray := prog_3_method_9_code
def yX1_write : MethodName := ⟨RX1, "write", "(I)Z"⟩
abbrev cX1_value : ByteArray := prog_3_method_10_code
def yX1_value : MethodName := ⟨RX1, "value", "(ILLayerBook$Loan;I)I"⟩
abbrev cX1_joined : ByteArray := prog_3_method_11_code
def yX1_joined : MethodName := ⟨RX1, "joined", "(III)I"⟩
abbrev cX1_truth : ByteArray := prog_3_method_12_code
def yX1_truth : MethodName := ⟨RX1, "truth", "(Z)I"⟩
abbrev cX1_named : ByteArray := prog_3_method_13_code
def yX1_named : MethodName := ⟨RX1, "named", "(ILLayerBook$Loan;I)I"⟩
def RX2 : String := "LayerBook$Loan"
def TX2 : u_T := fun k => match k with
  | 0 => ("LayerBook$Loan", "kind", "I", false)
  | 1 => ("LayerBook$Loan", "balance", "J", false)
  | 2 => ("LayerBook$Loan", "rate", "I", false)
  | 3 => ("LayerBook$Loan", "months", "I", false)
  | 4 => ("LayerBook$Loan", "owed", "J", false)
  | 5 => ("LayerBook$Loan", "state", "I", false)
  | 6 => ("LayerBook$Loan", "pay", "J", false)
  | _ => ("LayerBook$Loan", "failedIn", "I", false)
def tyX2 : Nat → FieldType := fun k => match k with
  | 0 => .int
  | 1 => .long
  | 2 => .int
  | 3 => .int
  | 4 => .long
  | 5 => .int
  | 6 => .long
  | _ => .int
theorem nmX2 : ∀ a, a < 8 → ∀ b, b < 8 → a ≠ b → (TX2 a).2.1 ≠ (TX2 b).2.1 := by decide +kernel
theorem tyX2_ok : ∀ k, k < 8 → parseFieldDescriptor (TX2 k).2.2.1 = some (tyX2 k) := by decide +kernel
abbrev cX2_init : ByteArray := prog_4_method_1_code
def yX2_init : MethodName := ⟨RX2, "<init>", "()V"⟩
abbrev cX2_open : ByteArray := prog_4_method_2_code
def yX2_open : MethodName := ⟨RX2, "open", "(IIII)V"⟩
abbrev cX2_copy : ByteArray := prog_4_method_3_code
def yX2_copy : MethodName := ⟨RX2, "copy", "(LLayerBook$Loan;)V"⟩
abbrev cX2_isKind : ByteArray := prog_4_method_4_code
def yX2_isKind : MethodName := ⟨RX2, "isKind", "(I)Z"⟩
abbrev cX2_goesOn : ByteArray := prog_4_method_5_code
def yX2_goesOn : MethodName := ⟨RX2, "goesOn", "()Z"⟩
abbrev cX2_isPooled : ByteArray := prog_4_method_6_code
def yX2_isPooled : MethodName := ⟨RX2, "isPooled", "()Z"⟩
abbrev cX2_isSoldIn : ByteArray := prog_4_method_7_code
def yX2_isSoldIn : MethodName := ⟨RX2, "isSoldIn", "(I)Z"⟩
abbrev cX2_left : ByteArray := prog_4_method_8_code
def yX2_left : MethodName := ⟨RX2, "left", "(I)I"⟩
abbrev cX2_isLast : ByteArray := prog_4_method_9_code
def yX2_isLast : MethodName := ⟨RX2, "isLast", "(I)Z"⟩
abbrev cX2_rests : ByteArray := prog_4_method_10_code
def yX2_rests : MethodName := ⟨RX2, "rests", "(I)Z"⟩
abbrev cX2_interest : ByteArray := prog_4_method_11_code
def yX2_interest : MethodName := ⟨RX2, "interest", "()J"⟩
abbrev cX2_principal : ByteArray := prog_4_method_12_code
def yX2_principal : MethodName := ⟨RX2, "principal", "(I)J"⟩
abbrev cX2_begin : ByteArray := prog_4_method_13_code
def yX2_begin : MethodName := ⟨RX2, "begin", "(I)V"⟩
abbrev cX2_findPay : ByteArray := prog_4_method_14_code
def yX2_findPay : MethodName := ⟨RX2, "findPay", "(I)V"⟩
abbrev cX2_wouldEnd : ByteArray := prog_4_method_15_code
def yX2_wouldEnd : MethodName := ⟨RX2, "wouldEnd", "(JI)Z"⟩
def RX3 : String := "LayerBook$Month"
def TX3 : u_T := fun k => match k with
  | 0 => ("LayerBook$Month", "interests", "J", false)
  | 1 => ("LayerBook$Month", "principals", "J", false)
  | 2 => ("LayerBook$Month", "backs", "J", false)
  | 3 => ("LayerBook$Month", "advanced", "J", false)
  | 4 => ("LayerBook$Month", "paidBack", "J", false)
  | 5 => ("LayerBook$Month", "cash", "J", false)
  | 6 => ("LayerBook$Month", "poolAhead", "J", false)
  | 7 => ("LayerBook$Month", "poolBehind", "J", false)
  | 8 => ("LayerBook$Month", "loss", "J", false)
  | 9 => ("LayerBook$Month", "late", "I", false)
  | 10 => ("LayerBook$Month", "reserve", "J", false)
  | 11 => ("LayerBook$Month", "tripped", "Z", false)
  | _ => ("LayerBook$Month", "took", "[J", true)
def tyX3 : Nat → FieldType := fun k => match k with
  | 0 => .long
  | 1 => .long
  | 2 => .long
  | 3 => .long
  | 4 => .long
  | 5 => .long
  | 6 => .long
  | 7 => .long
  | 8 => .long
  | 9 => .int
  | 10 => .long
  | 11 => .boolean
  | _ => .array .long
theorem nmX3 : ∀ a, a < 13 → ∀ b, b < 13 → a ≠ b → (TX3 a).2.1 ≠ (TX3 b).2.1 := by decide +kernel
theorem tyX3_ok : ∀ k, k < 13 → parseFieldDescriptor (TX3 k).2.2.1 = some (tyX3 k) := by decide +kernel
abbrev cX3_init : ByteArray := prog_5_method_1_code
def yX3_init : MethodName := ⟨RX3, "<init>", "()V"⟩
abbrev cX3_clear : ByteArray := prog_5_method_2_code
def yX3_clear : MethodName := ⟨RX3, "clear", "()V"⟩
abbrev cX3_collected : ByteArray := prog_5_method_3_code
def yX3_collected : MethodName := ⟨RX3, "collected", "()J"⟩
abbrev cX3_fact : ByteArray := prog_5_method_4_code
def yX3_fact : MethodName := ⟨RX3, "fact", "(I)I"⟩
def RX4 : String := "LayerBook$Order"
def TX4 : u_T := fun k => match k with
  | 0 => ("LayerBook$Order", "steps", "[[I", true)
  | _ => ("LayerBook$Order", "count", "I", false)
def tyX4 : Nat → FieldType := fun k => match k with
  | 0 => .array (.array .int)
  | _ => .int
theorem nmX4 : ∀ a, a < 2 → ∀ b, b < 2 → a ≠ b → (TX4 a).2.1 ≠ (TX4 b).2.1 := by decide +kernel
theorem tyX4_ok : ∀ k, k < 2 → parseFieldDescriptor (TX4 k).2.2.1 = some (tyX4 k) := by decide +kernel
abbrev cX4_init : ByteArray := prog_6_method_1_code
def yX4_init : MethodName := ⟨RX4, "<init>", "()V"⟩
abbrev cX4_read : ByteArray := prog_6_method_2_code
def yX4_read : MethodName := ⟨RX4, "read", "(LLayerBook$Tape;)I"⟩
abbrev cX4_writeRest : ByteArray := prog_6_method_3_code
def yX4_writeRest : MethodName := ⟨RX4, "writeRest", "(I)V"⟩
abbrev cX4_clear : ByteArray := prog_6_method_4_code
def yX4_clear : MethodName := ⟨RX4, "clear", "([I)V"⟩
abbrev cX4_readStep : ByteArray := prog_6_method_5_code
def yX4_readStep : MethodName := ⟨RX4, "readStep", "(LLayerBook$Tape;[I)Z"⟩
abbrev cX4_readTest : ByteArray := prog_6_method_6_code
def yX4_readTest : MethodName := ⟨RX4, "readTest", "(LLayerBook$Tape;[I)Z"⟩
abbrev cX4_readWord : ByteArray := prog_6_method_7_code
def yX4_readWord : MethodName := ⟨RX4, "readWord", "(LLayerBook$Tape;Ljava/lang/String;[II)Z"⟩
abbrev cX4_readNumber : ByteArray := prog_6_method_8_code
def yX4_readNumber : MethodName := ⟨RX4, "readNumber", "(LLayerBook$Tape;[II)Z"⟩
def RX5 : String := "LayerBook$Paper"
def TX5 : u_T := fun k => match k with
  | 0 => ("LayerBook$Paper", "coupon", "I", false)
  | 1 => ("LayerBook$Paper", "first", "J", false)
  | 2 => ("LayerBook$Paper", "balance", "J", false)
  | 3 => ("LayerBook$Paper", "lacking", "J", false)
  | 4 => ("LayerBook$Paper", "interest", "J", false)
  | 5 => ("LayerBook$Paper", "principal", "J", false)
  | 6 => ("LayerBook$Paper", "written", "J", false)
  | 7 => ("LayerBook$Paper", "weighted", "J", false)
  | _ => ("LayerBook$Paper", "due", "J", false)
def tyX5 : Nat → FieldType := fun k => match k with
  | 0 => .int
  | 1 => .long
  | 2 => .long
  | 3 => .long
  | 4 => .long
  | 5 => .long
  | 6 => .long
  | 7 => .long
  | _ => .long
theorem nmX5 : ∀ a, a < 9 → ∀ b, b < 9 → a ≠ b → (TX5 a).2.1 ≠ (TX5 b).2.1 := by decide +kernel
theorem tyX5_ok : ∀ k, k < 9 → parseFieldDescriptor (TX5 k).2.2.1 = some (tyX5 k) := by decide +kernel
abbrev cX5_init : ByteArray := prog_7_method_1_code
def yX5_init : MethodName := ⟨RX5, "<init>", "()V"⟩
abbrev cX5_open : ByteArray := prog_7_method_2_code
def yX5_open : MethodName := ⟨RX5, "open", "(II)V"⟩
abbrev cX5_restart : ByteArray := prog_7_method_3_code
def yX5_restart : MethodName := ⟨RX5, "restart", "()V"⟩
abbrev cX5_copy : ByteArray := prog_7_method_4_code
def yX5_copy : MethodName := ⟨RX5, "copy", "(LLayerBook$Paper;)V"⟩
abbrev cX5_got : ByteArray := prog_7_method_5_code
def yX5_got : MethodName := ⟨RX5, "got", "()J"⟩
abbrev cX5_begin : ByteArray := prog_7_method_6_code
def yX5_begin : MethodName := ⟨RX5, "begin", "()V"⟩
abbrev cX5_end : ByteArray := prog_7_method_7_code
def yX5_end : MethodName := ⟨RX5, "end", "()V"⟩
abbrev cX5_payInterest : ByteArray := prog_7_method_8_code
def yX5_payInterest : MethodName := ⟨RX5, "payInterest", "(J)V"⟩
abbrev cX5_payPrincipal : ByteArray := prog_7_method_9_code
def yX5_payPrincipal : MethodName := ⟨RX5, "payPrincipal", "(JI)V"⟩
abbrev cX5_writeDown : ByteArray := prog_7_method_10_code
def yX5_writeDown : MethodName := ⟨RX5, "writeDown", "(J)V"⟩
def RX6 : String := "LayerBook$Pool"
def TX6 : u_T := fun k => match k with
  | 0 => ("LayerBook$Pool", "loans", "[LLayerBook$Loan;", true)
  | 1 => ("LayerBook$Pool", "count", "I", false)
  | 2 => ("LayerBook$Pool", "seed", "I", false)
  | 3 => ("LayerBook$Pool", "back", "I", false)
  | 4 => ("LayerBook$Pool", "advances", "Z", false)
  | 5 => ("LayerBook$Pool", "advanced", "J", false)
  | _ => ("LayerBook$Pool", "law", "LLayerBook$Law;", false)
def tyX6 : Nat → FieldType := fun k => match k with
  | 0 => .array (.object "LayerBook$Loan")
  | 1 => .int
  | 2 => .int
  | 3 => .int
  | 4 => .boolean
  | 5 => .long
  | _ => .object "LayerBook$Law"
theorem nmX6 : ∀ a, a < 7 → ∀ b, b < 7 → a ≠ b → (TX6 a).2.1 ≠ (TX6 b).2.1 := by decide +kernel
theorem tyX6_ok : ∀ k, k < 7 → parseFieldDescriptor (TX6 k).2.2.1 = some (tyX6 k) := by decide +kernel
abbrev cX6_init : ByteArray := prog_8_method_1_code
def yX6_init : MethodName := ⟨RX6, "<init>", "()V"⟩
abbrev cX6_copy : ByteArray := prog_8_method_2_code
def yX6_copy : MethodName := ⟨RX6, "copy", "(LLayerBook$Pool;)V"⟩
abbrev cX6_balances : ByteArray := prog_8_method_3_code
def yX6_balances : MethodName := ⟨RX6, "balances", "()J"⟩
abbrev cX6_late : ByteArray := prog_8_method_4_code
def yX6_late : MethodName := ⟨RX6, "late", "()I"⟩
abbrev cX6_collect : ByteArray := prog_8_method_5_code
def yX6_collect : MethodName := ⟨RX6, "collect", "(ILLayerBook$Month;)V"⟩
abbrev cX6_draw : ByteArray := prog_8_method_6_code
def yX6_draw : MethodName := ⟨RX6, "draw", "(ILLayerBook$Loan;ILLayerBook$Month;)V"⟩
abbrev cX6_chance : ByteArray := prog_8_method_7_code
def yX6_chance : MethodName := ⟨RX6, "chance", "(ILLayerBook$Loan;I)I"⟩
abbrev cX6_lot : ByteArray := prog_8_method_8_code
def yX6_lot : MethodName := ⟨RX6, "lot", "(II)I"⟩
abbrev cX6_fallLate : ByteArray := prog_8_method_9_code
def yX6_fallLate : MethodName := ⟨RX6, "fallLate", "(LLayerBook$Loan;ILLayerBook$Month;)V"⟩
abbrev cX6_payMonth : ByteArray := prog_8_method_10_code
def yX6_payMonth : MethodName := ⟨RX6, "payMonth", "(LLayerBook$Loan;ILLayerBook$Month;)V"⟩
abbrev cX6_payAll : ByteArray := prog_8_method_11_code
def yX6_payAll : MethodName := ⟨RX6, "payAll", "(LLayerBook$Loan;LLayerBook$Month;JI)V"⟩
abbrev cX6_sell : ByteArray := prog_8_method_12_code
def yX6_sell : MethodName := ⟨RX6, "sell", "(LLayerBook$Loan;LLayerBook$Month;)V"⟩
def RX7 : String := "LayerBook$Sheet"
def TX7 : u_T := fun k => match k with
  | 0 => ("LayerBook$Sheet", "cells", "[I", true)
  | 1 => ("LayerBook$Sheet", "sort", "I", false)
  | _ => ("LayerBook$Sheet", "size", "I", false)
def tyX7 : Nat → FieldType := fun k => match k with
  | 0 => .array .int
  | 1 => .int
  | _ => .int
theorem nmX7 : ∀ a, a < 3 → ∀ b, b < 3 → a ≠ b → (TX7 a).2.1 ≠ (TX7 b).2.1 := by decide +kernel
theorem tyX7_ok : ∀ k, k < 3 → parseFieldDescriptor (TX7 k).2.2.1 = some (tyX7 k) := by decide +kernel
abbrev cX7_init : ByteArray := prog_9_method_1_code
def yX7_init : MethodName := ⟨RX7, "<init>", "()V"⟩
abbrev cX7_lay : ByteArray := prog_9_method_2_code
def yX7_lay : MethodName := ⟨RX7, "lay", "(II)V"⟩
abbrev cX7_holds : ByteArray := prog_9_method_3_code
def yX7_holds : MethodName := ⟨RX7, "holds", "(J)Z"⟩
def RX8 : String := "LayerBook$Tape"
def TX8 : u_T := fun k => match k with
  | 0 => ("LayerBook$Tape", "bytes", "[B", true)
  | 1 => ("LayerBook$Tape", "size", "I", false)
  | 2 => ("LayerBook$Tape", "start", "I", false)
  | 3 => ("LayerBook$Tape", "number", "I", false)
  | 4 => ("LayerBook$Tape", "end", "I", false)
  | _ => ("LayerBook$Tape", "sort", "I", false)
def tyX8 : Nat → FieldType := fun k => match k with
  | 0 => .array .byte
  | 1 => .int
  | 2 => .int
  | 3 => .int
  | 4 => .int
  | _ => .int
theorem nmX8 : ∀ a, a < 6 → ∀ b, b < 6 → a ≠ b → (TX8 a).2.1 ≠ (TX8 b).2.1 := by decide +kernel
theorem tyX8_ok : ∀ k, k < 6 → parseFieldDescriptor (TX8 k).2.2.1 = some (tyX8 k) := by decide +kernel
abbrev cX8_init : ByteArray := prog_10_method_1_code
def yX8_init : MethodName := ⟨RX8, "<init>", "()V"⟩
abbrev cX8_append : ByteArray := prog_10_method_2_code
def yX8_append : MethodName := ⟨RX8, "append", "(IJ)V"⟩
abbrev cX8_begin : ByteArray := prog_10_method_3_code
def yX8_begin : MethodName := ⟨RX8, "begin", "()V"⟩
abbrev cX8_next : ByteArray := prog_10_method_4_code
def yX8_next : MethodName := ⟨RX8, "next", "()V"⟩
abbrev cX8_readNumber : ByteArray := prog_10_method_5_code
def yX8_readNumber : MethodName := ⟨RX8, "readNumber", "()V"⟩
abbrev cX8_at : ByteArray := prog_10_method_6_code
def yX8_at : MethodName := ⟨RX8, "at", "(I)I"⟩
abbrev cX8_isBlank : ByteArray := prog_10_method_7_code
def yX8_isBlank : MethodName := ⟨RX8, "isBlank", "(I)Z"⟩
abbrev cX8_isLetter : ByteArray := prog_10_method_8_code
def yX8_isLetter : MethodName := ⟨RX8, "isLetter", "(I)Z"⟩
abbrev cX8_isDigit : ByteArray := prog_10_method_9_code
def yX8_isDigit : MethodName := ⟨RX8, "isDigit", "(I)Z"⟩
abbrev cX8_isEnd : ByteArray := prog_10_method_10_code
def yX8_isEnd : MethodName := ⟨RX8, "isEnd", "()Z"⟩
abbrev cX8_isNumber : ByteArray := prog_10_method_11_code
def yX8_isNumber : MethodName := ⟨RX8, "isNumber", "()Z"⟩
abbrev cX8_isSign : ByteArray := prog_10_method_12_code
def yX8_isSign : MethodName := ⟨RX8, "isSign", "(C)Z"⟩
abbrev cX8_takesSign : ByteArray := prog_10_method_13_code
def yX8_takesSign : MethodName := ⟨RX8, "takesSign", "(C)Z"⟩
abbrev cX8_takesWord : ByteArray := prog_10_method_14_code
def yX8_takesWord : MethodName := ⟨RX8, "takesWord", "(Ljava/lang/String;)Z"⟩
abbrev cX8_goesOn : ByteArray := prog_10_method_15_code
def yX8_goesOn : MethodName := ⟨RX8, "goesOn", "(Z)Z"⟩
abbrev cX8_which : ByteArray := prog_10_method_16_code
def yX8_which : MethodName := ⟨RX8, "which", "(Ljava/lang/String;)I"⟩
abbrev cX8_isSame : ByteArray := prog_10_method_17_code
def yX8_isSame : MethodName := ⟨RX8, "isSame", "(Ljava/lang/String;II)Z"⟩
def RX9 : String := "LayerBook"
def TX9 : u_T := fun k => match k with
  | 0 => ("LayerBook", "pool", "LLayerBook$Pool;", true)
  | 1 => ("LayerBook", "fall", "LLayerBook$Fall;", true)
  | 2 => ("LayerBook", "otherPool", "LLayerBook$Pool;", true)
  | 3 => ("LayerBook", "otherFall", "LLayerBook$Fall;", true)
  | 4 => ("LayerBook", "otherMonth", "LLayerBook$Month;", true)
  | 5 => ("LayerBook", "months", "[LLayerBook$Month;", true)
  | 6 => ("LayerBook", "orderOf", "[I", true)
  | 7 => ("LayerBook", "tape", "LLayerBook$Tape;", true)
  | 8 => ("LayerBook", "laws", "[LLayerBook$Law;", true)
  | 9 => ("LayerBook", "orders", "[LLayerBook$Order;", true)
  | 10 => ("LayerBook", "sheets", "[LLayerBook$Sheet;", true)
  | 11 => ("LayerBook", "month", "I", false)
  | 12 => ("LayerBook", "lawCount", "I", false)
  | 13 => ("LayerBook", "orderCount", "I", false)
  | _ => ("LayerBook", "forced", "I", false)
def tyX9 : Nat → FieldType := fun k => match k with
  | 0 => .object "LayerBook$Pool"
  | 1 => .object "LayerBook$Fall"
  | 2 => .object "LayerBook$Pool"
  | 3 => .object "LayerBook$Fall"
  | 4 => .object "LayerBook$Month"
  | 5 => .array (.object "LayerBook$Month")
  | 6 => .array .int
  | 7 => .object "LayerBook$Tape"
  | 8 => .array (.object "LayerBook$Law")
  | 9 => .array (.object "LayerBook$Order")
  | 10 => .array (.object "LayerBook$Sheet")
  | 11 => .int
  | 12 => .int
  | 13 => .int
  | _ => .int
theorem nmX9 : ∀ a, a < 15 → ∀ b, b < 15 → a ≠ b → (TX9 a).2.1 ≠ (TX9 b).2.1 := by decide +kernel
theorem tyX9_ok : ∀ k, k < 15 → parseFieldDescriptor (TX9 k).2.2.1 = some (tyX9 k) := by decide +kernel
abbrev cX9_init : ByteArray := prog_1_method_1_code
def yX9_init : MethodName := ⟨RX9, "<init>", "()V"⟩
abbrev cX9_loan : ByteArray := prog_1_method_2_code
def yX9_loan : MethodName := ⟨RX9, "loan", "(IIII)I"⟩
abbrev cX9_loanTold : ByteArray := prog_1_method_3_code
def yX9_loanTold : MethodName := ⟨RX9, "loanTold", "(II)I"⟩
abbrev cX9_paper : ByteArray := prog_1_method_4_code
def yX9_paper : MethodName := ⟨RX9, "paper", "(II)I"⟩
abbrev cX9_paperTold : ByteArray := prog_1_method_5_code
def yX9_paperTold : MethodName := ⟨RX9, "paperTold", "(II)I"⟩
abbrev cX9_life : ByteArray := prog_1_method_6_code
def yX9_life : MethodName := ⟨RX9, "life", "(II)J"⟩
abbrev cX9_tell : ByteArray := prog_1_method_7_code
def yX9_tell : MethodName := ⟨RX9, "tell", "(II)I"⟩
abbrev cX9_trip : ByteArray := prog_1_method_8_code
def yX9_trip : MethodName := ⟨RX9, "trip", "(II)I"⟩
abbrev cX9_feed : ByteArray := prog_1_method_9_code
def yX9_feed : MethodName := ⟨RX9, "feed", "(IJ)I"⟩
abbrev cX9_text : ByteArray := prog_1_method_10_code
def yX9_text : MethodName := ⟨RX9, "text", "()I"⟩
abbrev cX9_force : ByteArray := prog_1_method_11_code
def yX9_force : MethodName := ⟨RX9, "force", "(I)I"⟩
abbrev cX9_says : ByteArray := prog_1_method_12_code
def yX9_says : MethodName := ⟨RX9, "says", "(II)J"⟩
abbrev cX9_order : ByteArray := prog_1_method_13_code
def yX9_order : MethodName := ⟨RX9, "order", "()I"⟩
abbrev cX9_step : ByteArray := prog_1_method_14_code
def yX9_step : MethodName := ⟨RX9, "step", "(III)I"⟩
abbrev cX9_amend : ByteArray := prog_1_method_15_code
def yX9_amend : MethodName := ⟨RX9, "amend", "(II)I"⟩
abbrev cX9_run : ByteArray := prog_1_method_16_code
def yX9_run : MethodName := ⟨RX9, "run", "(I)I"⟩
abbrev cX9_month : ByteArray := prog_1_method_17_code
def yX9_month : MethodName := ⟨RX9, "month", "(II)I"⟩
abbrev cX9_paid : ByteArray := prog_1_method_18_code
def yX9_paid : MethodName := ⟨RX9, "paid", "(II)I"⟩
abbrev cX9_buy : ByteArray := prog_1_method_19_code
def yX9_buy : MethodName := ⟨RX9, "buy", "(I)I"⟩
abbrev cX9_report : ByteArray := prog_1_method_20_code
def yX9_report : MethodName := ⟨RX9, "report", "(IIIII)I"⟩
abbrev cX9_firstUnlike : ByteArray := prog_1_method_21_code
def yX9_firstUnlike : MethodName := ⟨RX9, "firstUnlike", "([IIII)I"⟩
abbrev cX9_beside : ByteArray := prog_1_method_22_code
def yX9_beside : MethodName := ⟨RX9, "beside", "(III)J"⟩
abbrev cX9_count : ByteArray := prog_1_method_23_code
def yX9_count : MethodName := ⟨RX9, "count", "(I)I"⟩
abbrev cX9_sheet : ByteArray := prog_1_method_24_code
def yX9_sheet : MethodName := ⟨RX9, "sheet", "(III)I"⟩
abbrev cX9_cell : ByteArray := prog_1_method_25_code
def yX9_cell : MethodName := ⟨RX9, "cell", "(III)I"⟩
abbrev cX9_loans : ByteArray := prog_1_method_26_code
def yX9_loans : MethodName := ⟨RX9, "loans", "(IIII)I"⟩
abbrev cX9_taken : ByteArray := prog_1_method_27_code
def yX9_taken : MethodName := ⟨RX9, "taken", "(II)I"⟩
abbrev cX9_refusalOf : ByteArray := prog_1_method_28_code
def yX9_refusalOf : MethodName := ⟨RX9, "refusalOf", "(III)I"⟩
abbrev cX9_orderIn : ByteArray := prog_1_method_29_code
def yX9_orderIn : MethodName := ⟨RX9, "orderIn", "(I)LLayerBook$Order;"⟩
abbrev cX9_within : ByteArray := prog_1_method_30_code
def yX9_within : MethodName := ⟨RX9, "within", "(III)Z"⟩
abbrev cX9_commonDivisor : ByteArray := prog_1_method_31_code
def yX9_commonDivisor : MethodName := ⟨RX9, "commonDivisor", "(JJ)J"⟩
def RX10 : String := "LayerBookModel"
def TX10 : u_T := fun k => match k with
  | 0 => ("LayerBookModel", "thrown", "I", false)
  | 1 => ("LayerBookModel", "now", "I", false)
  | 2 => ("LayerBookModel", "loans", "I", false)
  | 3 => ("LayerBookModel", "kind", "[I", true)
  | 4 => ("LayerBookModel", "balance", "[I", true)
  | 5 => ("LayerBookModel", "rate", "[I", true)
  | 6 => ("LayerBookModel", "months", "[I", true)
  | 7 => ("LayerBookModel", "owed", "[I", true)
  | 8 => ("LayerBookModel", "state", "[I", true)
  | 9 => ("LayerBookModel", "pays", "[I", true)
  | 10 => ("LayerBookModel", "failedIn", "[I", true)
  | 11 => ("LayerBookModel", "seed", "I", false)
  | 12 => ("LayerBookModel", "back", "I", false)
  | 13 => ("LayerBookModel", "advances", "I", false)
  | 14 => ("LayerBookModel", "advanced", "I", false)
  | 15 => ("LayerBookModel", "interests", "[J", true)
  | 16 => ("LayerBookModel", "principals", "[J", true)
  | 17 => ("LayerBookModel", "backs", "[J", true)
  | 18 => ("LayerBookModel", "advancedIn", "[J", true)
  | 19 => ("LayerBookModel", "paidBack", "[J", true)
  | 20 => ("LayerBookModel", "poolBegan", "[J", true)
  | 21 => ("LayerBookModel", "poolEnded", "[J", true)
  | 22 => ("LayerBookModel", "losses", "[J", true)
  | 23 => ("LayerBookModel", "lates", "[I", true)
  | 24 => ("LayerBookModel", "texts", "[I", true)
  | 25 => ("LayerBookModel", "textSize", "[I", true)
  | 26 => ("LayerBookModel", "textCount", "I", false)
  | 27 => ("LayerBookModel", "rule", "I", false)
  | 28 => ("LayerBookModel", "tape", "[I", true)
  | 29 => ("LayerBookModel", "taped", "I", false)
  | 30 => ("LayerBookModel", "from", "I", false)
  | 31 => ("LayerBookModel", "size", "I", false)
  | 32 => ("LayerBookModel", "token", "I", false)
  | 33 => ("LayerBookModel", "tokenAt", "I", false)
  | 34 => ("LayerBookModel", "tokenWorth", "J", false)
  | 35 => ("LayerBookModel", "here", "I", false)
  | 36 => ("LayerBookModel", "open", "I", false)
  | 37 => ("LayerBookModel", "bad", "Z", false)
  | 38 => ("LayerBookModel", "fault", "I", false)
  | 39 => ("LayerBookModel", "valueMonth", "I", false)
  | 40 => ("LayerBookModel", "valueRate", "I", false)
  | 41 => ("LayerBookModel", "valueLeft", "I", false)
  | 42 => ("LayerBookModel", "valueOwed", "I", false)
  | 43 => ("LayerBookModel", "valueBalance", "I", false)
  | 44 => ("LayerBookModel", "valueKind", "I", false)
  | 45 => ("LayerBookModel", "orderCount", "I", false)
  | 46 => ("LayerBookModel", "stepCount", "[I", true)
  | 47 => ("LayerBookModel", "stepSort", "[I", true)
  | 48 => ("LayerBookModel", "stepPaper", "[I", true)
  | 49 => ("LayerBookModel", "stepNumber", "[I", true)
  | 50 => ("LayerBookModel", "stepTest", "[I", true)
  | 51 => ("LayerBookModel", "stepField", "[I", true)
  | 52 => ("LayerBookModel", "stepBound", "[I", true)
  | 53 => ("LayerBookModel", "papers", "I", false)
  | 54 => ("LayerBookModel", "began", "[J", true)
  | 55 => ("LayerBookModel", "coupon", "[I", true)
  | 56 => ("LayerBookModel", "paper", "[J", true)
  | 57 => ("LayerBookModel", "shorts", "[J", true)
  | 58 => ("LayerBookModel", "gotInterest", "[J", true)
  | 59 => ("LayerBookModel", "gotPrincipal", "[J", true)
  | 60 => ("LayerBookModel", "gotTimes", "[J", true)
  | 61 => ("LayerBookModel", "written", "[J", true)
  | 62 => ("LayerBookModel", "due", "[J", true)
  | 63 => ("LayerBookModel", "orders", "[I", true)
  | 64 => ("LayerBookModel", "reserve", "J", false)
  | 65 => ("LayerBookModel", "lost", "J", false)
  | 66 => ("LayerBookModel", "restTook", "J", false)
  | 67 => ("LayerBookModel", "isOn", "Z", false)
  | 68 => ("LayerBookModel", "quiet", "I", false)
  | 69 => ("LayerBookModel", "bound", "I", false)
  | 70 => ("LayerBookModel", "cure", "I", false)
  | 71 => ("LayerBookModel", "cashes", "[J", true)
  | 72 => ("LayerBookModel", "reserves", "[J", true)
  | 73 => ("LayerBookModel", "trips", "[Z", true)
  | 74 => ("LayerBookModel", "took", "[J", true)
  | 75 => ("LayerBookModel", "page", "[J", true)
  | 76 => ("LayerBookModel", "pageAt", "I", false)
  | 77 => ("LayerBookModel", "isThere", "[Z", true)
  | 78 => ("LayerBookModel", "sorts", "[I", true)
  | 79 => ("LayerBookModel", "sheetSize", "[I", true)
  | _ => ("LayerBookModel", "items", "[I", true)
def tyX10 : Nat → FieldType := fun k => match k with
  | 0 => .int
  | 1 => .int
  | 2 => .int
  | 3 => .array .int
  | 4 => .array .int
  | 5 => .array .int
  | 6 => .array .int
  | 7 => .array .int
  | 8 => .array .int
  | 9 => .array .int
  | 10 => .array .int
  | 11 => .int
  | 12 => .int
  | 13 => .int
  | 14 => .int
  | 15 => .array .long
  | 16 => .array .long
  | 17 => .array .long
  | 18 => .array .long
  | 19 => .array .long
  | 20 => .array .long
  | 21 => .array .long
  | 22 => .array .long
  | 23 => .array .int
  | 24 => .array .int
  | 25 => .array .int
  | 26 => .int
  | 27 => .int
  | 28 => .array .int
  | 29 => .int
  | 30 => .int
  | 31 => .int
  | 32 => .int
  | 33 => .int
  | 34 => .long
  | 35 => .int
  | 36 => .int
  | 37 => .boolean
  | 38 => .int
  | 39 => .int
  | 40 => .int
  | 41 => .int
  | 42 => .int
  | 43 => .int
  | 44 => .int
  | 45 => .int
  | 46 => .array .int
  | 47 => .array .int
  | 48 => .array .int
  | 49 => .array .int
  | 50 => .array .int
  | 51 => .array .int
  | 52 => .array .int
  | 53 => .int
  | 54 => .array .long
  | 55 => .array .int
  | 56 => .array .long
  | 57 => .array .long
  | 58 => .array .long
  | 59 => .array .long
  | 60 => .array .long
  | 61 => .array .long
  | 62 => .array .long
  | 63 => .array .int
  | 64 => .long
  | 65 => .long
  | 66 => .long
  | 67 => .boolean
  | 68 => .int
  | 69 => .int
  | 70 => .int
  | 71 => .array .long
  | 72 => .array .long
  | 73 => .array .boolean
  | 74 => .array .long
  | 75 => .array .long
  | 76 => .int
  | 77 => .array .boolean
  | 78 => .array .int
  | 79 => .array .int
  | _ => .array .int
theorem nmX10 : ∀ a, a < 81 → ∀ b, b < 81 → a ≠ b → (TX10 a).2.1 ≠ (TX10 b).2.1 := by decide +kernel
theorem tyX10_ok : ∀ k, k < 81 → parseFieldDescriptor (TX10 k).2.2.1 = some (tyX10 k) := by decide +kernel
abbrev cX10_in : ByteArray := prog_12_method_2_code
def yX10_in : MethodName := ⟨RX10, "in", "(III)Z"⟩
abbrev cX10_init : ByteArray := prog_12_method_3_code
def yX10_init : MethodName := ⟨RX10, "<init>", "()V"⟩
abbrev cX10_spell : ByteArray := prog_12_method_4_code
def yX10_spell : MethodName := ⟨RX10, "spell", "(IJ)V"⟩
abbrev cX10_isLoan : ByteArray := prog_12_method_5_code
def yX10_isLoan : MethodName := ⟨RX10, "isLoan", "(I)Z"⟩
abbrev cX10_isTold : ByteArray := prog_12_method_6_code
def yX10_isTold : MethodName := ⟨RX10, "isTold", "(IIII)Z"⟩
abbrev cX10_loan : ByteArray := prog_12_method_7_code
def yX10_loan : MethodName := ⟨RX10, "loan", "(IIII)I"⟩
abbrev cX10_loanTold : ByteArray := prog_12_method_8_code
def yX10_loanTold : MethodName := ⟨RX10, "loanTold", "(II)I"⟩
abbrev cX10_isFixed : ByteArray := prog_12_method_9_code
def yX10_isFixed : MethodName := ⟨RX10, "isFixed", "(I)Z"⟩
abbrev cX10_isReset : ByteArray := prog_12_method_10_code
def yX10_isReset : MethodName := ⟨RX10, "isReset", "(I)Z"⟩
abbrev cX10_interest : ByteArray := prog_12_method_11_code
def yX10_interest : MethodName := ⟨RX10, "interest", "(II)I"⟩
abbrev cX10_leftBy : ByteArray := prog_12_method_12_code
def yX10_leftBy : MethodName := ⟨RX10, "leftBy", "(IIII)I"⟩
abbrev cX10_payFor : ByteArray := prog_12_method_13_code
def yX10_payFor : MethodName := ⟨RX10, "payFor", "(III)I"⟩
abbrev cX10_pool : ByteArray := prog_12_method_14_code
def yX10_pool : MethodName := ⟨RX10, "pool", "()I"⟩
abbrev cX10_principal : ByteArray := prog_12_method_15_code
def yX10_principal : MethodName := ⟨RX10, "principal", "(III)I"⟩
abbrev cX10_tell : ByteArray := prog_12_method_16_code
def yX10_tell : MethodName := ⟨RX10, "tell", "(II)I"⟩
abbrev cX10_buy : ByteArray := prog_12_method_17_code
def yX10_buy : MethodName := ⟨RX10, "buy", "(I)I"⟩
abbrev cX10_within : ByteArray := prog_12_method_18_code
def yX10_within : MethodName := ⟨RX10, "within", "(I)I"⟩
abbrev cX10_lot : ByteArray := prog_12_method_19_code
def yX10_lot : MethodName := ⟨RX10, "lot", "(II)I"⟩
abbrev cX10_paysOff : ByteArray := prog_12_method_20_code
def yX10_paysOff : MethodName := ⟨RX10, "paysOff", "(IIII)V"⟩
abbrev cX10_goes : ByteArray := prog_12_method_21_code
def yX10_goes : MethodName := ⟨RX10, "goes", "(II)V"⟩
abbrev cX10_collect : ByteArray := prog_12_method_22_code
def yX10_collect : MethodName := ⟨RX10, "collect", "(I)V"⟩
abbrev cX10_feed : ByteArray := prog_12_method_23_code
def yX10_feed : MethodName := ⟨RX10, "feed", "(IJ)I"⟩
abbrev cX10_byteAt : ByteArray := prog_12_method_24_code
def yX10_byteAt : MethodName := ⟨RX10, "byteAt", "(I)I"⟩
abbrev cX10_next : ByteArray := prog_12_method_25_code
def yX10_next : MethodName := ⟨RX10, "next", "()V"⟩
abbrev cX10_fail : ByteArray := prog_12_method_26_code
def yX10_fail : MethodName := ⟨RX10, "fail", "()V"⟩
abbrev cX10_isWord : ByteArray := prog_12_method_27_code
def yX10_isWord : MethodName := ⟨RX10, "isWord", "(J)Z"⟩
abbrev cX10_isSign : ByteArray := prog_12_method_28_code
def yX10_isSign : MethodName := ⟨RX10, "isSign", "(I)Z"⟩
abbrev cX10_opens : ByteArray := prog_12_method_29_code
def yX10_opens : MethodName := ⟨RX10, "opens", "()Z"⟩
abbrev cX10_name : ByteArray := prog_12_method_30_code
def yX10_name : MethodName := ⟨RX10, "name", "()I"⟩
abbrev cX10_one : ByteArray := prog_12_method_31_code
def yX10_one : MethodName := ⟨RX10, "one", "()I"⟩
abbrev cX10_term : ByteArray := prog_12_method_32_code
def yX10_term : MethodName := ⟨RX10, "term", "()I"⟩
abbrev cX10_added : ByteArray := prog_12_method_33_code
def yX10_added : MethodName := ⟨RX10, "added", "()I"⟩
abbrev cX10_not : ByteArray := prog_12_method_34_code
def yX10_not : MethodName := ⟨RX10, "not", "()I"⟩
abbrev cX10_both : ByteArray := prog_12_method_35_code
def yX10_both : MethodName := ⟨RX10, "both", "()I"⟩
abbrev cX10_either : ByteArray := prog_12_method_36_code
def yX10_either : MethodName := ⟨RX10, "either", "()I"⟩
abbrev cX10_part : ByteArray := prog_12_method_37_code
def yX10_part : MethodName := ⟨RX10, "part", "(J)I"⟩
abbrev cX10_read : ByteArray := prog_12_method_38_code
def yX10_read : MethodName := ⟨RX10, "read", "(II)I"⟩
abbrev cX10_saysOf : ByteArray := prog_12_method_39_code
def yX10_saysOf : MethodName := ⟨RX10, "saysOf", "(III)I"⟩
abbrev cX10_text : ByteArray := prog_12_method_40_code
def yX10_text : MethodName := ⟨RX10, "text", "()I"⟩
abbrev cX10_force : ByteArray := prog_12_method_41_code
def yX10_force : MethodName := ⟨RX10, "force", "(I)I"⟩
abbrev cX10_says : ByteArray := prog_12_method_42_code
def yX10_says : MethodName := ⟨RX10, "says", "(II)J"⟩
abbrev cX10_numberHere : ByteArray := prog_12_method_43_code
def yX10_numberHere : MethodName := ⟨RX10, "numberHere", "()I"⟩
abbrev cX10_paperHere : ByteArray := prog_12_method_44_code
def yX10_paperHere : MethodName := ⟨RX10, "paperHere", "()I"⟩
abbrev cX10_fieldHere : ByteArray := prog_12_method_45_code
def yX10_fieldHere : MethodName := ⟨RX10, "fieldHere", "()I"⟩
abbrev cX10_readStep : ByteArray := prog_12_method_46_code
def yX10_readStep : MethodName := ⟨RX10, "readStep", "(I)V"⟩
abbrev cX10_order : ByteArray := prog_12_method_47_code
def yX10_order : MethodName := ⟨RX10, "order", "()I"⟩
abbrev cX10_step : ByteArray := prog_12_method_48_code
def yX10_step : MethodName := ⟨RX10, "step", "(III)I"⟩
abbrev cX10_paper : ByteArray := prog_12_method_49_code
def yX10_paper : MethodName := ⟨RX10, "paper", "(II)I"⟩
abbrev cX10_isPaper : ByteArray := prog_12_method_50_code
def yX10_isPaper : MethodName := ⟨RX10, "isPaper", "(I)Z"⟩
abbrev cX10_paperTold : ByteArray := prog_12_method_51_code
def yX10_paperTold : MethodName := ⟨RX10, "paperTold", "(II)I"⟩
abbrev cX10_divisor : ByteArray := prog_12_method_52_code
def yX10_divisor : MethodName := ⟨RX10, "divisor", "(JJ)J"⟩
abbrev cX10_life : ByteArray := prog_12_method_53_code
def yX10_life : MethodName := ⟨RX10, "life", "(II)J"⟩
abbrev cX10_trip : ByteArray := prog_12_method_54_code
def yX10_trip : MethodName := ⟨RX10, "trip", "(II)I"⟩
abbrev cX10_lostNow : ByteArray := prog_12_method_55_code
def yX10_lostNow : MethodName := ⟨RX10, "lostNow", "()J"⟩
abbrev cX10_field : ByteArray := prog_12_method_56_code
def yX10_field : MethodName := ⟨RX10, "field", "(II)J"⟩
abbrev cX10_isSo : ByteArray := prog_12_method_57_code
def yX10_isSo : MethodName := ⟨RX10, "isSo", "(II)Z"⟩
abbrev cX10_wish : ByteArray := prog_12_method_58_code
def yX10_wish : MethodName := ⟨RX10, "wish", "(IIJ)J"⟩
abbrev cX10_pay : ByteArray := prog_12_method_59_code
def yX10_pay : MethodName := ⟨RX10, "pay", "(I)V"⟩
abbrev cX10_anew : ByteArray := prog_12_method_60_code
def yX10_anew : MethodName := ⟨RX10, "anew", "()V"⟩
abbrev cX10_amend : ByteArray := prog_12_method_61_code
def yX10_amend : MethodName := ⟨RX10, "amend", "(II)I"⟩
abbrev cX10_goOn : ByteArray := prog_12_method_62_code
def yX10_goOn : MethodName := ⟨RX10, "goOn", "()V"⟩
abbrev cX10_run : ByteArray := prog_12_method_63_code
def yX10_run : MethodName := ⟨RX10, "run", "(I)I"⟩
abbrev cX10_month : ByteArray := prog_12_method_64_code
def yX10_month : MethodName := ⟨RX10, "month", "(II)I"⟩
abbrev cX10_paid : ByteArray := prog_12_method_65_code
def yX10_paid : MethodName := ⟨RX10, "paid", "(II)I"⟩
abbrev cX10_pass : ByteArray := prog_12_method_66_code
def yX10_pass : MethodName := ⟨RX10, "pass", "(ZJ)J"⟩
abbrev cX10_turn : ByteArray := prog_12_method_67_code
def yX10_turn : MethodName := ⟨RX10, "turn", "(Z)V"⟩
abbrev cX10_beside : ByteArray := prog_12_method_68_code
def yX10_beside : MethodName := ⟨RX10, "beside", "(III)J"⟩
abbrev cX10_count : ByteArray := prog_12_method_69_code
def yX10_count : MethodName := ⟨RX10, "count", "(I)I"⟩
abbrev cX10_isSheet : ByteArray := prog_12_method_70_code
def yX10_isSheet : MethodName := ⟨RX10, "isSheet", "(I)Z"⟩
abbrev cX10_sheet : ByteArray := prog_12_method_71_code
def yX10_sheet : MethodName := ⟨RX10, "sheet", "(III)I"⟩
abbrev cX10_cell : ByteArray := prog_12_method_72_code
def yX10_cell : MethodName := ⟨RX10, "cell", "(III)I"⟩
abbrev cX10_noRow : ByteArray := prog_12_method_73_code
def yX10_noRow : MethodName := ⟨RX10, "noRow", "(IIII)I"⟩
abbrev cX10_report : ByteArray := prog_12_method_74_code
def yX10_report : MethodName := ⟨RX10, "report", "(IIIII)I"⟩
abbrev cX10_loans : ByteArray := prog_12_method_75_code
def yX10_loans : MethodName := ⟨RX10, "loans", "(IIII)I"⟩
abbrev cX10_over : ByteArray := prog_12_method_76_code
def yX10_over : MethodName := ⟨RX10, "over", "(I)I"⟩
abbrev cX10_taken : ByteArray := prog_12_method_77_code
def yX10_taken : MethodName := ⟨RX10, "taken", "(II)I"⟩
def RL : String := "LayerBookLaw"
abbrev cL_law : ByteArray := code
def yL_law : MethodName := ⟨RL, "law", "([I)Z"⟩
abbrev vwCl : List vw_C := [(RX0, TX0, 10), (RX1, TX1, 5), (RX2, TX2, 8), (RX3, TX3, 13), (RX4, TX4, 2), (RX5, TX5, 9), (RX6, TX6, 7), (RX7, TX7, 3), (RX8, TX8, 6), (RX9, TX9, 15), (RX10, TX10, 81)]
end
section
/-! the tables of the worlds: where each cell lies, what it holds -/
def ALL : List Cond := lw_tbl.filter goodWord
theorem mALL {w : Cond} (i : Nat) (h : lw_tbl[i]? = some w) (g : goodWord w = true) : w ∈ ALL := List.mem_filter.mpr ⟨List.mem_of_getElem? h, g⟩
theorem ALL_good {w : Cond} (h : w ∈ ALL) : w ∈ lw_tbl ∧ goodWord w = true := List.mem_filter.mp h
def lay : List (Nat × Nat) := [(9, 0), (6, 0), (20, 0), (2, 0), (2, 1), (2, 2), (2, 3), (2, 4), (2, 5), (2, 6), (2, 7), (2, 8), (2, 9), (2, 10), (2, 11), (0, 0), (21, 0), (5, 0), (5, 1), (5, 2), (5, 3), (5, 4), (6, 1), (20, 1), (2, 12), (2, 13), (2, 14), (2, 15), (2, 16), (2, 17), (2, 18), (2, 19), (2, 20), (2, 21), (2, 22), (2, 23), (0, 1), (21, 1), (5, 5), (5, 6), (5, 7), (5, 8), (5, 9), (3, 61), (28, 61), (22, 0), (23, 0), (8, 0), (24, 0), (25, 0), (26, 0), (27, 0), (3, 0), (28, 0), (3, 1), (28, 1), (3, 2), (28, 2), (3, 3), (28, 3), (3, 4), (28, 4), (3, 5), (28, 5), (3, 6), (28, 6), (3, 7), (28, 7), (3, 8), (28, 8), (3, 9), (28, 9), (3, 10), (28, 10), (3, 11), (28, 11), (3, 12), (28, 12), (3, 13), (28, 13), (3, 14), (28, 14), (3, 15), (28, 15), (3, 16), (28, 16), (3, 17), (28, 17), (3, 18), (28, 18), (3, 19), (28, 19), (3, 20), (28, 20), (3, 21), (28, 21), (3, 22), (28, 22), (3, 23), (28, 23), (3, 24), (28, 24), (3, 25), (28, 25), (3, 26), (28, 26), (3, 27), (28, 27), (3, 28), (28, 28), (3, 29), (28, 29), (3, 30), (28, 30), (3, 31), (28, 31), (3, 32), (28, 32), (3, 33), (28, 33), (3, 34), (28, 34), (3, 35), (28, 35), (3, 36), (28, 36), (3, 37), (28, 37), (3, 38), (28, 38), (3, 39), (28, 39), (3, 40), (28, 40), (3, 41), (28, 41), (3, 42), (28, 42), (3, 43), (28, 43), (3, 44), (28, 44), (3, 45), (28, 45), (3, 46), (28, 46), (3, 47), (28, 47), (3, 48), (28, 48), (3, 49), (28, 49), (3, 50), (28, 50), (3, 51), (28, 51), (3, 52), (28, 52), (3, 53), (28, 53), (3, 54), (28, 54), (3, 55), (28, 55), (3, 56), (28, 56), (3, 57), (28, 57), (3, 58), (28, 58), (3, 59), (28, 59), (3, 60), (28, 60), (1, 0), (29, 0), (30, 0), (31, 0), (1, 1), (29, 1), (30, 1), (31, 1), (1, 2), (29, 2), (30, 2), (31, 2), (1, 3), (29, 3), (30, 3), (31, 3), (1, 4), (29, 4), (30, 4), (31, 4), (1, 5), (29, 5), (30, 5), (31, 5), (4, 0), (32, 0), (33, 0), (33, 1), (33, 2), (33, 3), (33, 4), (33, 5), (33, 6), (33, 7), (33, 8), (33, 9), (4, 1), (32, 1), (33, 10), (33, 11), (33, 12), (33, 13), (33, 14), (33, 15), (33, 16), (33, 17), (33, 18), (33, 19), (4, 2), (32, 2), (33, 20), (33, 21), (33, 22), (33, 23), (33, 24), (33, 25), (33, 26), (33, 27), (33, 28), (33, 29), (4, 3), (32, 3), (33, 30), (33, 31), (33, 32), (33, 33), (33, 34), (33, 35), (33, 36), (33, 37), (33, 38), (33, 39), (4, 4), (32, 4), (33, 40), (33, 41), (33, 42), (33, 43), (33, 44), (33, 45), (33, 46), (33, 47), (33, 48), (33, 49), (4, 5), (32, 5), (33, 50), (33, 51), (33, 52), (33, 53), (33, 54), (33, 55), (33, 56), (33, 57), (33, 58), (33, 59), (7, 0), (34, 0), (7, 1), (34, 1), (7, 2), (34, 2), (7, 3), (34, 3), (10, 0), (40, 0), (41, 0), (42, 0), (43, 0), (44, 0), (45, 0), (46, 0), (47, 0), (48, 0), (49, 0), (50, 0), (51, 0), (52, 0), (53, 0), (54, 0), (55, 0), (56, 0), (57, 0), (58, 0), (59, 0), (60, 0), (61, 0), (62, 0), (63, 0), (64, 0), (65, 0), (66, 0), (67, 0), (68, 0), (69, 0), (70, 0), (71, 0), (72, 0), (73, 0), (74, 0), (75, 0), (76, 0), (77, 0), (78, 0), (79, 0), (80, 0), (81, 0), (82, 0), (83, 0), (84, 0), (85, 0)]
def posLL : List (List Nat) := [[15, 36], [174, 178, 182, 186, 190, 194], [3, 4, 5, 6, 7, 8, 9, 10, 11, 12, 13, 14, 24, 25, 26, 27, 28, 29, 30, 31, 32, 33, 34, 35], [52, 54, 56, 58, 60, 62, 64, 66, 68, 70, 72, 74, 76, 78, 80, 82, 84, 86, 88, 90, 92, 94, 96, 98, 100, 102, 104, 106, 108, 110, 112, 114, 116, 118, 120, 122, 124, 126, 128, 130, 132, 134, 136, 138, 140, 142, 144, 146, 148, 150, 152, 154, 156, 158, 160, 162, 164, 166, 168, 170, 172, 43], [198, 210, 222, 234, 246, 258], [17, 18, 19, 20, 21, 38, 39, 40, 41, 42], [1, 22], [270, 272, 274, 276], [47], [0], [278], [], [], [], [], [], [], [], [], [], [2, 23], [16, 37], [45], [46], [48], [49], [50], [51], [53, 55, 57, 59, 61, 63, 65, 67, 69, 71, 73, 75, 77, 79, 81, 83, 85, 87, 89, 91, 93, 95, 97, 99, 101, 103, 105, 107, 109, 111, 113, 115, 117, 119, 121, 123, 125, 127, 129, 131, 133, 135, 137, 139, 141, 143, 145, 147, 149, 151, 153, 155, 157, 159, 161, 163, 165, 167, 169, 171, 173, 44], [175, 179, 183, 187, 191, 195], [176, 180, 184, 188, 192, 196], [177, 181, 185, 189, 193, 197], [199, 211, 223, 235, 247, 259], [200, 201, 202, 203, 204, 205, 206, 207, 208, 209, 212, 213, 214, 215, 216, 217, 218, 219, 220, 221, 224, 225, 226, 227, 228, 229, 230, 231, 232, 233, 236, 237, 238, 239, 240, 241, 242, 243, 244, 245, 248, 249, 250, 251, 252, 253, 254, 255, 256, 257, 260, 261, 262, 263, 264, 265, 266, 267, 268, 269], [271, 273, 275, 277], [], [], [], [], [], [279], [280], [281], [282], [283], [284], [285], [286], [287], [288], [289], [290], [291], [292], [293], [294], [295], [296], [297], [298], [299], [300], [301], [302], [303], [304], [305], [306], [307], [308], [309], [310], [311], [312], [313], [314], [315], [316], [317], [318], [319], [320], [321], [322], [323], [324]]
def posL (c : Nat) : List Nat := posLL.getD c []
def pos (r : Nat × Nat) : Nat := (posL r.1).getD r.2 0
def cnt (c : Nat) : Nat := (posL c).length
def layF (q : Nat) : Nat × Nat := lay.getD q (999, 0)
abbrev TOT : Nat := 325
theorem lay_pos : ∀ q, q < TOT → pos (layF q) = q := by decide +kernel
theorem pos_lay0 : ∀ c, c < 86 → ∀ i, i < cnt c → layF (pos (c, i)) = (c, i) ∧ pos (c, i) < TOT := by decide +kernel
theorem cnt_out {c : Nat} (h : 86 ≤ c) : cnt c = 0 := by
  have e : posL c = [] := by
    unfold posL
    rw [List.getD_eq_getElem?_getD, List.getElem?_eq_none (Nat.le_trans (by decide +kernel) h)]
    rfl
  unfold cnt
  rw [e]
  rfl
theorem pos_lay {c i : Nat} (h : i < cnt c) : layF (pos (c, i)) = (c, i) ∧ pos (c, i) < TOT := by
  by_cases hc : c < 86
  · exact pos_lay0 c hc i h
  · rw [cnt_out (Nat.le_of_not_lt hc)] at h
    omega
theorem cnt_lt {c i : Nat} (h : i < cnt c) : c < 86 := by
  by_cases hc : c < 86
  · exact hc
  · rw [cnt_out (Nat.le_of_not_lt hc)] at h
    omega
/-- the cell (c, i) is there, when n cells have been made -/
def okA (n c i : Nat) : Prop := i < cnt c ∧ pos (c, i) < n
theorem okT {c i : Nat} (h : i < cnt c) : okA TOT c i := ⟨h, (pos_lay h).2⟩
def nfL : List Nat := [10, 5, 8, 13, 2, 9, 7, 3, 6, 15, 81]
def nf (c : Nat) : Nat := nfL.getD c 0
def tyC (c k : Nat) : FieldType := match c with
  | 0 => tyX0 k
  | 1 => tyX1 k
  | 2 => tyX2 k
  | 3 => tyX3 k
  | 4 => tyX4 k
  | 5 => tyX5 k
  | 6 => tyX6 k
  | 7 => tyX7 k
  | 8 => tyX8 k
  | 9 => tyX9 k
  | _ => tyX10 k
def tagOf (t : FieldType) : Nat := match t with
  | .int => 0
  | .boolean => 0
  | .byte => 0
  | .short => 0
  | .char => 0
  | .long => 1
  | _ => 2
def aTL : List FieldType := [.object "LayerBook$Loan", .object "LayerBook$Paper", .object "LayerBook$Month", .int, .byte, .object "LayerBook$Law", .object "LayerBook$Order", .object "LayerBook$Sheet", .long, .int, .int, .int, .array .int, .int, .int, .int, .int, .int, .int, .int, .int, .int, .int, .int, .int, .int, .int, .int, .long, .long, .long, .long, .long, .long, .long, .long, .int, .int, .int, .int, .int, .int, .int, .int, .int, .int, .int, .long, .int, .long, .long, .long, .long, .long, .long, .long, .int, .long, .long, .boolean, .long, .long, .boolean, .int, .int, .int]
def aNL : List Nat := [12, 5, 61, 62, 160, 6, 6, 4, 10, 160, 4, 40, 10, 6, 40, 0, 0, 0, 0, 0, 12, 12, 12, 12, 12, 12, 12, 12, 61, 61, 61, 61, 61, 61, 61, 61, 61, 1120, 7, 160, 6, 60, 60, 60, 60, 60, 60, 5, 5, 5, 5, 5, 5, 5, 5, 5, 62, 61, 61, 61, 610, 200, 4, 4, 4, 160]
def tixL : List Nat := [4, 5, 6, 0, 3, 7, 8, 9, 1, 0, 0, 0, 10, 0, 0, 0, 0, 0, 0, 0, 0, 0, 0, 0, 0, 0, 0, 0, 1, 1, 1, 1, 1, 1, 1, 1, 0, 0, 0, 0, 0, 0, 0, 0, 0, 0, 0, 1, 0, 1, 1, 1, 1, 1, 1, 1, 0, 1, 1, 2, 1, 1, 2, 0, 0, 0]
def aT (c : Nat) : FieldType := aTL.getD (c - 20) .int
def aN (c : Nat) : Nat := aNL.getD (c - 20) 0
def tix (c : Nat) : Nat := tixL.getD (c - 20) 0
def tysL : List FieldType := [.int, .long, .boolean, .byte, .object "LayerBook$Loan", .object "LayerBook$Paper", .object "LayerBook$Month", .object "LayerBook$Law", .object "LayerBook$Order", .object "LayerBook$Sheet", .array .int]
def tysF (k : Nat) : FieldType := tysL.getD k .int
theorem tix_ok : ∀ c, c < 86 → 20 ≤ c → 0 < cnt c → tysF (tix c) = aT c ∧ tix c < 11 := by decide +kernel
theorem kinds_ok : ∀ c, c < 86 → 0 < cnt c → c < 11 ∨ 20 ≤ c := by decide +kernel
/-- how many slots the first n cells have -/
def szOf (c : Nat) : Nat := if c < 11 then nf c else aN c
def su : Nat → Nat
  | 0 => 0
  | n + 1 => su n + szOf (layF n).1
theorem su_mono {a b : Nat} (h : a ≤ b) : su a ≤ su b := by
  induction b with
  | zero => rw [Nat.le_zero.mp h]; exact Nat.le_refl _
  | succ b ih =>
    rcases Nat.lt_or_ge a (b + 1) with q | q
    · exact Nat.le_trans (ih (by omega)) (Nat.le_add_right _ _)
    · rw [show a = b + 1 by omega]; exact Nat.le_refl _
/-! strings, statics, words that are carried -/
def lenK : List Nat := [8, 15, 3, 2, 3, 33, 4, 21, 9, 2, 26]
def bytK : List (List Int32) := [[40, 41, 59, 43, 45, 42, 60, 61], [102, 97, 105, 108, 32, 108, 97, 116, 101, 32, 101, 97, 114, 108, 121], [110, 111, 116], [111, 114], [97, 110, 100], [109, 111, 110, 116, 104, 32, 114, 97, 116, 101, 32, 108, 101, 102, 116, 32, 111, 119, 101, 100, 32, 98, 97, 108, 97, 110, 99, 101, 32, 107, 105, 110, 100], [114, 101, 115, 116], [102, 101, 101, 32, 112, 97, 121, 32, 111, 119, 110, 32, 112, 97, 114, 116, 32, 107, 101, 101, 112], [97, 32, 98, 32, 99, 32, 100, 32, 101], [105, 102], [109, 111, 110, 116, 104, 32, 108, 97, 116, 101, 32, 108, 111, 115, 116, 32, 99, 111, 118, 101, 114, 32, 116, 114, 105, 112]]
def strR : List (String × Nat × String × Nat) := [("LayerBook$Tape", 48, "();+-*<=", 0), ("LayerBook$Law", 33, "fail late early", 1), ("LayerBook$Law", 79, "not", 2), ("LayerBook$Law", 72, "or", 3), ("LayerBook$Law", 74, "and", 4), ("LayerBook$Law", 87, "month rate left owed balance kind", 5), ("LayerBook$Order", 25, "rest", 6), ("LayerBook$Order", 54, "fee pay own part keep", 7), ("LayerBook$Order", 63, "a b c d e", 8), ("LayerBook$Order", 73, "if", 9), ("LayerBook$Order", 78, "not", 2), ("LayerBook$Order", 80, "month late lost cover trip", 10)]
def fAb : Nat → Int32 := fun j => ([-1, 0, 1, 0, 2, 3] : List Int32).getD j 0
def nestM : List (String × Nat × MethodName × String) := [("LayerBook$Pool", 21, ⟨"LayerBook$Loan", "<init>", "()V"⟩, "LayerBook"), ("LayerBook$Fall", 24, ⟨"LayerBook$Paper", "<init>", "()V"⟩, "LayerBook"), ("LayerBook", 31, ⟨"LayerBook$Month", "<init>", "()V"⟩, "LayerBook"), ("LayerBook", 46, ⟨"LayerBook$Tape", "<init>", "()V"⟩, "LayerBook"), ("LayerBook", 76, ⟨"LayerBook$Law", "<init>", "()V"⟩, "LayerBook"), ("LayerBook", 78, ⟨"LayerBook$Sheet", "<init>", "()V"⟩, "LayerBook")]
def aoW : List String := ["LayerBook$Loan", "LayerBook$Paper", "LayerBook$Month", "LayerBook$Law", "LayerBook$Order", "LayerBook$Sheet"]
/-- what is fixed over the whole run: the launch, the classes, the arrays' classes, the base, the strings and their bytes, the static table, the script -/
abbrev GT : Type := Launch × va_G × (Nat → ClassId) × Nat × (Nat → Nat) × (Nat → Nat) × Nat × Nat × Nat × (Nat → Int32)
abbrev gl (G : GT) : Launch := G.1
abbrev gD (G : GT) : va_G := G.2.1
abbrev gA (G : GT) : Nat → ClassId := G.2.2.1
abbrev gB (G : GT) : Nat := G.2.2.2.1
abbrev gK (G : GT) : Nat → Nat := G.2.2.2.2.1
abbrev gV (G : GT) : Nat → Nat := G.2.2.2.2.2.1
abbrev gT (G : GT) : Nat := G.2.2.2.2.2.2.1
abbrev gS (G : GT) : Nat := G.2.2.2.2.2.2.2.1
abbrev gL (G : GT) : Nat := G.2.2.2.2.2.2.2.2.1
abbrev gX (G : GT) : Nat → Int32 := G.2.2.2.2.2.2.2.2.2
def own (G : GT) : Nat → Prop := fun q => gB G ≤ q
theorem aoA_warm {s U : State} (hW : s.WarmedH U.vm) (hZ : va_Nw (.arrayOver (.array .int)) s) : va_Nw (.arrayOver (.array .int)) U := (show (Cond.arrayOver (.array .int)).before #[] (s.setVm U.vm) = true from by rw [Cond.arrayOver_setVmC hW.alike]; exact hZ)
def Ext (G : GT) (U : State) (H : Heap) : Prop :=
  vk_S 11 lenK bytK (gK G) (gV G) (own G) U H ∧ va_Z "java/lang/String" "COMPACT_STRINGS" "Z" (.int 1) (own G) U H ∧ va_Zq "jdk/internal/util/Preconditions" "SIOOBE_FORMATTER" "Ljava/util/function/BiFunction;" (own G) U H ∧
  va_Z "LayerBook" "ABOVE" "[I" (.ref (gT G)) (own G) U H ∧ va_T .int (gT G) 6 (fun j => .int (fAb j)) (own G) U H ∧ (∀ q ∈ strR, vk_R q.1 q.2.1 q.2.2.1 (gK G q.2.2.2) U) ∧ (∀ q ∈ nestM, va_Nw (.methodLinkNest q.1 q.2.1 q.2.2.1 q.2.2.2) U) ∧
  va_Nw (.fieldLinkNest "LayerBook$Loan" 37 "LayerBook" "ABOVE" "[I" "LayerBook") U ∧ (∀ C ∈ aoW, va_AO C U) ∧ va_Nw (.arrayOver (.array .int)) U ∧ va_X (gS G) (gL G) (gX G) U H ∧ (gS G < H.size ∧ ¬ own G (gS G))
theorem Ext.kept {G : GT} {U : State} {H H1 : Heap} (h : Ext G U H) (hz : H.size ≤ H1.size) (hq : ∀ a : Nat, a < H.size → ¬ own G a → H1[a]? = H[a]?) : Ext G U H1 := by
  obtain ⟨h1, h2, h3, h4, h5, h6, h7, h8, h9, h10, h11, h12, h13⟩ := h
  exact ⟨h1.kept hq, h2.kept hq, h3.kept hq, h4.kept hq, h5.kept hq, h6, h7, h8, h9, h10, h11.kept (hq _ h12 h13), Nat.lt_of_lt_of_le h12 hz, h13⟩
theorem Ext.warm {G : GT} {s U : State} {H : Heap} (hW : s.WarmedH U.vm) (h : Ext G s H) : Ext G U H := by
  obtain ⟨h1, h2, h3, h4, h5, h6, h7, h8, h9, h10, h11, h12⟩ := h
  have hv := hW.alike
  exact ⟨h1.moved hv, h2.moved hv, h3.moved hv, h4.moved hv, h5.moved hv, fun q hq => (h6 q hq).warm hW, fun q hq => (h7 q hq).warmM hW, h8.warmF hW, fun C hC => (h9 C hC).moved hv, aoA_warm hW h10, h11.moved hv, h12⟩
end
section
/-! values of the picture: whole numbers stand for ints and longs, (kind, index) for a cell -/
abbrev AV : Type := Int ⊕ Int ⊕ Option (Nat × Nat)
abbrev vI (x : Int) : AV := .inl x
abbrev vL (x : Int) : AV := .inr (.inl x)
abbrev vR (c i : Nat) : AV := .inr (.inr (some (c, i)))
abbrev vN : AV := .inr (.inr none)
abbrev NN : Type := Nat → Nat → Nat → Int
abbrev RR : Type := Nat → Nat → Nat → Option (Nat × Nat)
def wI (x : Int) : Int := x.bmod 4294967296
def wL (x : Int) : Int := x.bmod 18446744073709551616
theorem wI_id {x : Int} (h1 : -2147483648 ≤ x) (h2 : x < 2147483648) : wI x = x := by
  unfold wI
  rw [Int.bmod_def]
  split <;> omega
theorem wL_id {x : Int} (h1 : -9223372036854775808 ≤ x) (h2 : x < 9223372036854775808) : wL x = x := by
  unfold wL
  rw [Int.bmod_def]
  split <;> omega
theorem wI_rng (x : Int) : -2147483648 ≤ wI x ∧ wI x < 2147483648 := by
  unfold wI
  rw [Int.bmod_def]
  split <;> omega
theorem wL_rng (x : Int) : -9223372036854775808 ≤ wL x ∧ wL x < 9223372036854775808 := by
  unfold wL
  rw [Int.bmod_def]
  split <;> omega
theorem oI_toInt (x : Int) : (Int32.ofInt x).toInt = wI x := by
  unfold wI
  rw [Int32.toInt_ofInt]
theorem oL_toInt (x : Int) : (Int64.ofInt x).toInt = wL x := by
  unfold wL
  rw [Int64.toInt_ofInt]
theorem oI_w (x : Int) : Int32.ofInt (wI x) = Int32.ofInt x := by rw [← oI_toInt, Int32.ofInt_toInt]
theorem oL_w (x : Int) : Int64.ofInt (wL x) = Int64.ofInt x := by rw [← oL_toInt, Int64.ofInt_toInt]
theorem oI_eq {x y : Int} : Int32.ofInt x = Int32.ofInt y ↔ wI x = wI y := by rw [← Int32.toInt_inj, oI_toInt, oI_toInt]
theorem oI_lt {x y : Int} : Int32.ofInt x < Int32.ofInt y ↔ wI x < wI y := by rw [Int32.lt_iff_toInt_lt, oI_toInt, oI_toInt]
theorem oI_le {x y : Int} : Int32.ofInt x ≤ Int32.ofInt y ↔ wI x ≤ wI y := by rw [Int32.le_iff_toInt_le, oI_toInt, oI_toInt]
theorem oL_eq {x y : Int} : Int64.ofInt x = Int64.ofInt y ↔ wL x = wL y := by rw [← Int64.toInt_inj, oL_toInt, oL_toInt]
theorem oL_lt {x y : Int} : Int64.ofInt x < Int64.ofInt y ↔ wL x < wL y := by rw [Int64.lt_iff_toInt_lt, oL_toInt, oL_toInt]
theorem oI_0 : Int32.ofInt 0 = 0 := by decide +kernel
theorem oI_lt0 {x : Int} : Int32.ofInt x < 0 ↔ wI x < 0 := by rw [Int32.lt_iff_toInt_lt, oI_toInt, Int32.toInt_zero]
theorem oI_eq0 {x : Int} : Int32.ofInt x = 0 ↔ wI x = 0 := by rw [← Int32.toInt_inj, oI_toInt, Int32.toInt_zero]
theorem oI_le0 {x : Int} : Int32.ofInt x ≤ 0 ↔ wI x ≤ 0 := by rw [Int32.le_iff_toInt_le, oI_toInt, Int32.toInt_zero]
theorem oI_gt0 {x : Int} : 0 < Int32.ofInt x ↔ 0 < wI x := by rw [Int32.lt_iff_toInt_lt, oI_toInt, Int32.toInt_zero]
theorem oI_ge0 {x : Int} : 0 ≤ Int32.ofInt x ↔ 0 ≤ wI x := by rw [Int32.le_iff_toInt_le, oI_toInt, Int32.toInt_zero]
theorem oI_of {v : Int32} {x : Int} (h : v.toInt = x) : v = Int32.ofInt x := by rw [← h, Int32.ofInt_toInt]
theorem oL_of {v : Int64} {x : Int} (h : v.toInt = x) : v = Int64.ofInt x := by rw [← h, Int64.ofInt_toInt]
theorem oL_eq0 {x : Int} : Int64.ofInt x = 0 ↔ wL x = 0 := by rw [← Int64.toInt_inj, oL_toInt, Int64.toInt_zero]
theorem oI_div (x y : Int) : Int32.ofInt x / Int32.ofInt y = Int32.ofInt ((wI x).tdiv (wI y)) := by
  apply Int32.toInt_inj.mp
  rw [Int32.toInt_div, oI_toInt, oI_toInt, oI_toInt]
  rfl
theorem oL_div (x y : Int) : Int64.ofInt x / Int64.ofInt y = Int64.ofInt ((wL x).tdiv (wL y)) := by
  apply Int64.toInt_inj.mp
  rw [Int64.toInt_div, oL_toInt, oL_toInt, oL_toInt]
  rfl
theorem oI_rem (x y : Int) : Int32.ofInt x - Int32.ofInt x / Int32.ofInt y * Int32.ofInt y = Int32.ofInt ((wI x).tmod (wI y)) := by
  rw [oI_div, ← oI_w y, ← Int32.ofInt_mul, ← oI_w x, ← Int32.ofInt_sub, Int.tmod_def, Int.mul_comm (wI y)]
theorem oL_rem (x y : Int) : Int64.ofInt x - Int64.ofInt x / Int64.ofInt y * Int64.ofInt y = Int64.ofInt ((wL x).tmod (wL y)) := by
  rw [oL_div, ← oL_w y, ← Int64.ofInt_mul, ← oL_w x, ← Int64.ofInt_sub, Int.tmod_def, Int.mul_comm (wL y)]
theorem oI_L (x : Int) : (Int32.ofInt x).toInt64 = Int64.ofInt (wI x) := by
  apply Int64.toInt_inj.mp
  rw [Int32.toInt_toInt64, oI_toInt, oL_toInt, wL_id]
  · have := (wI_rng x).1; omega
  · have := (wI_rng x).2; omega
theorem oL_I (x : Int) : (Int64.ofInt x).toInt32 = Int32.ofInt x := by
  apply Int32.toInt_inj.mp
  rw [Int64.toInt_toInt32, oL_toInt, oI_toInt]
  unfold wL wI
  rw [Int.bmod_bmod_of_dvd]
  exact ⟨4294967296, by decide +kernel⟩
def ad (G : GT) (r : Nat × Nat) : Nat := if r.1 = 200 then gK G r.2 else if r.1 = 201 then gV G r.2 else if r.1 = 202 then gT G else if r.1 = 203 then gS G else gB G + pos r
def cv (G : GT) (v : AV) : Value := match v with
  | .inl x => .int (Int32.ofInt x)
  | .inr (.inl x) => .long (Int64.ofInt x)
  | .inr (.inr r) => va_rf (r.map (ad G))
def slot (G : GT) (N : NN) (R : RR) (c i : Nat) (t : FieldType) (k : Nat) : Value := match tagOf t with
  | 0 => .int (Int32.ofInt (N c i k))
  | 1 => .long (Int64.ofInt (N c i k))
  | _ => va_rf ((R c i k).map (ad G))
def arrE (G : GT) (N : NN) (R : RR) (c i : Nat) : (Nat → Int32) ⊕ (Nat → Int64) ⊕ (Nat → UInt32) ⊕ (Nat → UInt64) ⊕ (Nat → Option Nat) := match tagOf (aT c) with
  | 0 => .inl (fun j => Int32.ofInt (N c i j))
  | 1 => .inr (.inl (fun j => Int64.ofInt (N c i j)))
  | _ => .inr (.inr (.inr (.inr (fun j => (R c i j).map (ad G)))))
def EE (G : GT) (N : NN) (R : RR) (r : Nat × Nat) : va_E := if r.1 < 11 then .inr (r.1, (List.range (nf r.1)).map (fun k => slot G N R r.1 r.2 (tyC r.1 k) k)) else .inl (gA G (tix r.1), aN r.1, arrE G N R r.1 r.2)
def ws (G : GT) (n : Nat) (N : NN) (R : RR) : va_W := (List.range n).map (fun q => (gB G + q, EE G N R (layF q)))
def tys (G : GT) : List (ClassId × FieldType) := (List.range 11).map (fun k => (gA G k, tysF k))
theorem ad_ok {G : GT} {c i : Nat} (h : i < cnt c) : ad G (c, i) = gB G + pos (c, i) := by
  have := cnt_lt h
  unfold ad
  rw [if_neg (by show ¬ c = 200; omega), if_neg (by show ¬ c = 201; omega), if_neg (by show ¬ c = 202; omega), if_neg (by show ¬ c = 203; omega)]
theorem ws_len (G : GT) (n : Nat) (N : NN) (R : RR) : (ws G n N R).length = n := by simp [ws]
theorem ws_get {G : GT} {n : Nat} {N : NN} {R : RR} {q : Nat} (h : q < n) : (ws G n N R)[q]? = some (gB G + q, EE G N R (layF q)) := by
  unfold ws
  rw [List.getElem?_map, List.getElem?_range h]
  rfl
theorem ws_at {G : GT} {n : Nat} {N : NN} {R : RR} {c i : Nat} (h : okA n c i) : (ws G n N R)[pos (c, i)]? = some (ad G (c, i), EE G N R (c, i)) := by
  rw [ws_get h.2, (pos_lay h.1).1, ad_ok h.1]
theorem ws_D (G : GT) (n : Nat) (N : NN) (R : RR) : va_D (own G) (ws G n N R) := by
  have key : ∀ (k : Nat) (q : Nat × va_E), (ws G n N R)[k]? = some q → q.1 = gB G + k := by
    intro k q hk
    have hl : k < n := by
      have := (List.getElem?_eq_some_iff.mp hk).1
      rwa [ws_len] at this
    rw [ws_get hl] at hk
    cases hk
    rfl
  refine ⟨fun i j p q hi hj he => ?_, fun k q hk => ?_⟩
  · rw [key i p hi, key j q hj] at he
    omega
  · show gB G ≤ q.1
    rw [key k q hk]
    omega
/-- one cell changed -/
theorem ws_set {G : GT} {n : Nat} {N N' : NN} {R R' : RR} {c i : Nat} {x : va_E} (hn : n ≤ TOT) (h : okA n c i) (hx : EE G N' R' (c, i) = x) (ho : ∀ r, r ≠ (c, i) → EE G N' R' r = EE G N R r) : (ws G n N R).set (pos (c, i)) (ad G (c, i), x) = ws G n N' R' := by
  apply List.ext_getElem?
  intro q
  by_cases hq : q < n
  · by_cases e : pos (c, i) = q
    · subst e
      rw [List.getElem?_set_self (by rw [ws_len]; exact hq), ws_at h, hx]
    · rw [List.getElem?_set_ne e, ws_get hq, ws_get hq, ho]
      intro hr
      apply e
      rw [← hr]
      exact lay_pos q (Nat.lt_of_lt_of_le hq hn)
  · rw [List.getElem?_eq_none (by rw [List.length_set, ws_len]; omega), List.getElem?_eq_none (by rw [ws_len]; omega)]
/-- one number, one reference changed -/
def up3 (N : NN) (c i k : Nat) (v : Int) : NN := fun c' i' k' => if c' = c ∧ k' = k ∧ i' = i then v else N c' i' k'
def upR (R : RR) (c i k : Nat) (v : Option (Nat × Nat)) : RR := fun c' i' k' => if c' = c ∧ k' = k ∧ i' = i then v else R c' i' k'
theorem EE_obj {G : GT} {N : NN} {R : RR} {c i : Nat} (h : c < 11) : EE G N R (c, i) = .inr (c, (List.range (nf c)).map (fun k => slot G N R c i (tyC c k) k)) := if_pos h
theorem EE_arr {G : GT} {N : NN} {R : RR} {c i : Nat} (h : 20 ≤ c) : EE G N R (c, i) = .inl (gA G (tix c), aN c, arrE G N R c i) := if_neg (show ¬ c < 11 by omega)
theorem EE_other {G : GT} {N N' : NN} {R R' : RR} {c i : Nat} (hN : ∀ c' i' k', ¬ (c' = c ∧ i' = i) → N' c' i' k' = N c' i' k') (hR : ∀ c' i' k', ¬ (c' = c ∧ i' = i) → R' c' i' k' = R c' i' k') (r : Nat × Nat) (hr : r ≠ (c, i)) : EE G N' R' r = EE G N R r := by
  obtain ⟨c', i'⟩ := r
  have hne : ¬ (c' = c ∧ i' = i) := fun q => hr (by rw [q.1, q.2])
  unfold EE
  have e1 : ∀ k, slot G N' R' c' i' (tyC c' k) k = slot G N R c' i' (tyC c' k) k := by
    intro k
    unfold slot
    rw [hN c' i' k hne, hR c' i' k hne]
  have e2 : arrE G N' R' c' i' = arrE G N R c' i' := by
    unfold arrE
    have a1 : (fun j => Int32.ofInt (N' c' i' j)) = fun j => Int32.ofInt (N c' i' j) := funext fun j => by rw [hN c' i' j hne]
    have a2 : (fun j => Int64.ofInt (N' c' i' j)) = fun j => Int64.ofInt (N c' i' j) := funext fun j => by rw [hN c' i' j hne]
    have a3 : (fun j => (R' c' i' j).map (ad G)) = fun j => (R c' i' j).map (ad G) := funext fun j => by rw [hR c' i' j hne]
    rw [a1, a2, a3]
  rw [e2]
  simp only [e1]
theorem up3_o {N : NN} {c i k : Nat} {v : Int} : ∀ c' i' k', ¬ (c' = c ∧ i' = i) → up3 N c i k v c' i' k' = N c' i' k' := fun _ _ _ h => if_neg fun q => h ⟨q.1, q.2.2⟩
theorem upR_o {R : RR} {c i k : Nat} {v : Option (Nat × Nat)} : ∀ c' i' k', ¬ (c' = c ∧ i' = i) → upR R c i k v c' i' k' = R c' i' k' := fun _ _ _ h => if_neg fun q => h ⟨q.1, q.2.2⟩
end
section
/-! AW: from here on the method goes to its end, over any heap that holds the picture -/
def isL (v : AV) : Bool := match v with
  | .inr (.inl _) => true
  | _ => false
theorem cv_isL (G : GT) (v : AV) : ((cv G v).category == 2) = isL v := by
  rcases v with x | x | r
  · rfl
  · rfl
  · cases r <;> rfl
def cvl (G : GT) (ls : List (Nat × AV)) : List (Nat × Value) := ls.map (fun q => (q.1, cv G q.2))
def ls1 (i : Nat) (v : AV) (ls : List (Nat × AV)) : List (Nat × AV) := (i, v) :: ls.filter (fun q => !(q.1 == i) && !(q.1 + 1 == i && isL q.2))
def ls2 (i : Nat) (v : AV) (ls : List (Nat × AV)) : List (Nat × AV) := (i, v) :: ls.filter (fun q => !(q.1 == i) && (!(q.1 == i + 1) && !(q.1 + 1 == i && isL q.2)))
theorem cvl_1 (G : GT) (i : Nat) (v : AV) (ls : List (Nat × AV)) : (i, cv G v) :: (cvl G ls).filter (fun q => !(q.1 == i) && !(q.1 + 1 == i && q.2.category == 2)) = cvl G (ls1 i v ls) := by
  unfold cvl ls1
  rw [List.filter_map, List.map_cons]
  congr 2
  apply List.filter_congr
  intro q _
  simp only [Function.comp_apply, cv_isL]
theorem cvl_2 (G : GT) (i : Nat) (v : AV) (ls : List (Nat × AV)) : (i, cv G v) :: (cvl G ls).filter (fun q => !(q.1 == i) && (!(q.1 == i + 1) && !(q.1 + 1 == i && q.2.category == 2))) = cvl G (ls2 i v ls) := by
  unfold cvl ls2
  rw [List.filter_map, List.map_cons]
  congr 2
  apply List.filter_congr
  intro q _
  simp only [Function.comp_apply, cv_isL]
theorem lk_mem {i : Nat} {v : AV} : ∀ {ls : List (Nat × AV)}, ls.lookup i = some v → (i, v) ∈ ls
  | [], h => by cases h
  | (j, w) :: l, h => by
    rw [List.lookup_cons] at h
    by_cases e : i = j
    · subst e
      simp at h
      rw [h]
      exact List.mem_cons_self
    · rw [show (i == j) = false from by simp [e]] at h
      exact List.mem_cons_of_mem _ (lk_mem h)
theorem cvl_at {G : GT} {la : Array Slot} {nL : Nat} {ls : List (Nat × AV)} (h : lv_has la nL (cvl G ls)) {i : Nat} {v : AV} (hk : ls.lookup i = some v) : la[i]? = some (.val (cv G v)) := h.2.2 (i, cv G v) (List.mem_map.mpr ⟨(i, v), lk_mem hk, rfl⟩)
theorem cvl_pos {G : GT} {i : Nat} {v : AV} {ls : List (Nat × AV)} (hk : ls.lookup i = some v) : ∃ k : Nat, (cvl G ls)[k]? = some (i, cv G v) := by
  obtain ⟨k, hk⟩ := List.getElem?_of_mem (lk_mem hk)
  exact ⟨k, by unfold cvl; rw [List.getElem?_map, hk]; rfl⟩
abbrev ZT : Type := List Frame → Array Value → State → State → Prop
def AC (G : GT) (o : String) (cc : ByteArray) (nL : Nat) (ret : Option FieldType) (ini : Bool) (n0 : Nat) (p : Program) (s : State) (m : MethodId) (args : Array Value) (meth : Method) (c : Code) : Prop :=
  p.tables.exec = Jvm.exec ∧ c.code = cc ∧ c.maxLocals = nL ∧ meth.sig.returnType = ret ∧ meth.locks = false ∧ (∀ w ∈ ALL, w.before args s = true) ∧ s.vm.findClass o = some m.cls ∧ (ini = true → meth.name = "<init>") ∧ Ext G s s.heap ∧ va_K (gD G) vwCl (tys G) s ∧ s.heap.size = gB G + n0
def AW (G : GT) (o : String) (cc : ByteArray) (nL : Nat) (ret : Option FieldType) (ini : Bool) (rm : Room) (n0 : Nat) (Z : ZT) (pc : Nat) (ls : List (Nat × AV)) (st : List AV) (n : Nat) (N : NN) (R : RR) : Prop :=
  ∀ (p : Program) (e : Env) (s : State) (m : MethodId) (args : Array Value) (below : List Frame) (meth : Method) (c : Code) (H : Heap) (locs : List Loc) (la : Array Slot),
    AC G o cc nL ret ini n0 p s m args meth c → n ≤ TOT ∧ n0 ≤ n → va_P (gD G) vwCl (ws G n N R) H → va_S (own G) s.heap H locs → H.size = gB G + n → lv_has la nL (cvl G ls) →
    W p (gl G) e rm s m args below meth c H locs (n - n0) (su n - su n0) (Z below args s) (F0 m pc la (st.map (cv G)))
section AWR
variable {G : GT} {o : String} {cc : ByteArray} {nL : Nat} {ret : Option FieldType} {ini : Bool} {rm : Room} {n0 : Nat} {Z : ZT} {pc : Nat} {ls : List (Nat × AV)} {st : List AV} {n : Nat} {N : NN} {R : RR}
theorem A_iconst  {k v : Int} (hd : decode cc pc = .ok (.iconst k, 1)) (hv : k = v) (h : AW G o cc nL ret ini rm n0 Z (pc + 1) ls (vI v :: st) n N R) : AW G o cc nL ret ini rm n0 Z pc ls st n N R := by
  intro p e s m args below meth c H locs la C hn hP hS hz hl
  subst hv
  exact lv_iconst C.1 C.2.1 hd rfl (h p e s m args below meth c H locs la C hn hP hS hz hl)
theorem A_bipush  {k v : Int} (hd : decode cc pc = .ok (.bipush k, 2)) (hv : (Int8.ofInt k).toInt32 = Int32.ofInt v) (h : AW G o cc nL ret ini rm n0 Z (pc + 2) ls (vI v :: st) n N R) : AW G o cc nL ret ini rm n0 Z pc ls st n N R := by
  intro p e s m args below meth c H locs la C hn hP hS hz hl
  exact lv_bipush C.1 C.2.1 hd hv (h p e s m args below meth c H locs la C hn hP hS hz hl)
theorem A_sipush  {k v : Int} (hd : decode cc pc = .ok (.sipush k, 3)) (hv : (Int16.ofInt k).toInt32 = Int32.ofInt v) (h : AW G o cc nL ret ini rm n0 Z (pc + 3) ls (vI v :: st) n N R) : AW G o cc nL ret ini rm n0 Z pc ls st n N R := by
  intro p e s m args below meth c H locs la C hn hP hS hz hl
  exact lv_sipush C.1 C.2.1 hd hv (h p e s m args below meth c H locs la C hn hP hS hz hl)
theorem A_lconst  {k : Fin 2} {v : Int} (hd : decode cc pc = .ok (.lconst k, 1)) (hv : Int64.ofNat (k : Nat) = Int64.ofInt v) (h : AW G o cc nL ret ini rm n0 Z (pc + 1) ls (vL v :: st) n N R) : AW G o cc nL ret ini rm n0 Z pc ls st n N R := by
  intro p e s m args below meth c H locs la C hn hP hS hz hl
  exact lv_lconst C.1 C.2.1 hd hv (h p e s m args below meth c H locs la C hn hP hS hz hl)
theorem A_null  (hd : decode cc pc = .ok (.aconst_null, 1)) (h : AW G o cc nL ret ini rm n0 Z (pc + 1) ls (vN :: st) n N R) : AW G o cc nL ret ini rm n0 Z pc ls st n N R := by
  intro p e s m args below meth c H locs la C hn hP hS hz hl
  exact lv_null C.1 C.2.1 hd (h p e s m args below meth c H locs la C hn hP hS hz hl)
theorem A_ldc  {v : Int32} {x : Int} {k : Nat} (hd : decode cc pc = .ok (.ldc k, 2)) (hw : Cond.constant o k v ∈ ALL) (hv : v = Int32.ofInt x) (h : AW G o cc nL ret ini rm n0 Z (pc + 2) ls (vI x :: st) n N R) : AW G o cc nL ret ini rm n0 Z pc ls st n N R := by
  intro p e s m args below meth c H locs la C hn hP hS hz hl
  subst hv
  exact lv_ldc C.1 C.2.1 C.2.2.2.2.2.2.1 (C.2.2.2.2.2.1 _ hw) hd (h p e s m args below meth c H locs la C hn hP hS hz hl)
theorem A_ldc2  {v : Int64} {x : Int} {k : Nat} (hd : decode cc pc = .ok (.ldc2_w k, 3)) (hw : Cond.constantLong o k v ∈ ALL) (hv : v = Int64.ofInt x) (h : AW G o cc nL ret ini rm n0 Z (pc + 3) ls (vL x :: st) n N R) : AW G o cc nL ret ini rm n0 Z pc ls st n N R := by
  intro p e s m args below meth c H locs la C hn hP hS hz hl
  subst hv
  exact lv_ldc2 C.1 C.2.1 C.2.2.2.2.2.2.1 (C.2.2.2.2.2.1 _ hw) hd (h p e s m args below meth c H locs la C hn hP hS hz hl)
theorem A_ldcS  {tx : String} {k q : Nat} (hd : decode cc pc = .ok (.ldc k, 2)) (hw : (o, k, tx, q) ∈ strR) (h : AW G o cc nL ret ini rm n0 Z (pc + 2) ls (vR 200 q :: st) n N R) : AW G o cc nL ret ini rm n0 Z pc ls st n N R := by
  intro p e s m args below meth c H locs la C hn hP hS hz hl
  exact va_ldcS C.1 C.2.1 C.2.2.2.2.2.2.1 (C.2.2.2.2.2.2.2.2.1.2.2.2.2.2.1 _ hw) hd (h p e s m args below meth c H locs la C hn hP hS hz hl)
theorem A_iload_n  {k : Fin 4} {i : Nat} {x : Int} (hd : decode cc pc = .ok (.iload_n k, 1)) (hi : (k : Nat) = i) (hk : ls.lookup i = some (vI x)) (h : AW G o cc nL ret ini rm n0 Z (pc + 1) ls (vI x :: st) n N R) : AW G o cc nL ret ini rm n0 Z pc ls st n N R := by
  intro p e s m args below meth c H locs la C hn hP hS hz hl
  exact lv_iload_n C.1 C.2.1 hd hi (cvl_at hl hk) (h p e s m args below meth c H locs la C hn hP hS hz hl)
theorem A_iload  {i : Nat} {x : Int} (hd : decode cc pc = .ok (.iload i, 2)) (hk : ls.lookup i = some (vI x)) (h : AW G o cc nL ret ini rm n0 Z (pc + 2) ls (vI x :: st) n N R) : AW G o cc nL ret ini rm n0 Z pc ls st n N R := by
  intro p e s m args below meth c H locs la C hn hP hS hz hl
  exact lv_iload C.1 C.2.1 hd (cvl_at hl hk) (h p e s m args below meth c H locs la C hn hP hS hz hl)
theorem A_lload_n  {k : Fin 4} {i : Nat} {x : Int} (hd : decode cc pc = .ok (.lload_n k, 1)) (hi : (k : Nat) = i) (hk : ls.lookup i = some (vL x)) (h : AW G o cc nL ret ini rm n0 Z (pc + 1) ls (vL x :: st) n N R) : AW G o cc nL ret ini rm n0 Z pc ls st n N R := by
  intro p e s m args below meth c H locs la C hn hP hS hz hl
  exact lv_lload_n C.1 C.2.1 hd hi (cvl_at hl hk) (h p e s m args below meth c H locs la C hn hP hS hz hl)
theorem A_lload  {i : Nat} {x : Int} (hd : decode cc pc = .ok (.lload i, 2)) (hk : ls.lookup i = some (vL x)) (h : AW G o cc nL ret ini rm n0 Z (pc + 2) ls (vL x :: st) n N R) : AW G o cc nL ret ini rm n0 Z pc ls st n N R := by
  intro p e s m args below meth c H locs la C hn hP hS hz hl
  exact lv_lload C.1 C.2.1 hd (cvl_at hl hk) (h p e s m args below meth c H locs la C hn hP hS hz hl)
theorem A_aload_n  {k : Fin 4} {i c0 i0 : Nat} (hd : decode cc pc = .ok (.aload_n k, 1)) (hi : (k : Nat) = i) (hk : ls.lookup i = some (vR c0 i0)) (h : AW G o cc nL ret ini rm n0 Z (pc + 1) ls (vR c0 i0 :: st) n N R) : AW G o cc nL ret ini rm n0 Z pc ls st n N R := by
  intro p e s m args below meth c H locs la C hn hP hS hz hl
  exact lv_aload_n C.1 C.2.1 hd hi (cvl_at hl hk) (h p e s m args below meth c H locs la C hn hP hS hz hl)
theorem A_aload  {i c0 i0 : Nat} (hd : decode cc pc = .ok (.aload i, 2)) (hk : ls.lookup i = some (vR c0 i0)) (h : AW G o cc nL ret ini rm n0 Z (pc + 2) ls (vR c0 i0 :: st) n N R) : AW G o cc nL ret ini rm n0 Z pc ls st n N R := by
  intro p e s m args below meth c H locs la C hn hP hS hz hl
  exact lv_aload C.1 C.2.1 hd (cvl_at hl hk) (h p e s m args below meth c H locs la C hn hP hS hz hl)
theorem A_istore_n  {k : Fin 4} {i : Nat} {x : Int} {ls' : List (Nat × AV)} (hd : decode cc pc = .ok (.istore_n k, 1)) (hi : (k : Nat) = i) (hlt : i < nL) (he : ls1 i (vI x) ls = ls') (h : AW G o cc nL ret ini rm n0 Z (pc + 1) ls' st n N R) : AW G o cc nL ret ini rm n0 Z pc ls (vI x :: st) n N R := by
  intro p e s m args below meth c H locs la C hn hP hS hz hl
  subst he
  exact lv_istore_n C.1 C.2.1 hd hi hl hlt (cvl_1 G i (vI x) ls) (fun la2 hl2 => h p e s m args below meth c H locs la2 C hn hP hS hz hl2)
theorem A_istore  {i : Nat} {x : Int} {ls' : List (Nat × AV)} (hd : decode cc pc = .ok (.istore i, 2)) (hlt : i < nL) (he : ls1 i (vI x) ls = ls') (h : AW G o cc nL ret ini rm n0 Z (pc + 2) ls' st n N R) : AW G o cc nL ret ini rm n0 Z pc ls (vI x :: st) n N R := by
  intro p e s m args below meth c H locs la C hn hP hS hz hl
  subst he
  exact lv_istore C.1 C.2.1 hd hl hlt (cvl_1 G i (vI x) ls) (fun la2 hl2 => h p e s m args below meth c H locs la2 C hn hP hS hz hl2)
theorem A_lstore_n  {k : Fin 4} {i : Nat} {x : Int} {ls' : List (Nat × AV)} (hd : decode cc pc = .ok (.lstore_n k, 1)) (hi : (k : Nat) = i) (hlt : i + 1 < nL) (he : ls2 i (vL x) ls = ls') (h : AW G o cc nL ret ini rm n0 Z (pc + 1) ls' st n N R) : AW G o cc nL ret ini rm n0 Z pc ls (vL x :: st) n N R := by
  intro p e s m args below meth c H locs la C hn hP hS hz hl
  subst he
  exact lv_lstore_n C.1 C.2.1 hd hi hl hlt (cvl_2 G i (vL x) ls) (fun la2 hl2 => h p e s m args below meth c H locs la2 C hn hP hS hz hl2)
theorem A_lstore  {i : Nat} {x : Int} {ls' : List (Nat × AV)} (hd : decode cc pc = .ok (.lstore i, 2)) (hlt : i + 1 < nL) (he : ls2 i (vL x) ls = ls') (h : AW G o cc nL ret ini rm n0 Z (pc + 2) ls' st n N R) : AW G o cc nL ret ini rm n0 Z pc ls (vL x :: st) n N R := by
  intro p e s m args below meth c H locs la C hn hP hS hz hl
  subst he
  exact lv_lstore C.1 C.2.1 hd hl hlt (cvl_2 G i (vL x) ls) (fun la2 hl2 => h p e s m args below meth c H locs la2 C hn hP hS hz hl2)
theorem A_astore_n  {k : Fin 4} {i : Nat} {c0 i0 : Nat} {ls' : List (Nat × AV)} (hd : decode cc pc = .ok (.astore_n k, 1)) (hi : (k : Nat) = i) (hlt : i < nL) (he : ls1 i (vR c0 i0) ls = ls') (h : AW G o cc nL ret ini rm n0 Z (pc + 1) ls' st n N R) : AW G o cc nL ret ini rm n0 Z pc ls (vR c0 i0 :: st) n N R := by
  intro p e s m args below meth c H locs la C hn hP hS hz hl
  subst he
  exact lv_astore_n C.1 C.2.1 hd hi hl hlt (cvl_1 G i (vR c0 i0) ls) (fun la2 hl2 => h p e s m args below meth c H locs la2 C hn hP hS hz hl2)
theorem A_astore  {i : Nat} {c0 i0 : Nat} {ls' : List (Nat × AV)} (hd : decode cc pc = .ok (.astore i, 2)) (hlt : i < nL) (he : ls1 i (vR c0 i0) ls = ls') (h : AW G o cc nL ret ini rm n0 Z (pc + 2) ls' st n N R) : AW G o cc nL ret ini rm n0 Z pc ls (vR c0 i0 :: st) n N R := by
  intro p e s m args below meth c H locs la C hn hP hS hz hl
  subst he
  exact lv_astore C.1 C.2.1 hd hl hlt (cvl_1 G i (vR c0 i0) ls) (fun la2 hl2 => h p e s m args below meth c H locs la2 C hn hP hS hz hl2)
theorem A_iinc  {i : Nat} {x k v : Int} {ls' : List (Nat × AV)} (hd : decode cc pc = .ok (.iinc i k, 3)) (hlt : i < nL) (hk : ls.lookup i = some (vI x)) (hv : x + k = v) (he : ls1 i (vI v) ls = ls') (h : AW G o cc nL ret ini rm n0 Z (pc + 3) ls' st n N R) : AW G o cc nL ret ini rm n0 Z pc ls st n N R := by
  intro p e s m args below meth c H locs la C hn hP hS hz hl
  subst he
  subst hv
  obtain ⟨q, hq⟩ := cvl_pos (G := G) hk
  exact lv_iinc C.1 C.2.1 hd hl hq (Int32.ofInt_add _ _).symm hlt (cvl_1 G i (vI (x + k)) ls) (fun la2 hl2 => h p e s m args below meth c H locs la2 C hn hP hS hz hl2)
theorem A_iadd  {x y : Int} (hd : decode cc pc = .ok (.iadd, 1)) (h : AW G o cc nL ret ini rm n0 Z (pc + 1) ls (vI (x + y) :: st) n N R) : AW G o cc nL ret ini rm n0 Z pc ls (vI y :: vI x :: st) n N R := by
  intro p e s m args below meth c H locs la C hn hP hS hz hl
  refine lv_iadd C.1 C.2.1 hd ?_
  rw [← Int32.ofInt_add]
  exact h p e s m args below meth c H locs la C hn hP hS hz hl
theorem A_ladd  {x y : Int} (hd : decode cc pc = .ok (.ladd, 1)) (h : AW G o cc nL ret ini rm n0 Z (pc + 1) ls (vL (x + y) :: st) n N R) : AW G o cc nL ret ini rm n0 Z pc ls (vL y :: vL x :: st) n N R := by
  intro p e s m args below meth c H locs la C hn hP hS hz hl
  refine lv_ladd C.1 C.2.1 hd ?_
  rw [← Int64.ofInt_add]
  exact h p e s m args below meth c H locs la C hn hP hS hz hl
theorem A_isub  {x y : Int} (hd : decode cc pc = .ok (.isub, 1)) (h : AW G o cc nL ret ini rm n0 Z (pc + 1) ls (vI (x - y) :: st) n N R) : AW G o cc nL ret ini rm n0 Z pc ls (vI y :: vI x :: st) n N R := by
  intro p e s m args below meth c H locs la C hn hP hS hz hl
  refine lv_isub C.1 C.2.1 hd ?_
  rw [← Int32.ofInt_sub]
  exact h p e s m args below meth c H locs la C hn hP hS hz hl
theorem A_lsub  {x y : Int} (hd : decode cc pc = .ok (.lsub, 1)) (h : AW G o cc nL ret ini rm n0 Z (pc + 1) ls (vL (x - y) :: st) n N R) : AW G o cc nL ret ini rm n0 Z pc ls (vL y :: vL x :: st) n N R := by
  intro p e s m args below meth c H locs la C hn hP hS hz hl
  refine lv_lsub C.1 C.2.1 hd ?_
  rw [← Int64.ofInt_sub]
  exact h p e s m args below meth c H locs la C hn hP hS hz hl
theorem A_imul  {x y : Int} (hd : decode cc pc = .ok (.imul, 1)) (h : AW G o cc nL ret ini rm n0 Z (pc + 1) ls (vI (x * y) :: st) n N R) : AW G o cc nL ret ini rm n0 Z pc ls (vI y :: vI x :: st) n N R := by
  intro p e s m args below meth c H locs la C hn hP hS hz hl
  refine lv_imul C.1 C.2.1 hd ?_
  rw [← Int32.ofInt_mul]
  exact h p e s m args below meth c H locs la C hn hP hS hz hl
theorem A_lmul  {x y : Int} (hd : decode cc pc = .ok (.lmul, 1)) (h : AW G o cc nL ret ini rm n0 Z (pc + 1) ls (vL (x * y) :: st) n N R) : AW G o cc nL ret ini rm n0 Z pc ls (vL y :: vL x :: st) n N R := by
  intro p e s m args below meth c H locs la C hn hP hS hz hl
  refine lv_lmul C.1 C.2.1 hd ?_
  rw [← Int64.ofInt_mul]
  exact h p e s m args below meth c H locs la C hn hP hS hz hl
theorem A_ineg  {x : Int} (hd : decode cc pc = .ok (.ineg, 1)) (h : AW G o cc nL ret ini rm n0 Z (pc + 1) ls (vI (-x) :: st) n N R) : AW G o cc nL ret ini rm n0 Z pc ls (vI x :: st) n N R := by
  intro p e s m args below meth c H locs la C hn hP hS hz hl
  refine lv_ineg C.1 C.2.1 hd ?_
  rw [← Int32.ofInt_neg]
  exact h p e s m args below meth c H locs la C hn hP hS hz hl
theorem A_lneg  {x : Int} (hd : decode cc pc = .ok (.lneg, 1)) (h : AW G o cc nL ret ini rm n0 Z (pc + 1) ls (vL (-x) :: st) n N R) : AW G o cc nL ret ini rm n0 Z pc ls (vL x :: st) n N R := by
  intro p e s m args below meth c H locs la C hn hP hS hz hl
  refine lv_lneg C.1 C.2.1 hd ?_
  rw [← Int64.ofInt_neg]
  exact h p e s m args below meth c H locs la C hn hP hS hz hl
theorem A_idiv  {x y : Int} (hd : decode cc pc = .ok (.idiv, 1)) (hne : wI y ≠ 0) (h : AW G o cc nL ret ini rm n0 Z (pc + 1) ls (vI ((wI x).tdiv (wI y)) :: st) n N R) : AW G o cc nL ret ini rm n0 Z pc ls (vI y :: vI x :: st) n N R := by
  intro p e s m args below meth c H locs la C hn hP hS hz hl
  refine lv_idiv C.1 C.2.1 hd (fun q => hne (oI_eq0.mp q)) ?_
  rw [oI_div]
  exact h p e s m args below meth c H locs la C hn hP hS hz hl
theorem A_irem  {x y : Int} (hd : decode cc pc = .ok (.irem, 1)) (hne : wI y ≠ 0) (h : AW G o cc nL ret ini rm n0 Z (pc + 1) ls (vI ((wI x).tmod (wI y)) :: st) n N R) : AW G o cc nL ret ini rm n0 Z pc ls (vI y :: vI x :: st) n N R := by
  intro p e s m args below meth c H locs la C hn hP hS hz hl
  refine lv_irem C.1 C.2.1 hd (fun q => hne (oI_eq0.mp q)) ?_
  rw [oI_rem]
  exact h p e s m args below meth c H locs la C hn hP hS hz hl
theorem A_ldiv  {x y : Int} (hd : decode cc pc = .ok (.ldiv, 1)) (hne : wL y ≠ 0) (h : AW G o cc nL ret ini rm n0 Z (pc + 1) ls (vL ((wL x).tdiv (wL y)) :: st) n N R) : AW G o cc nL ret ini rm n0 Z pc ls (vL y :: vL x :: st) n N R := by
  intro p e s m args below meth c H locs la C hn hP hS hz hl
  refine lv_ldiv C.1 C.2.1 hd (fun q => hne (oL_eq0.mp q)) ?_
  rw [oL_div]
  exact h p e s m args below meth c H locs la C hn hP hS hz hl
theorem A_lrem  {x y : Int} (hd : decode cc pc = .ok (.lrem, 1)) (hne : wL y ≠ 0) (h : AW G o cc nL ret ini rm n0 Z (pc + 1) ls (vL ((wL x).tmod (wL y)) :: st) n N R) : AW G o cc nL ret ini rm n0 Z pc ls (vL y :: vL x :: st) n N R := by
  intro p e s m args below meth c H locs la C hn hP hS hz hl
  refine lv_lrem C.1 C.2.1 hd (fun q => hne (oL_eq0.mp q)) ?_
  rw [oL_rem]
  exact h p e s m args below meth c H locs la C hn hP hS hz hl
def andI (x y : Int) : Int := (Int32.ofInt x &&& Int32.ofInt y).toInt
def andL (x y : Int) : Int := (Int64.ofInt x &&& Int64.ofInt y).toInt
def orL (x y : Int) : Int := (Int64.ofInt x ||| Int64.ofInt y).toInt
def shlL (x y : Int) : Int := (Int64.ofInt x <<< ((Int32.ofInt y).toInt64 &&& 63)).toInt
def shrL (x y : Int) : Int := (Int64.ofInt x >>> ((Int32.ofInt y).toInt64 &&& 63)).toInt
def ushrL (x y : Int) : Int := (((Int64.ofInt x).toUInt64 >>> ((Int32.ofInt y).toInt64.toUInt64 &&& Int64.toUInt64 63)).toInt64).toInt
def i2bI (x : Int) : Int := (Int32.ofInt x).toInt8.toInt32.toInt
def i2sI (x : Int) : Int := (Int32.ofInt x).toInt16.toInt32.toInt
def i2cI (x : Int) : Int := ((Int32.ofInt x).toUInt32 % 65536).toInt32.toInt
def cmpI (a b : Int) : Int := if b < a then 1 else if a = b then 0 else -1
theorem A_iand  {x y : Int} (hd : decode cc pc = .ok (.iand, 1)) (h : AW G o cc nL ret ini rm n0 Z (pc + 1) ls (vI (andI x y) :: st) n N R) : AW G o cc nL ret ini rm n0 Z pc ls (vI y :: vI x :: st) n N R := by
  intro p e s m args below meth c H locs la C hn hP hS hz hl
  refine lv_iand C.1 C.2.1 hd ?_
  rw [oI_of (x := andI x y) rfl]
  exact h p e s m args below meth c H locs la C hn hP hS hz hl
theorem A_land  {x y : Int} (hd : decode cc pc = .ok (.land, 1)) (h : AW G o cc nL ret ini rm n0 Z (pc + 1) ls (vL (andL x y) :: st) n N R) : AW G o cc nL ret ini rm n0 Z pc ls (vL y :: vL x :: st) n N R := by
  intro p e s m args below meth c H locs la C hn hP hS hz hl
  refine lv_land C.1 C.2.1 hd ?_
  rw [oL_of (x := andL x y) rfl]
  exact h p e s m args below meth c H locs la C hn hP hS hz hl
theorem A_lor  {x y : Int} (hd : decode cc pc = .ok (.lor, 1)) (h : AW G o cc nL ret ini rm n0 Z (pc + 1) ls (vL (orL x y) :: st) n N R) : AW G o cc nL ret ini rm n0 Z pc ls (vL y :: vL x :: st) n N R := by
  intro p e s m args below meth c H locs la C hn hP hS hz hl
  refine lv_lor C.1 C.2.1 hd ?_
  rw [oL_of (x := orL x y) rfl]
  exact h p e s m args below meth c H locs la C hn hP hS hz hl
theorem A_lshl  {x y : Int} (hd : decode cc pc = .ok (.lshl, 1)) (h : AW G o cc nL ret ini rm n0 Z (pc + 1) ls (vL (shlL x y) :: st) n N R) : AW G o cc nL ret ini rm n0 Z pc ls (vI y :: vL x :: st) n N R := by
  intro p e s m args below meth c H locs la C hn hP hS hz hl
  exact lv_lshl C.1 C.2.1 hd (oL_of (x := shlL x y) rfl) (h p e s m args below meth c H locs la C hn hP hS hz hl)
theorem A_lshr  {x y : Int} (hd : decode cc pc = .ok (.lshr, 1)) (h : AW G o cc nL ret ini rm n0 Z (pc + 1) ls (vL (shrL x y) :: st) n N R) : AW G o cc nL ret ini rm n0 Z pc ls (vI y :: vL x :: st) n N R := by
  intro p e s m args below meth c H locs la C hn hP hS hz hl
  exact lv_lshr C.1 C.2.1 hd (oL_of (x := shrL x y) rfl) (h p e s m args below meth c H locs la C hn hP hS hz hl)
theorem A_lushr  {x y : Int} (hd : decode cc pc = .ok (.lushr, 1)) (h : AW G o cc nL ret ini rm n0 Z (pc + 1) ls (vL (ushrL x y) :: st) n N R) : AW G o cc nL ret ini rm n0 Z pc ls (vI y :: vL x :: st) n N R := by
  intro p e s m args below meth c H locs la C hn hP hS hz hl
  exact lv_lushr C.1 C.2.1 hd (oL_of (x := ushrL x y) rfl) (h p e s m args below meth c H locs la C hn hP hS hz hl)
theorem A_i2b  {x : Int} (hd : decode cc pc = .ok (.i2b, 1)) (h : AW G o cc nL ret ini rm n0 Z (pc + 1) ls (vI (i2bI x) :: st) n N R) : AW G o cc nL ret ini rm n0 Z pc ls (vI x :: st) n N R := by
  intro p e s m args below meth c H locs la C hn hP hS hz hl
  exact lv_i2b C.1 C.2.1 hd (oI_of (x := i2bI x) rfl) (h p e s m args below meth c H locs la C hn hP hS hz hl)
theorem A_i2s  {x : Int} (hd : decode cc pc = .ok (.i2s, 1)) (h : AW G o cc nL ret ini rm n0 Z (pc + 1) ls (vI (i2sI x) :: st) n N R) : AW G o cc nL ret ini rm n0 Z pc ls (vI x :: st) n N R := by
  intro p e s m args below meth c H locs la C hn hP hS hz hl
  exact lv_i2s C.1 C.2.1 hd (oI_of (x := i2sI x) rfl) (h p e s m args below meth c H locs la C hn hP hS hz hl)
theorem A_i2c  {x : Int} (hd : decode cc pc = .ok (.i2c, 1)) (h : AW G o cc nL ret ini rm n0 Z (pc + 1) ls (vI (i2cI x) :: st) n N R) : AW G o cc nL ret ini rm n0 Z pc ls (vI x :: st) n N R := by
  intro p e s m args below meth c H locs la C hn hP hS hz hl
  exact lv_i2c C.1 C.2.1 hd (oI_of (x := i2cI x) rfl) (h p e s m args below meth c H locs la C hn hP hS hz hl)
theorem A_i2l  {x : Int} (hd : decode cc pc = .ok (.i2l, 1)) (h : AW G o cc nL ret ini rm n0 Z (pc + 1) ls (vL (wI x) :: st) n N R) : AW G o cc nL ret ini rm n0 Z pc ls (vI x :: st) n N R := by
  intro p e s m args below meth c H locs la C hn hP hS hz hl
  exact lv_i2l C.1 C.2.1 hd (oI_L x) (h p e s m args below meth c H locs la C hn hP hS hz hl)
theorem A_l2i  {x : Int} (hd : decode cc pc = .ok (.l2i, 1)) (h : AW G o cc nL ret ini rm n0 Z (pc + 1) ls (vI x :: st) n N R) : AW G o cc nL ret ini rm n0 Z pc ls (vL x :: st) n N R := by
  intro p e s m args below meth c H locs la C hn hP hS hz hl
  exact lv_l2i C.1 C.2.1 hd (oL_I x) (h p e s m args below meth c H locs la C hn hP hS hz hl)
theorem cmp_o (x y : Int) : lg_cmp (Int64.ofInt x) (Int64.ofInt y) = Int32.ofInt (cmpI (wL x) (wL y)) := by
  unfold lg_cmp cmpI
  by_cases h1 : Int64.ofInt y < Int64.ofInt x
  · rw [if_pos h1, if_pos (oL_lt.mp h1)]
    decide +kernel
  · rw [if_neg h1, if_neg (fun q => h1 (oL_lt.mpr q))]
    by_cases h2 : Int64.ofInt x = Int64.ofInt y
    · rw [if_pos h2, if_pos (oL_eq.mp h2)]
      decide +kernel
    · rw [if_neg h2, if_neg (fun q => h2 (oL_eq.mpr q))]
      decide +kernel
theorem A_lcmp  {x y : Int} (hd : decode cc pc = .ok (.lcmp, 1)) (h : AW G o cc nL ret ini rm n0 Z (pc + 1) ls (vI (cmpI (wL x) (wL y)) :: st) n N R) : AW G o cc nL ret ini rm n0 Z pc ls (vL y :: vL x :: st) n N R := by
  intro p e s m args below meth c H locs la C hn hP hS hz hl
  refine W.lcmp C.1 C.2.1 hd ?_
  rw [cmp_o]
  exact h p e s m args below meth c H locs la C hn hP hS hz hl
theorem cv_c1 {G : GT} {v : AV} (h : isL v = false) : (cv G v).category = 1 := by
  rcases v with x | x | r
  · rfl
  · cases h
  · cases r <;> rfl
theorem cv_c2 {G : GT} {v : AV} (h : isL v = true) : (cv G v).category = 2 := by
  rcases v with x | x | r
  · cases h
  · rfl
  · cases r <;> cases h
theorem A_dup  {v : AV} (hd : decode cc pc = .ok (.dup, 1)) (hv : isL v = false) (h : AW G o cc nL ret ini rm n0 Z (pc + 1) ls (v :: v :: st) n N R) : AW G o cc nL ret ini rm n0 Z pc ls (v :: st) n N R := by
  intro p e s m args below meth c H locs la C hn hP hS hz hl
  exact lv_dup C.1 C.2.1 hd (cv_c1 hv) (h p e s m args below meth c H locs la C hn hP hS hz hl)
theorem A_pop  {v : AV} (hd : decode cc pc = .ok (.pop, 1)) (hv : isL v = false) (h : AW G o cc nL ret ini rm n0 Z (pc + 1) ls (st) n N R) : AW G o cc nL ret ini rm n0 Z pc ls (v :: st) n N R := by
  intro p e s m args below meth c H locs la C hn hP hS hz hl
  exact lv_pop C.1 C.2.1 hd (cv_c1 hv) (h p e s m args below meth c H locs la C hn hP hS hz hl)
theorem A_dup2  {v w : AV} (hd : decode cc pc = .ok (.dup2, 1)) (hv : isL v = false) (hw : isL w = false) (h : AW G o cc nL ret ini rm n0 Z (pc + 1) ls (v :: w :: v :: w :: st) n N R) : AW G o cc nL ret ini rm n0 Z pc ls (v :: w :: st) n N R := by
  intro p e s m args below meth c H locs la C hn hP hS hz hl
  exact lv_dup2_11 C.1 C.2.1 hd (cv_c1 hv) (cv_c1 hw) (h p e s m args below meth c H locs la C hn hP hS hz hl)
theorem A_dup2L  {v : AV} (hd : decode cc pc = .ok (.dup2, 1)) (hv : isL v = true) (h : AW G o cc nL ret ini rm n0 Z (pc + 1) ls (v :: v :: st) n N R) : AW G o cc nL ret ini rm n0 Z pc ls (v :: st) n N R := by
  intro p e s m args below meth c H locs la C hn hP hS hz hl
  exact lv_dup2_2 C.1 C.2.1 hd (cv_c2 hv) (h p e s m args below meth c H locs la C hn hP hS hz hl)
theorem A_if_eq {x : Int} {off : Int} {tgt : Nat} (hd : decode cc pc = .ok (.ifCond .eq off, 3)) (hg : (pc : Int) + off = (tgt : Int)) (ht : (wI x = 0) → AW G o cc nL ret ini rm n0 Z tgt ls st n N R) (hf : ¬ (wI x = 0) → AW G o cc nL ret ini rm n0 Z (pc + 3) ls st n N R) : AW G o cc nL ret ini rm n0 Z pc ls (vI x :: st) n N R := by
  intro p e s m args below meth c H locs la C hn hP hS hz hl
  exact lv_if_eq C.1 C.2.1 hd hg (fun q => ht (oI_eq0.mp q) p e s m args below meth c H locs la C hn hP hS hz hl) (fun q => hf (fun z => q (oI_eq0.mpr z)) p e s m args below meth c H locs la C hn hP hS hz hl)
theorem A_icmp_eq {x y : Int} {off : Int} {tgt : Nat} (hd : decode cc pc = .ok (.if_icmp .eq off, 3)) (hg : (pc : Int) + off = (tgt : Int)) (ht : (wI x = wI y) → AW G o cc nL ret ini rm n0 Z tgt ls st n N R) (hf : ¬ (wI x = wI y) → AW G o cc nL ret ini rm n0 Z (pc + 3) ls st n N R) : AW G o cc nL ret ini rm n0 Z pc ls (vI y :: vI x :: st) n N R := by
  intro p e s m args below meth c H locs la C hn hP hS hz hl
  exact lv_icmp_eq C.1 C.2.1 hd hg (fun q => ht (oI_eq.mp q) p e s m args below meth c H locs la C hn hP hS hz hl) (fun q => hf (fun z => q (oI_eq.mpr z)) p e s m args below meth c H locs la C hn hP hS hz hl)
theorem A_if_ne {x : Int} {off : Int} {tgt : Nat} (hd : decode cc pc = .ok (.ifCond .ne off, 3)) (hg : (pc : Int) + off = (tgt : Int)) (ht : (wI x ≠ 0) → AW G o cc nL ret ini rm n0 Z tgt ls st n N R) (hf : ¬ (wI x ≠ 0) → AW G o cc nL ret ini rm n0 Z (pc + 3) ls st n N R) : AW G o cc nL ret ini rm n0 Z pc ls (vI x :: st) n N R := by
  intro p e s m args below meth c H locs la C hn hP hS hz hl
  exact lv_if_ne C.1 C.2.1 hd hg (fun q => ht (fun z => q (oI_eq0.mpr z)) p e s m args below meth c H locs la C hn hP hS hz hl) (fun q => hf (fun z => z (oI_eq0.mp q)) p e s m args below meth c H locs la C hn hP hS hz hl)
theorem A_icmp_ne {x y : Int} {off : Int} {tgt : Nat} (hd : decode cc pc = .ok (.if_icmp .ne off, 3)) (hg : (pc : Int) + off = (tgt : Int)) (ht : (wI x ≠ wI y) → AW G o cc nL ret ini rm n0 Z tgt ls st n N R) (hf : ¬ (wI x ≠ wI y) → AW G o cc nL ret ini rm n0 Z (pc + 3) ls st n N R) : AW G o cc nL ret ini rm n0 Z pc ls (vI y :: vI x :: st) n N R := by
  intro p e s m args below meth c H locs la C hn hP hS hz hl
  exact lv_icmp_ne C.1 C.2.1 hd hg (fun q => ht (fun z => q (oI_eq.mpr z)) p e s m args below meth c H locs la C hn hP hS hz hl) (fun q => hf (fun z => z (oI_eq.mp q)) p e s m args below meth c H locs la C hn hP hS hz hl)
theorem A_if_lt {x : Int} {off : Int} {tgt : Nat} (hd : decode cc pc = .ok (.ifCond .lt off, 3)) (hg : (pc : Int) + off = (tgt : Int)) (ht : (wI x < 0) → AW G o cc nL ret ini rm n0 Z tgt ls st n N R) (hf : ¬ (wI x < 0) → AW G o cc nL ret ini rm n0 Z (pc + 3) ls st n N R) : AW G o cc nL ret ini rm n0 Z pc ls (vI x :: st) n N R := by
  intro p e s m args below meth c H locs la C hn hP hS hz hl
  exact lv_if_lt C.1 C.2.1 hd hg (fun q => ht (oI_lt0.mp q) p e s m args below meth c H locs la C hn hP hS hz hl) (fun q => hf (fun z => q (oI_lt0.mpr z)) p e s m args below meth c H locs la C hn hP hS hz hl)
theorem A_icmp_lt {x y : Int} {off : Int} {tgt : Nat} (hd : decode cc pc = .ok (.if_icmp .lt off, 3)) (hg : (pc : Int) + off = (tgt : Int)) (ht : (wI x < wI y) → AW G o cc nL ret ini rm n0 Z tgt ls st n N R) (hf : ¬ (wI x < wI y) → AW G o cc nL ret ini rm n0 Z (pc + 3) ls st n N R) : AW G o cc nL ret ini rm n0 Z pc ls (vI y :: vI x :: st) n N R := by
  intro p e s m args below meth c H locs la C hn hP hS hz hl
  exact lv_icmp_lt C.1 C.2.1 hd hg (fun q => ht (oI_lt.mp q) p e s m args below meth c H locs la C hn hP hS hz hl) (fun q => hf (fun z => q (oI_lt.mpr z)) p e s m args below meth c H locs la C hn hP hS hz hl)
theorem A_if_ge {x : Int} {off : Int} {tgt : Nat} (hd : decode cc pc = .ok (.ifCond .ge off, 3)) (hg : (pc : Int) + off = (tgt : Int)) (ht : (0 ≤ wI x) → AW G o cc nL ret ini rm n0 Z tgt ls st n N R) (hf : ¬ (0 ≤ wI x) → AW G o cc nL ret ini rm n0 Z (pc + 3) ls st n N R) : AW G o cc nL ret ini rm n0 Z pc ls (vI x :: st) n N R := by
  intro p e s m args below meth c H locs la C hn hP hS hz hl
  exact lv_if_ge C.1 C.2.1 hd hg (fun q => ht (oI_ge0.mp q) p e s m args below meth c H locs la C hn hP hS hz hl) (fun q => hf (fun z => q (oI_ge0.mpr z)) p e s m args below meth c H locs la C hn hP hS hz hl)
theorem A_icmp_ge {x y : Int} {off : Int} {tgt : Nat} (hd : decode cc pc = .ok (.if_icmp .ge off, 3)) (hg : (pc : Int) + off = (tgt : Int)) (ht : (wI y ≤ wI x) → AW G o cc nL ret ini rm n0 Z tgt ls st n N R) (hf : ¬ (wI y ≤ wI x) → AW G o cc nL ret ini rm n0 Z (pc + 3) ls st n N R) : AW G o cc nL ret ini rm n0 Z pc ls (vI y :: vI x :: st) n N R := by
  intro p e s m args below meth c H locs la C hn hP hS hz hl
  exact lv_icmp_ge C.1 C.2.1 hd hg (fun q => ht (oI_le.mp q) p e s m args below meth c H locs la C hn hP hS hz hl) (fun q => hf (fun z => q (oI_le.mpr z)) p e s m args below meth c H locs la C hn hP hS hz hl)
theorem A_if_gt {x : Int} {off : Int} {tgt : Nat} (hd : decode cc pc = .ok (.ifCond .gt off, 3)) (hg : (pc : Int) + off = (tgt : Int)) (ht : (0 < wI x) → AW G o cc nL ret ini rm n0 Z tgt ls st n N R) (hf : ¬ (0 < wI x) → AW G o cc nL ret ini rm n0 Z (pc + 3) ls st n N R) : AW G o cc nL ret ini rm n0 Z pc ls (vI x :: st) n N R := by
  intro p e s m args below meth c H locs la C hn hP hS hz hl
  exact lv_if_gt C.1 C.2.1 hd hg (fun q => ht (oI_gt0.mp q) p e s m args below meth c H locs la C hn hP hS hz hl) (fun q => hf (fun z => q (oI_gt0.mpr z)) p e s m args below meth c H locs la C hn hP hS hz hl)
theorem A_icmp_gt {x y : Int} {off : Int} {tgt : Nat} (hd : decode cc pc = .ok (.if_icmp .gt off, 3)) (hg : (pc : Int) + off = (tgt : Int)) (ht : (wI y < wI x) → AW G o cc nL ret ini rm n0 Z tgt ls st n N R) (hf : ¬ (wI y < wI x) → AW G o cc nL ret ini rm n0 Z (pc + 3) ls st n N R) : AW G o cc nL ret ini rm n0 Z pc ls (vI y :: vI x :: st) n N R := by
  intro p e s m args below meth c H locs la C hn hP hS hz hl
  exact lv_icmp_gt C.1 C.2.1 hd hg (fun q => ht (oI_lt.mp q) p e s m args below meth c H locs la C hn hP hS hz hl) (fun q => hf (fun z => q (oI_lt.mpr z)) p e s m args below meth c H locs la C hn hP hS hz hl)
theorem A_if_le {x : Int} {off : Int} {tgt : Nat} (hd : decode cc pc = .ok (.ifCond .le off, 3)) (hg : (pc : Int) + off = (tgt : Int)) (ht : (wI x ≤ 0) → AW G o cc nL ret ini rm n0 Z tgt ls st n N R) (hf : ¬ (wI x ≤ 0) → AW G o cc nL ret ini rm n0 Z (pc + 3) ls st n N R) : AW G o cc nL ret ini rm n0 Z pc ls (vI x :: st) n N R := by
  intro p e s m args below meth c H locs la C hn hP hS hz hl
  exact lv_if_le C.1 C.2.1 hd hg (fun q => ht (oI_le0.mp q) p e s m args below meth c H locs la C hn hP hS hz hl) (fun q => hf (fun z => q (oI_le0.mpr z)) p e s m args below meth c H locs la C hn hP hS hz hl)
theorem A_icmp_le {x y : Int} {off : Int} {tgt : Nat} (hd : decode cc pc = .ok (.if_icmp .le off, 3)) (hg : (pc : Int) + off = (tgt : Int)) (ht : (wI x ≤ wI y) → AW G o cc nL ret ini rm n0 Z tgt ls st n N R) (hf : ¬ (wI x ≤ wI y) → AW G o cc nL ret ini rm n0 Z (pc + 3) ls st n N R) : AW G o cc nL ret ini rm n0 Z pc ls (vI y :: vI x :: st) n N R := by
  intro p e s m args below meth c H locs la C hn hP hS hz hl
  exact lv_icmp_le C.1 C.2.1 hd hg (fun q => ht (oI_le.mp q) p e s m args below meth c H locs la C hn hP hS hz hl) (fun q => hf (fun z => q (oI_le.mpr z)) p e s m args below meth c H locs la C hn hP hS hz hl)
theorem A_lcmp_eq {x y : Int} {off : Int} {pc1 tgt : Nat} (hd : decode cc pc = .ok (.lcmp, 1)) (hp : pc + 1 = pc1) (hd2 : decode cc pc1 = .ok (.ifCond .eq off, 3)) (hg : (pc1 : Int) + off = (tgt : Int)) (ht : (wL x = wL y) → AW G o cc nL ret ini rm n0 Z tgt ls st n N R) (hf : ¬ (wL x = wL y) → AW G o cc nL ret ini rm n0 Z (pc1 + 3) ls st n N R) : AW G o cc nL ret ini rm n0 Z pc ls (vL y :: vL x :: st) n N R := by
  subst hp
  have e1 : wI (cmpI (wL x) (wL y)) = cmpI (wL x) (wL y) := wI_id (by unfold cmpI; split <;> (try split) <;> omega) (by unfold cmpI; split <;> (try split) <;> omega)
  refine A_lcmp hd (A_if_eq hd2 hg (fun q => ht ?_) (fun q => hf (fun z => q ?_)))
  all_goals rw [e1] at *
  all_goals unfold cmpI at *
  all_goals (split at * <;> (try split at *) <;> omega)
theorem A_lcmp_ne {x y : Int} {off : Int} {pc1 tgt : Nat} (hd : decode cc pc = .ok (.lcmp, 1)) (hp : pc + 1 = pc1) (hd2 : decode cc pc1 = .ok (.ifCond .ne off, 3)) (hg : (pc1 : Int) + off = (tgt : Int)) (ht : (wL x ≠ wL y) → AW G o cc nL ret ini rm n0 Z tgt ls st n N R) (hf : ¬ (wL x ≠ wL y) → AW G o cc nL ret ini rm n0 Z (pc1 + 3) ls st n N R) : AW G o cc nL ret ini rm n0 Z pc ls (vL y :: vL x :: st) n N R := by
  subst hp
  have e1 : wI (cmpI (wL x) (wL y)) = cmpI (wL x) (wL y) := wI_id (by unfold cmpI; split <;> (try split) <;> omega) (by unfold cmpI; split <;> (try split) <;> omega)
  refine A_lcmp hd (A_if_ne hd2 hg (fun q => ht ?_) (fun q => hf (fun z => q ?_)))
  all_goals rw [e1] at *
  all_goals unfold cmpI at *
  all_goals (split at * <;> (try split at *) <;> omega)
theorem A_lcmp_lt {x y : Int} {off : Int} {pc1 tgt : Nat} (hd : decode cc pc = .ok (.lcmp, 1)) (hp : pc + 1 = pc1) (hd2 : decode cc pc1 = .ok (.ifCond .lt off, 3)) (hg : (pc1 : Int) + off = (tgt : Int)) (ht : (wL x < wL y) → AW G o cc nL ret ini rm n0 Z tgt ls st n N R) (hf : ¬ (wL x < wL y) → AW G o cc nL ret ini rm n0 Z (pc1 + 3) ls st n N R) : AW G o cc nL ret ini rm n0 Z pc ls (vL y :: vL x :: st) n N R := by
  subst hp
  have e1 : wI (cmpI (wL x) (wL y)) = cmpI (wL x) (wL y) := wI_id (by unfold cmpI; split <;> (try split) <;> omega) (by unfold cmpI; split <;> (try split) <;> omega)
  refine A_lcmp hd (A_if_lt hd2 hg (fun q => ht ?_) (fun q => hf (fun z => q ?_)))
  all_goals rw [e1] at *
  all_goals unfold cmpI at *
  all_goals (split at * <;> (try split at *) <;> omega)
theorem A_lcmp_ge {x y : Int} {off : Int} {pc1 tgt : Nat} (hd : decode cc pc = .ok (.lcmp, 1)) (hp : pc + 1 = pc1) (hd2 : decode cc pc1 = .ok (.ifCond .ge off, 3)) (hg : (pc1 : Int) + off = (tgt : Int)) (ht : (wL y ≤ wL x) → AW G o cc nL ret ini rm n0 Z tgt ls st n N R) (hf : ¬ (wL y ≤ wL x) → AW G o cc nL ret ini rm n0 Z (pc1 + 3) ls st n N R) : AW G o cc nL ret ini rm n0 Z pc ls (vL y :: vL x :: st) n N R := by
  subst hp
  have e1 : wI (cmpI (wL x) (wL y)) = cmpI (wL x) (wL y) := wI_id (by unfold cmpI; split <;> (try split) <;> omega) (by unfold cmpI; split <;> (try split) <;> omega)
  refine A_lcmp hd (A_if_ge hd2 hg (fun q => ht ?_) (fun q => hf (fun z => q ?_)))
  all_goals rw [e1] at *
  all_goals unfold cmpI at *
  all_goals (split at * <;> (try split at *) <;> omega)
theorem A_lcmp_gt {x y : Int} {off : Int} {pc1 tgt : Nat} (hd : decode cc pc = .ok (.lcmp, 1)) (hp : pc + 1 = pc1) (hd2 : decode cc pc1 = .ok (.ifCond .gt off, 3)) (hg : (pc1 : Int) + off = (tgt : Int)) (ht : (wL y < wL x) → AW G o cc nL ret ini rm n0 Z tgt ls st n N R) (hf : ¬ (wL y < wL x) → AW G o cc nL ret ini rm n0 Z (pc1 + 3) ls st n N R) : AW G o cc nL ret ini rm n0 Z pc ls (vL y :: vL x :: st) n N R := by
  subst hp
  have e1 : wI (cmpI (wL x) (wL y)) = cmpI (wL x) (wL y) := wI_id (by unfold cmpI; split <;> (try split) <;> omega) (by unfold cmpI; split <;> (try split) <;> omega)
  refine A_lcmp hd (A_if_gt hd2 hg (fun q => ht ?_) (fun q => hf (fun z => q ?_)))
  all_goals rw [e1] at *
  all_goals unfold cmpI at *
  all_goals (split at * <;> (try split at *) <;> omega)
theorem A_lcmp_le {x y : Int} {off : Int} {pc1 tgt : Nat} (hd : decode cc pc = .ok (.lcmp, 1)) (hp : pc + 1 = pc1) (hd2 : decode cc pc1 = .ok (.ifCond .le off, 3)) (hg : (pc1 : Int) + off = (tgt : Int)) (ht : (wL x ≤ wL y) → AW G o cc nL ret ini rm n0 Z tgt ls st n N R) (hf : ¬ (wL x ≤ wL y) → AW G o cc nL ret ini rm n0 Z (pc1 + 3) ls st n N R) : AW G o cc nL ret ini rm n0 Z pc ls (vL y :: vL x :: st) n N R := by
  subst hp
  have e1 : wI (cmpI (wL x) (wL y)) = cmpI (wL x) (wL y) := wI_id (by unfold cmpI; split <;> (try split) <;> omega) (by unfold cmpI; split <;> (try split) <;> omega)
  refine A_lcmp hd (A_if_le hd2 hg (fun q => ht ?_) (fun q => hf (fun z => q ?_)))
  all_goals rw [e1] at *
  all_goals unfold cmpI at *
  all_goals (split at * <;> (try split at *) <;> omega)
theorem A_goto  {off : Int} {tgt : Nat} (hd : decode cc pc = .ok (.goto off, 3)) (hg : (pc : Int) + off = (tgt : Int)) (h : AW G o cc nL ret ini rm n0 Z tgt ls st n N R) : AW G o cc nL ret ini rm n0 Z pc ls st n N R := by
  intro p e s m args below meth c H locs la C hn hP hS hz hl
  exact lv_goto C.1 C.2.1 hd hg (h p e s m args below meth c H locs la C hn hP hS hz hl)
theorem A_ifnull  {c0 i0 : Nat} {off : Int} (hd : decode cc pc = .ok (.ifnull off, 3)) (h : AW G o cc nL ret ini rm n0 Z (pc + 3) ls st n N R) : AW G o cc nL ret ini rm n0 Z pc ls (vR c0 i0 :: st) n N R := by
  intro p e s m args below meth c H locs la C hn hP hS hz hl
  exact lv_ifnull C.1 C.2.1 hd (h p e s m args below meth c H locs la C hn hP hS hz hl)
theorem A_ifnullN  {off : Int} {tgt : Nat} (hd : decode cc pc = .ok (.ifnull off, 3)) (hg : (pc : Int) + off = (tgt : Int)) (h : AW G o cc nL ret ini rm n0 Z tgt ls st n N R) : AW G o cc nL ret ini rm n0 Z pc ls (vN :: st) n N R := by
  intro p e s m args below meth c H locs la C hn hP hS hz hl
  exact lv_ifnullN C.1 C.2.1 hd hg (h p e s m args below meth c H locs la C hn hP hS hz hl)
theorem A_ifnonnull  {c0 i0 : Nat} {off : Int} {tgt : Nat} (hd : decode cc pc = .ok (.ifnonnull off, 3)) (hg : (pc : Int) + off = (tgt : Int)) (h : AW G o cc nL ret ini rm n0 Z tgt ls st n N R) : AW G o cc nL ret ini rm n0 Z pc ls (vR c0 i0 :: st) n N R := by
  intro p e s m args below meth c H locs la C hn hP hS hz hl
  exact lv_ifnonnull C.1 C.2.1 hd hg (h p e s m args below meth c H locs la C hn hP hS hz hl)
theorem A_ifnonnullN  {off : Int} (hd : decode cc pc = .ok (.ifnonnull off, 3)) (h : AW G o cc nL ret ini rm n0 Z (pc + 3) ls st n N R) : AW G o cc nL ret ini rm n0 Z pc ls (vN :: st) n N R := by
  intro p e s m args below meth c H locs la C hn hP hS hz hl
  exact lv_ifnonnullN C.1 C.2.1 hd (h p e s m args below meth c H locs la C hn hP hS hz hl)
theorem A_tableOut {x lo hi dflt : Int} {offs : Array Int} {len tgt : Nat} (hd : decode cc pc = .ok (.tableswitch dflt lo hi offs, len)) (hx : wI x < lo ∨ hi < wI x) (hg : (pc : Int) + dflt = (tgt : Int)) (h : AW G o cc nL ret ini rm n0 Z tgt ls st n N R) : AW G o cc nL ret ini rm n0 Z pc ls (vI x :: st) n N R := by
  intro p e s m args below meth c H locs la C hn hP hS hz hl
  exact lv_tableOut C.1 C.2.1 hd (by rw [oI_toInt]; exact hx) hg (h p e s m args below meth c H locs la C hn hP hS hz hl)
theorem A_tableIn {x lo hi dflt off k : Int} {offs : Array Int} {len tgt : Nat} (hd : decode cc pc = .ok (.tableswitch dflt lo hi offs, len)) (hx : wI x = k) (h1 : lo ≤ k ∧ k ≤ hi) (ho : offs[(k - lo).toNat]? = some off) (hg : (pc : Int) + off = (tgt : Int)) (h : AW G o cc nL ret ini rm n0 Z tgt ls st n N R) : AW G o cc nL ret ini rm n0 Z pc ls (vI x :: st) n N R := by
  intro p e s m args below meth c H locs la C hn hP hS hz hl
  subst hx
  exact lv_tableIn C.1 C.2.1 hd (by rw [oI_toInt]; omega) (by rw [oI_toInt]; omega) (by rw [oI_toInt]; exact ho) hg (h p e s m args below meth c H locs la C hn hP hS hz hl)
theorem A_locals {ls' : List (Nat × AV)} (hs : ∀ q ∈ ls', q ∈ ls) (h : AW G o cc nL ret ini rm n0 Z pc ls' st n N R) : AW G o cc nL ret ini rm n0 Z pc ls st n N R := by
  intro p e s m args below meth c H locs la C hn hP hS hz hl
  refine h p e s m args below meth c H locs la C hn hP hS hz ⟨hl.1, hl.2.1, fun q hq => hl.2.2 q ?_⟩
  obtain ⟨r, hr, rfl⟩ := List.mem_map.mp hq
  exact List.mem_map.mpr ⟨r, hs r hr, rfl⟩
end AWR
end
section
/-! rows of the heap -/
/-- what the tables say of the class of kind c -/
def CF (c : Nat) (C : String) (T : u_T) (n : Nat) : Prop := vwCl[c]? = some (C, T, n) ∧ nf c = n ∧ c < 11 ∧ (∀ w ∈ u_ws C T n, w ∈ ALL) ∧ (∀ k, k < n → parseFieldDescriptor (T k).2.2.1 = some (tyC c k)) ∧ (∀ a, a < n → ∀ b, b < n → a ≠ b → (T a).2.1 ≠ (T b).2.1)
/-- the field k of kind c, named by entry idx of the class o: its type, whether it's final -/
def FW (o : String) (idx c k : Nat) (ty : FieldType) (fin : Bool) : Prop := ∃ (C : String) (T : u_T) (n : Nat), CF c C T n ∧ Cond.fieldLink o idx (T k).1 (T k).2.1 (T k).2.2.1 ∈ ALL ∧ k < n ∧ tyC c k = ty ∧ (T k).2.2.2 = fin
theorem rng_set {n k : Nat} {f g : Nat → Value} {v : Value} (hk : g k = v) (ho : ∀ j, j ≠ k → g j = f j) : ((List.range n).map f).set k v = (List.range n).map g := by
  apply List.ext_getElem?
  intro q
  by_cases e : k = q
  · subst e
    by_cases hq : k < n
    · rw [List.getElem?_set_self (by simpa using hq), List.getElem?_map, List.getElem?_range hq, Option.map_some, hk]
    · rw [List.getElem?_eq_none (by simp; omega), List.getElem?_eq_none (by simp; omega)]
  · rw [List.getElem?_set_ne e, List.getElem?_map, List.getElem?_map]
    by_cases hq : q < n
    · rw [List.getElem?_range hq, Option.map_some, Option.map_some, ho q (fun z => e z.symm)]
    · rw [List.getElem?_eq_none (by simp; omega)]
      rfl
theorem slot_0 {G : GT} {N : NN} {R : RR} {c i k : Nat} {t : FieldType} (h : tagOf t = 0) : slot G N R c i t k = cv G (vI (N c i k)) := by unfold slot; rw [h]; rfl
theorem slot_1 {G : GT} {N : NN} {R : RR} {c i k : Nat} {t : FieldType} (h : tagOf t = 1) : slot G N R c i t k = cv G (vL (N c i k)) := by unfold slot; rw [h]; rfl
theorem slot_2 {G : GT} {N : NN} {R : RR} {c i k : Nat} {t : FieldType} (h : tagOf t = 2) : slot G N R c i t k = cv G (.inr (.inr (R c i k))) := by unfold slot; rw [h]; rfl
theorem slot_o {G : GT} {N N' : NN} {R R' : RR} {c i k : Nat} {t : FieldType} (h1 : N' c i k = N c i k) (h2 : R' c i k = R c i k) : slot G N' R' c i t k = slot G N R c i t k := by unfold slot; rw [h1, h2]
theorem up3_s {N : NN} {c i k : Nat} {v : Int} : up3 N c i k v c i k = v := if_pos ⟨rfl, rfl, rfl⟩
theorem up3_n {N : NN} {c i k j : Nat} {v : Int} (h : j ≠ k) : up3 N c i k v c i j = N c i j := if_neg fun q => h q.2.1
theorem upR_s {R : RR} {c i k : Nat} {v : Option (Nat × Nat)} : upR R c i k v c i k = v := if_pos ⟨rfl, rfl, rfl⟩
theorem upR_n {R : RR} {c i k j : Nat} {v : Option (Nat × Nat)} (h : j ≠ k) : upR R c i k v c i j = R c i j := if_neg fun q => h q.2.1
theorem ws_put {G : GT} {n : Nat} {N N' : NN} {R R' : RR} {c i : Nat} {H H1 : Heap} (hP : va_P (gD G) vwCl (ws G n N R) H) (hn : n ≤ TOT) (ho : okA n c i) (he : va_at (gD G) vwCl (ad G (c, i), EE G N' R' (c, i)) H1) (oq : ∀ q : Nat, q ≠ ad G (c, i) → H1[q]? = H[q]?) (hN : ∀ c' i' k', ¬ (c' = c ∧ i' = i) → N' c' i' k' = N c' i' k') (hR : ∀ c' i' k', ¬ (c' = c ∧ i' = i) → R' c' i' k' = R c' i' k') : va_P (gD G) vwCl (ws G n N' R') H1 := by
  have h1 := hP.set (ws_D G n N R) (ws_at ho) he oq
  rwa [ws_set hn ho rfl (fun r hr => EE_other hN hR r hr)] at h1
theorem ad_own {G : GT} {c i : Nat} (h : i < cnt c) : own G (ad G (c, i)) := by
  show gB G ≤ _
  rw [ad_ok h]
  omega
section AWH
variable {G : GT} {o : String} {cc : ByteArray} {nL : Nat} {ret : Option FieldType} {ini : Bool} {rm : Room} {n0 : Nat} {Z : ZT} {pc : Nat} {ls : List (Nat × AV)} {st : List AV} {n : Nat} {N : NN} {R : RR}
theorem A_getV {idx c i k : Nat} {ty : FieldType} {fin : Bool} {v : AV} (hd : decode cc pc = .ok (.getfield idx, 3)) (F : FW o idx c k ty fin) (ho : okA n c i) (hv : slot G N R c i ty k = cv G v) (h : AW G o cc nL ret ini rm n0 Z (pc + 3) ls (v :: st) n N R) : AW G o cc nL ret ini rm n0 Z pc ls (vR c i :: st) n N R := by
  intro p e s m args below meth cx H locs la C hn hP hS hz hl
  obtain ⟨Cn, T, nn, F, hw, hk, hty, -⟩ := F
  have ha := ws_at (G := G) (N := N) (R := R) ho
  rw [EE_obj F.2.2.1] at ha
  refine va_get C.1 C.2.1 C.2.2.2.2.2.1 F.2.2.2.1 C.2.2.2.2.2.2.1 C.2.2.2.2.2.2.2.2.2.1 hP _ ha F.1 k hk (C.2.2.2.2.2.1 _ hw) (fun x hx => hx) (v := cv G v) ?_ hd (h p e s m args below meth cx H locs la C hn hP hS hz hl)
  rw [List.getElem?_map, List.getElem?_range (by rw [F.2.1]; exact hk), Option.map_some, hty, hv]
theorem A_getI {idx c i k : Nat} {ty : FieldType} {fin : Bool} (hd : decode cc pc = .ok (.getfield idx, 3)) (F : FW o idx c k ty fin) (ht : tagOf ty = 0) (ho : okA n c i) (h : AW G o cc nL ret ini rm n0 Z (pc + 3) ls (vI (N c i k) :: st) n N R) : AW G o cc nL ret ini rm n0 Z pc ls (vR c i :: st) n N R := A_getV hd F ho (slot_0 ht) h
theorem A_getL {idx c i k : Nat} {ty : FieldType} {fin : Bool} (hd : decode cc pc = .ok (.getfield idx, 3)) (F : FW o idx c k ty fin) (ht : tagOf ty = 1) (ho : okA n c i) (h : AW G o cc nL ret ini rm n0 Z (pc + 3) ls (vL (N c i k) :: st) n N R) : AW G o cc nL ret ini rm n0 Z pc ls (vR c i :: st) n N R := A_getV hd F ho (slot_1 ht) h
theorem A_getR {idx c i k c2 i2 : Nat} {ty : FieldType} {fin : Bool} (hd : decode cc pc = .ok (.getfield idx, 3)) (F : FW o idx c k ty fin) (ht : tagOf ty = 2) (ho : okA n c i) (hr : R c i k = some (c2, i2)) (h : AW G o cc nL ret ini rm n0 Z (pc + 3) ls (vR c2 i2 :: st) n N R) : AW G o cc nL ret ini rm n0 Z pc ls (vR c i :: st) n N R := A_getV hd F ho ((slot_2 ht).trans (by rw [hr])) h
theorem A_getN {idx c i k : Nat} {ty : FieldType} {fin : Bool} (hd : decode cc pc = .ok (.getfield idx, 3)) (F : FW o idx c k ty fin) (ht : tagOf ty = 2) (ho : okA n c i) (hr : R c i k = none) (h : AW G o cc nL ret ini rm n0 Z (pc + 3) ls (vN :: st) n N R) : AW G o cc nL ret ini rm n0 Z pc ls (vR c i :: st) n N R := A_getV hd F ho ((slot_2 ht).trans (by rw [hr])) h
theorem A_putV {idx c i k : Nat} {ty : FieldType} {fin : Bool} {v : AV} {N' : NN} {R' : RR} (hd : decode cc pc = .ok (.putfield idx, 3)) (F : FW o idx c k ty fin) (hfi : fin = true → ini = true) (hde : fin = true → ∀ q, vwCl[c]? = some q → (q.2.1 k).1 = o) (ho : okA n c i) (hn1 : narrow ty (cv G v) = cv G v) (hf1 : fits ty (cv G v) = true)
    (hv : slot G N' R' c i ty k = cv G v) (hs : ∀ j, j ≠ k → N' c i j = N c i j ∧ R' c i j = R c i j) (hN : ∀ c' i' k', ¬ (c' = c ∧ i' = i) → N' c' i' k' = N c' i' k') (hR : ∀ c' i' k', ¬ (c' = c ∧ i' = i) → R' c' i' k' = R c' i' k')
    (h : AW G o cc nL ret ini rm n0 Z (pc + 3) ls st n N' R') : AW G o cc nL ret ini rm n0 Z pc ls (v :: vR c i :: st) n N R := by
  intro p e s m args below meth cx H locs la C hn hP hS hz hl
  obtain ⟨Cn, T, nn, F, hw, hk, hty, hfin⟩ := F
  have hdecl : fin = true → (T k).1 = o := fun q => hde q _ F.1
  have hts := C.2.2.2.2.2.1
  have hK := C.2.2.2.2.2.2.2.2.2.1
  have hown := C.2.2.2.2.2.2.1
  have hin := F.2.2.2.1
  have hap := va_apart (own := o) hts hin (tyC c) F.2.2.2.2.1 F.2.2.2.2.2 hK F.1
  have ha := ws_at (G := G) (N := N) (R := R) ho
  rw [EE_obj F.2.2.1] at ha
  obtain ⟨r, h1, cell, q1, q2, q3, q4⟩ := hP _ _ ha
  have hr : r = (Cn, T, nn) := Option.some.inj (h1.symm.trans F.1)
  subst hr
  obtain ⟨hSl, hfc, kC, hkC, hkind⟩ := hK.1 c _ F.1
  obtain ⟨cf, kf, fi, f, hi, hsl⟩ := hSl k hk
  have hlay := hts _ (hin _ (u_in_lay hk))
  have hst := (u_facts hfc hkC (u_lays hts hin hk) hi).1
  have hd2 : parseFieldDescriptor (T k).2.2.1 = some ty := by rw [← hty]; exact F.2.2.2.2.1 k hk
  have hll : k < ((List.range (nf c)).map (fun k => slot G N R c i (tyC c k) k)).length := by simpa [F.2.1] using hk
  have fin2 : ∀ H' : Heap, H'[ad G (c, i)]? = some (cell.setSlot (gD G |>.2 c k) (cv G v)) → H'.size = H.size → (∀ q, q ≠ ad G (c, i) → H'[q]? = H[q]?) → W p (gl G) e rm s m args below meth cx H' (locs ++ [⟨ad G (c, i), (gD G).2 c k⟩]) (n - n0) (su n - su n0) (Z below args s) (F0 m (pc + 3) la (st.map (cv G))) := by
    intro H' e1 e2 e3
    refine h p e s m args below meth cx H' _ la C hn (ws_put hP hn.1 ho ?_ e3 hN hR) (hS.put e2 e3 (ad_own ho.1)) (e2.trans hz) hl
    rw [EE_obj F.2.2.1]
    refine ⟨_, F.1, ?_⟩
    rw [← rng_set (n := nf c) (k := k) (f := fun k => slot G N R c i (tyC c k) k) (g := fun k => slot G N' R' c i (tyC c k) k) (v := cv G v) (by show slot G N' R' c i (tyC c k) k = _; rw [hty, hv]) (fun j hj => slot_o (hs j hj).1 (hs j hj).2)]
    exact t_OB.to (V := updV (vp_V _) k (cv G v)) ⟨_, e1, q2, q3, t_set q4 hap hk (cv G v)⟩ (fun j _ => vp_updV_set hll (cv G v) j)
  cases fin with
  | false =>
    unfold u_lay at hlay
    rw [if_neg (by rw [hfin]; decide)] at hlay
    have h6 := u_store hfc hkC hkind hlay hi hd2 hn1 hf1
    refine W.putK C.1 C.2.1 (f := f) ⟨hown, hts _ hw, ⟨_, _, _, hi⟩, hst⟩ (by rw [q2]; exact h6) q1 q3 (by rw [hsl]; exact k2_hasslot (q4 k hk)) rfl rfl hd fun H' e1 e2 e3 => ?_
    rw [hsl] at e1 ⊢
    exact fin2 H' e1 e2 e3
  | true =>
    unfold u_lay at hlay
    rw [if_pos hfin] at hlay
    have hcf : m.cls = cf := by
      obtain ⟨_, _, c', _, _, _, -, -, hf', -, -, -, hown2, -⟩ := Cond.laysFinal_spec hlay
      have e1 : c' = cf := by have := hi.symm.trans hf'; simp at this; exact this.1.symm
      rw [hdecl rfl] at hown2
      rw [← e1]; exact Option.some.inj (hown.symm.trans hown2)
    have h6 := u_fits hfc hkC hkind (Or.inr hlay) hi hd2 hn1 hf1
    refine W.putFinK C.1 C.2.1 hown (hts _ hw) hi hst hcf (C.2.2.2.2.2.2.2.1 (hfi rfl)) (by rw [q2]; exact h6) q1 q3 (by rw [hsl]; exact k2_hasslot (q4 k hk)) rfl rfl hd fun H' e1 e2 e3 => ?_
    rw [hsl] at e1 ⊢
    exact fin2 H' e1 e2 e3
theorem A_putI {idx c i k : Nat} {x : Int} (hd : decode cc pc = .ok (.putfield idx, 3)) (F : FW o idx c k .int false) (ho : okA n c i) (h : AW G o cc nL ret ini rm n0 Z (pc + 3) ls st n (up3 N c i k x) R) : AW G o cc nL ret ini rm n0 Z pc ls (vI x :: vR c i :: st) n N R :=
  A_putV hd F (fun q => by cases q) (fun q => by cases q) ho rfl rfl ((slot_0 rfl).trans (by rw [up3_s])) (fun j hj => ⟨up3_n hj, rfl⟩) up3_o (fun _ _ _ _ => rfl) h
theorem A_putL {idx c i k : Nat} {x : Int} (hd : decode cc pc = .ok (.putfield idx, 3)) (F : FW o idx c k .long false) (ho : okA n c i) (h : AW G o cc nL ret ini rm n0 Z (pc + 3) ls st n (up3 N c i k x) R) : AW G o cc nL ret ini rm n0 Z pc ls (vL x :: vR c i :: st) n N R :=
  A_putV hd F (fun q => by cases q) (fun q => by cases q) ho rfl rfl ((slot_1 rfl).trans (by rw [up3_s])) (fun j hj => ⟨up3_n hj, rfl⟩) up3_o (fun _ _ _ _ => rfl) h
theorem A_putZ {idx c i k : Nat} {x : Int} (hd : decode cc pc = .ok (.putfield idx, 3)) (F : FW o idx c k .boolean false) (ho : okA n c i) (hx : x = 0 ∨ x = 1) (h : AW G o cc nL ret ini rm n0 Z (pc + 3) ls st n (up3 N c i k x) R) : AW G o cc nL ret ini rm n0 Z pc ls (vI x :: vR c i :: st) n N R :=
  A_putV hd F (fun q => by cases q) (fun q => by cases q) ho (by rcases hx with rfl | rfl <;> rfl) (by rcases hx with rfl | rfl <;> rfl) ((slot_0 rfl).trans (by rw [up3_s])) (fun j hj => ⟨up3_n hj, rfl⟩) up3_o (fun _ _ _ _ => rfl) h
theorem A_putR {idx c i k c2 i2 : Nat} {ty : FieldType} {fin : Bool} (hd : decode cc pc = .ok (.putfield idx, 3)) (F : FW o idx c k ty fin) (hfi : fin = true → ini = true) (hde : fin = true → ∀ q, vwCl[c]? = some q → (q.2.1 k).1 = o) (ht : tagOf ty = 2) (ht2 : ∀ a, narrow ty (.ref a) = .ref a ∧ fits ty (.ref a) = true) (ho : okA n c i) (h : AW G o cc nL ret ini rm n0 Z (pc + 3) ls st n N (upR R c i k (some (c2, i2)))) : AW G o cc nL ret ini rm n0 Z pc ls (vR c2 i2 :: vR c i :: st) n N R :=
  A_putV hd F hfi hde ho (ht2 _).1 (ht2 _).2 ((slot_2 ht).trans (by rw [upR_s])) (fun j hj => ⟨rfl, upR_n hj⟩) (fun _ _ _ _ => rfl) upR_o h
theorem A_putN {idx c i k : Nat} {ty : FieldType} {fin : Bool} (hd : decode cc pc = .ok (.putfield idx, 3)) (F : FW o idx c k ty fin) (hfi : fin = true → ini = true) (hde : fin = true → ∀ q, vwCl[c]? = some q → (q.2.1 k).1 = o) (ht : tagOf ty = 2) (ht2 : narrow ty .null = .null ∧ fits ty .null = true) (ho : okA n c i) (h : AW G o cc nL ret ini rm n0 Z (pc + 3) ls st n N (upR R c i k none)) : AW G o cc nL ret ini rm n0 Z pc ls (vN :: vR c i :: st) n N R :=
  A_putV hd F hfi hde ho ht2.1 ht2.2 ((slot_2 ht).trans (by rw [upR_s])) (fun j hj => ⟨rfl, upR_n hj⟩) (fun _ _ _ _ => rfl) upR_o h
end AWH
end
section
/-! rows of arrays -/
theorem tys_at {G : GT} {c i : Nat} (h2 : 20 ≤ c) (h : i < cnt c) : (tys G)[tix c]? = some (gA G (tix c), aT c) := by
  have h1 := cnt_lt h
  obtain ⟨e1, e2⟩ := tix_ok c h1 h2 (by omega)
  unfold tys
  rw [List.getElem?_map, List.getElem?_range e2, Option.map_some, e1]
theorem ix_in {x : Int} {j n : Nat} (hj : wI x = (j : Int)) (hlt : j < n) : vp_in (Int32.ofInt x) n := by
  rw [vp_in_iff, oI_toInt, hj]
  omega
theorem ix_cl {x : Int} {j : Nat} (hj : wI x = (j : Int)) : (Int32.ofInt x).toNatClampNeg = j := by
  show (Int32.ofInt x).toInt.toNat = j
  rw [oI_toInt, hj]
  rfl
theorem arrE_0 {G : GT} {N : NN} {R : RR} {c i : Nat} (h : tagOf (aT c) = 0) : arrE G N R c i = .inl (fun j => Int32.ofInt (N c i j)) := by unfold arrE; rw [h]; rfl
theorem arrE_1 {G : GT} {N : NN} {R : RR} {c i : Nat} (h : tagOf (aT c) = 1) : arrE G N R c i = .inr (.inl (fun j => Int64.ofInt (N c i j))) := by unfold arrE; rw [h]; rfl
theorem arrE_2 {G : GT} {N : NN} {R : RR} {c i : Nat} (h : tagOf (aT c) = 2) : arrE G N R c i = .inr (.inr (.inr (.inr (fun j => (R c i j).map (ad G))))) := by unfold arrE; rw [h]; rfl
theorem tag_ref {t : FieldType} (h : tagOf t = 2) : t.isReference = true ∨ t = .float ∨ t = .double := by
  cases t <;> first | (cases h; done) | exact Or.inl rfl | exact Or.inr (Or.inl rfl) | exact Or.inr (Or.inr rfl)
def wB (x : Int) : Int := (vp_nar .byte (Int32.ofInt x)).toInt
section AWA
variable {G : GT} {o : String} {cc : ByteArray} {nL : Nat} {ret : Option FieldType} {ini : Bool} {rm : Room} {n0 : Nat} {Z : ZT} {pc : Nat} {ls : List (Nat × AV)} {st : List AV} {n : Nat} {N : NN} {R : RR}
theorem A_iald {c i j : Nat} {x : Int} (hd : decode cc pc = .ok (.iaload, 1)) (h2 : 20 ≤ c) (hT : aT c = .int) (ho : okA n c i) (hj : wI x = (j : Int)) (hlt : j < aN c) (h : AW G o cc nL ret ini rm n0 Z (pc + 1) ls (vI (N c i j) :: st) n N R) : AW G o cc nL ret ini rm n0 Z pc ls (vI x :: vR c i :: st) n N R := by
  intro p e s m args below meth cx H locs la C hn hP hS hz hl
  have ha := ws_at (G := G) (N := N) (R := R) ho
  rw [EE_arr h2, arrE_0 (by rw [hT]; rfl)] at ha
  refine va_iald C.1 C.2.1 C.2.2.2.2.2.2.2.2.2.1 hP _ _ ha (by rw [tys_at h2 ho.1, hT]) (ix_in hj hlt) hd ?_
  rw [ix_cl hj]
  exact h p e s m args below meth cx H locs la C hn hP hS hz hl
theorem A_bald {c i j : Nat} {x : Int} (hd : decode cc pc = .ok (.baload, 1)) (h2 : 20 ≤ c) (hT : aT c = .byte) (ho : okA n c i) (hj : wI x = (j : Int)) (hlt : j < aN c) (h : AW G o cc nL ret ini rm n0 Z (pc + 1) ls (vI (N c i j) :: st) n N R) : AW G o cc nL ret ini rm n0 Z pc ls (vI x :: vR c i :: st) n N R := by
  intro p e s m args below meth cx H locs la C hn hP hS hz hl
  have ha := ws_at (G := G) (N := N) (R := R) ho
  rw [EE_arr h2, arrE_0 (by rw [hT]; rfl)] at ha
  refine va_bald C.1 C.2.1 C.2.2.2.2.2.2.2.2.2.1 hP _ _ ha (by rw [tys_at h2 ho.1, hT]) (ix_in hj hlt) hd ?_
  rw [ix_cl hj]
  exact h p e s m args below meth cx H locs la C hn hP hS hz hl
theorem A_zald {c i j : Nat} {x : Int} (hd : decode cc pc = .ok (.baload, 1)) (h2 : 20 ≤ c) (hT : aT c = .boolean) (ho : okA n c i) (hj : wI x = (j : Int)) (hlt : j < aN c) (h : AW G o cc nL ret ini rm n0 Z (pc + 1) ls (vI (N c i j) :: st) n N R) : AW G o cc nL ret ini rm n0 Z pc ls (vI x :: vR c i :: st) n N R := by
  intro p e s m args below meth cx H locs la C hn hP hS hz hl
  have ha := ws_at (G := G) (N := N) (R := R) ho
  rw [EE_arr h2, arrE_0 (by rw [hT]; rfl)] at ha
  refine va_zald C.1 C.2.1 C.2.2.2.2.2.2.2.2.2.1 hP _ _ ha (by rw [tys_at h2 ho.1, hT]) (ix_in hj hlt) hd ?_
  rw [ix_cl hj]
  exact h p e s m args below meth cx H locs la C hn hP hS hz hl
theorem A_lald {c i j : Nat} {x : Int} (hd : decode cc pc = .ok (.laload, 1)) (h2 : 20 ≤ c) (hT : aT c = .long) (ho : okA n c i) (hj : wI x = (j : Int)) (hlt : j < aN c) (h : AW G o cc nL ret ini rm n0 Z (pc + 1) ls (vL (N c i j) :: st) n N R) : AW G o cc nL ret ini rm n0 Z pc ls (vI x :: vR c i :: st) n N R := by
  intro p e s m args below meth cx H locs la C hn hP hS hz hl
  have ha := ws_at (G := G) (N := N) (R := R) ho
  rw [EE_arr h2, arrE_1 (by rw [hT]; rfl)] at ha
  refine va_lald C.1 C.2.1 C.2.2.2.2.2.2.2.2.2.1 hP _ _ ha (by rw [tys_at h2 ho.1, hT]) (ix_in hj hlt) hd ?_
  rw [ix_cl hj]
  exact h p e s m args below meth cx H locs la C hn hP hS hz hl
theorem A_aald {c i j c2 i2 : Nat} {x : Int} (hd : decode cc pc = .ok (.aaload, 1)) (h2 : 20 ≤ c) (hT : tagOf (aT c) = 2 ∧ (aT c).isReference = true) (ho : okA n c i) (hj : wI x = (j : Int)) (hlt : j < aN c) (hr : R c i j = some (c2, i2)) (h : AW G o cc nL ret ini rm n0 Z (pc + 1) ls (vR c2 i2 :: st) n N R) : AW G o cc nL ret ini rm n0 Z pc ls (vI x :: vR c i :: st) n N R := by
  intro p e s m args below meth cx H locs la C hn hP hS hz hl
  have ha := ws_at (G := G) (N := N) (R := R) ho
  rw [EE_arr h2, arrE_2 hT.1] at ha
  have hin := ix_in hj hlt
  have hlt2 : (Int32.ofInt x).toNatClampNeg < aN c := by rw [ix_cl hj]; exact hlt
  refine W.aald (v := cv G (vR c2 i2)) (ty := aT c) C.1 C.2.1 (hP _ _ ha) ((C.2.2.2.2.2.2.2.2.2.1.2 _ _ (tys_at h2 ho.1)).1 (aN c) (fun j => va_rf ((R c i j).map (ad G)))) hT.2 (fun q => by cases q) (by show ¬ (_ ∨ (arrV _ _ _).slots.size ≤ _); rw [arrV_size]; exact hin) (by show (arrV _ _ _).slots[_]? = _; rw [arrV_read _ _ hlt2, ix_cl hj]; show some (va_rf ((R c i j).map (ad G))) = _; rw [hr]; rfl) rfl rfl hd ?_
  exact h p e s m args below meth cx H locs la C hn hP hS hz hl
theorem A_alen {c i : Nat} {v : Int} (hd : decode cc pc = .ok (.arraylength, 1)) (h2 : 20 ≤ c) (ho : okA n c i) (hv : (aN c : Int) = v) (h : AW G o cc nL ret ini rm n0 Z (pc + 1) ls (vI v :: st) n N R) : AW G o cc nL ret ini rm n0 Z pc ls (vR c i :: st) n N R := by
  intro p e s m args below meth cx H locs la C hn hP hS hz hl
  have ha := ws_at (G := G) (N := N) (R := R) ho
  rw [EE_arr h2] at ha
  subst hv
  exact va_alen C.1 C.2.1 C.2.2.2.2.2.2.2.2.2.1 hP _ _ ha (tys_at h2 ho.1) (v := Int32.ofInt (aN c : Int)) rfl hd (h p e s m args below meth cx H locs la C hn hP hS hz hl)
theorem upd_f {N : NN} {c i j : Nat} {v : Int} : (fun q => Int32.ofInt (up3 N c i j v c i q)) = upd (fun q => Int32.ofInt (N c i q)) j (Int32.ofInt v) := by
  funext q
  unfold upd
  by_cases e : q = j
  · subst e; rw [up3_s, if_pos rfl]
  · rw [up3_n e, if_neg e]
theorem A_iast {c i j : Nat} {x v : Int} (hd : decode cc pc = .ok (.iastore, 1)) (h2 : 20 ≤ c) (hT : aT c = .int) (ho : okA n c i) (hj : wI x = (j : Int)) (hlt : j < aN c) (h : AW G o cc nL ret ini rm n0 Z (pc + 1) ls st n (up3 N c i j v) R) : AW G o cc nL ret ini rm n0 Z pc ls (vI v :: vI x :: vR c i :: st) n N R := by
  intro p e s m args below meth cx H locs la C hn hP hS hz hl
  have ha := ws_at (G := G) (N := N) (R := R) ho
  rw [EE_arr h2, arrE_0 (by rw [hT]; rfl)] at ha
  refine W.iast C.1 C.2.1 (hP _ _ ha) (by have := (C.2.2.2.2.2.2.2.2.2.1.2 _ _ (tys_at (G := G) h2 ho.1)).1 (aN c) (fun q => .int (Int32.ofInt (N c i q))); rw [hT] at this; exact this) (fun q => by cases q) (by show ¬ (_ ∨ (arrV _ _ _).slots.size ≤ _); rw [arrV_size]; exact ix_in hj hlt) rfl rfl hd fun H1 e1 z oq => ?_
  refine h p e s m args below meth cx H1 _ la C hn (ws_put hP hn.1 ho ?_ oq up3_o (fun _ _ _ _ => rfl)) (hS.put z oq (ad_own ho.1)) (z.trans hz) hl
  rw [EE_arr h2, arrE_0 (by rw [hT]; rfl)]
  show H1[_]? = some (vp_cell _ _)
  rw [e1, vp_cell_i]
  show some ((arrV _ _ _).setSlot _ _) = _
  rw [arrV_store, ix_cl hj]
  show some (arrV (gA G (tix c)) (aN c) _) = some (arrV (gA G (tix c)) (aN c) (fun q => Value.int (Int32.ofInt (up3 N c i j v c i q))))
  refine congrArg some (congrArg (arrV (gA G (tix c)) (aN c)) (funext fun q => ?_))
  by_cases e : q = j
  · subst e; simp [updV, up3_s]
  · simp [updV, e, up3_n e]
theorem A_bast {c i j : Nat} {x v : Int} (hd : decode cc pc = .ok (.bastore, 1)) (h2 : 20 ≤ c) (hT : aT c = .byte) (ho : okA n c i) (hj : wI x = (j : Int)) (hlt : j < aN c) (h : AW G o cc nL ret ini rm n0 Z (pc + 1) ls st n (up3 N c i j (wB v)) R) : AW G o cc nL ret ini rm n0 Z pc ls (vI v :: vI x :: vR c i :: st) n N R := by
  intro p e s m args below meth cx H locs la C hn hP hS hz hl
  have ha := ws_at (G := G) (N := N) (R := R) ho
  rw [EE_arr h2, arrE_0 (by rw [hT]; rfl)] at ha
  refine W.bast C.1 C.2.1 (hP _ _ ha) (by have := (C.2.2.2.2.2.2.2.2.2.1.2 _ _ (tys_at (G := G) h2 ho.1)).1 (aN c) (fun q => .int (Int32.ofInt (N c i q))); rw [hT] at this; exact this) (fun q => by cases q) (by show ¬ (_ ∨ (arrV _ _ _).slots.size ≤ _); rw [arrV_size]; exact ix_in hj hlt) rfl rfl hd fun H1 e1 z oq => ?_
  refine h p e s m args below meth cx H1 _ la C hn (ws_put hP hn.1 ho ?_ oq up3_o (fun _ _ _ _ => rfl)) (hS.put z oq (ad_own ho.1)) (z.trans hz) hl
  rw [EE_arr h2, arrE_0 (by rw [hT]; rfl)]
  show H1[_]? = some (vp_cell _ _)
  rw [e1, vp_cell_i]
  show some ((arrV _ _ _).setSlot _ _) = _
  rw [arrV_store, ix_cl hj]
  show some (arrV (gA G (tix c)) (aN c) _) = some (arrV (gA G (tix c)) (aN c) (fun q => Value.int (Int32.ofInt (up3 N c i j (wB v) c i q))))
  refine congrArg some (congrArg (arrV (gA G (tix c)) (aN c)) (funext fun q => ?_))
  by_cases e : q = j
  · subst e
    simp only [updV, if_true, up3_s, wB, Int32.ofInt_toInt]
    first | rfl | simp [vp_nar, narrow]
  · simp [updV, e, up3_n e]
theorem A_zast {c i j : Nat} {x v : Int} (hd : decode cc pc = .ok (.bastore, 1)) (h2 : 20 ≤ c) (hT : aT c = .boolean) (ho : okA n c i) (hj : wI x = (j : Int)) (hlt : j < aN c) (hv : v = 0 ∨ v = 1) (h : AW G o cc nL ret ini rm n0 Z (pc + 1) ls st n (up3 N c i j v) R) : AW G o cc nL ret ini rm n0 Z pc ls (vI v :: vI x :: vR c i :: st) n N R := by
  intro p e s m args below meth cx H locs la C hn hP hS hz hl
  have ha := ws_at (G := G) (N := N) (R := R) ho
  rw [EE_arr h2, arrE_0 (by rw [hT]; rfl)] at ha
  refine W.zast C.1 C.2.1 (hP _ _ ha) (by have := (C.2.2.2.2.2.2.2.2.2.1.2 _ _ (tys_at (G := G) h2 ho.1)).1 (aN c) (fun q => .int (Int32.ofInt (N c i q))); rw [hT] at this; exact this) (fun q => by cases q) (by show ¬ (_ ∨ (arrV _ _ _).slots.size ≤ _); rw [arrV_size]; exact ix_in hj hlt) rfl rfl hd fun H1 e1 z oq => ?_
  refine h p e s m args below meth cx H1 _ la C hn (ws_put hP hn.1 ho ?_ oq up3_o (fun _ _ _ _ => rfl)) (hS.put z oq (ad_own ho.1)) (z.trans hz) hl
  rw [EE_arr h2, arrE_0 (by rw [hT]; rfl)]
  show H1[_]? = some (vp_cell _ _)
  rw [e1, vp_cell_i]
  show some ((arrV _ _ _).setSlot _ _) = _
  rw [arrV_store, ix_cl hj]
  show some (arrV (gA G (tix c)) (aN c) _) = some (arrV (gA G (tix c)) (aN c) (fun q => Value.int (Int32.ofInt (up3 N c i j v c i q))))
  refine congrArg some (congrArg (arrV (gA G (tix c)) (aN c)) (funext fun q => ?_))
  by_cases e : q = j
  · subst e
    simp only [updV, if_true, up3_s]
    rcases hv with rfl | rfl <;> rfl
  · simp [updV, e, up3_n e]
theorem A_last {c i j : Nat} {x v : Int} (hd : decode cc pc = .ok (.lastore, 1)) (h2 : 20 ≤ c) (hT : aT c = .long) (ho : okA n c i) (hj : wI x = (j : Int)) (hlt : j < aN c) (h : AW G o cc nL ret ini rm n0 Z (pc + 1) ls st n (up3 N c i j v) R) : AW G o cc nL ret ini rm n0 Z pc ls (vL v :: vI x :: vR c i :: st) n N R := by
  intro p e s m args below meth cx H locs la C hn hP hS hz hl
  have ha := ws_at (G := G) (N := N) (R := R) ho
  rw [EE_arr h2, arrE_1 (by rw [hT]; rfl)] at ha
  refine W.last C.1 C.2.1 (hP _ _ ha) (by have := (C.2.2.2.2.2.2.2.2.2.1.2 _ _ (tys_at (G := G) h2 ho.1)).1 (aN c) (fun q => .long (Int64.ofInt (N c i q))); rw [hT] at this; exact this) (fun q => by cases q) (by show ¬ (_ ∨ (arrV _ _ _).slots.size ≤ _); rw [arrV_size]; exact ix_in hj hlt) rfl rfl hd fun H1 e1 z oq => ?_
  refine h p e s m args below meth cx H1 _ la C hn (ws_put hP hn.1 ho ?_ oq up3_o (fun _ _ _ _ => rfl)) (hS.put z oq (ad_own ho.1)) (z.trans hz) hl
  rw [EE_arr h2, arrE_1 (by rw [hT]; rfl)]
  show H1[_]? = some (vp_cell _ _)
  rw [e1, vp_cell_l]
  show some ((arrV _ _ _).setSlot _ _) = _
  rw [arrV_store, ix_cl hj]
  show some (arrV (gA G (tix c)) (aN c) _) = some (arrV (gA G (tix c)) (aN c) (fun q => Value.long (Int64.ofInt (up3 N c i j v c i q))))
  refine congrArg some (congrArg (arrV (gA G (tix c)) (aN c)) (funext fun q => ?_))
  by_cases e : q = j
  · subst e; simp [updV, up3_s]
  · simp [updV, e, up3_n e]
end AWA
end
section
/-! contracts, returns, calls -/
def rmL (L n0 n1 : Nat) : Room := { frames := 8 + L, cells := n1 - n0, slots := su n1 - su n0, locals := 400 + 40 * L }
abbrev QT : Type := Option AV → NN → RR → Prop
def QcOf (G : GT) (n1 : Nat) (Q : QT) : Array Value → State → Outcome → State → Prop := fun _ st oc t =>
  (∃ (r : Option AV) (N' : NN) (R' : RR), oc = .returned (r.map (cv G)) ∧ Q r N' R' ∧ va_P (gD G) vwCl (ws G n1 N' R') t.heap ∧ t.heap.size = gB G + n1) ∧ va_F (own G) st t
def Wd (G : GT) (n : Nat) (N : NN) (R : RR) (U : State) : Prop := Ext G U U.heap ∧ va_K (gD G) vwCl (tys G) U ∧ va_P (gD G) vwCl (ws G n N R) U.heap ∧ U.heap.size = gB G + n
def Ctr (G : GT) (y : MethodName) (cc : ByteArray) (nL : Nat) (ret : Option FieldType) (L n0 n1 : Nat) (av : List AV) (N : NN) (R : RR) (Q : QT) : Prop :=
  Met (gl G) y (.code y cc nL ret :: ALL) (rmL L n0 n1) (va_Pc (av.map (cv G)) (Wd G n0 N R)) (QcOf G n1 Q) (n1 - n0) (su n1 - su n0) (own G)
def ZQ (G : GT) (n0 n1 : Nat) (Q : QT) : ZT := fun below args s => MQ below (QcOf G n1 Q) args s (n1 - n0) (su n1 - su n0) (own G)
def avl : Nat → List AV → List (Nat × AV)
  | _, [] => []
  | i, v :: vs => (i, v) :: avl (if isL v then i + 2 else i + 1) vs
theorem avl_cv (G : GT) : ∀ (i : Nat) (av : List AV), lv_args i (av.map (cv G)) = cvl G (avl i av)
  | _, [] => rfl
  | i, v :: vs => by
    show (i, cv G v) :: lv_args (if (cv G v).category = 2 then i + 2 else i + 1) (vs.map (cv G)) = (i, cv G v) :: cvl G (avl (if isL v then i + 2 else i + 1) vs)
    have e := cv_isL G v
    rw [avl_cv]
    cases hv : isL v
    · rw [hv] at e
      have e2 : ¬ (cv G v).category = 2 := by simpa using e
      rw [if_neg e2]
      rfl
    · rw [hv] at e
      have e2 : (cv G v).category = 2 := by simpa using e
      rw [if_pos e2]
      rfl
theorem Ctr.ofAW {G : GT} {y : MethodName} {cc : ByteArray} {nL : Nat} {ret : Option FieldType} {L n0 n1 : Nat} {av : List AV} {N : NN} {R : RR} {Q : QT} (o : String) (ini : Bool) (ho : y.cls = o) (hy : plainName y.cls = true) (hi : ini = true → y.name = "<init>") (hlen : (lg_sl (av.map (cv G))).length ≤ nL) (hn0 : n0 ≤ TOT)
    (h : AW G o cc nL ret ini (rmL L n0 n1) n0 (ZQ G n0 n1 Q) 0 (avl 0 av) [] n0 N R) : Ctr G y cc nL ret L n0 n1 av N R Q := by
  refine Met.ofW (cc := cc) (maxL := nL) (ret := ret) hy rfl ?_
  intro p e s m args below meth c s₁ B hml hv
  obtain ⟨rfl, hE, hK, hP, hz⟩ := hv
  have hts := atoms_spec B.pre
  rw [lg_entry_eq]
  have hl := lv_entry (av.map (cv G)) hlen
  rw [avl_cv] at hl
  have := h p e s m _ below meth c s.heap [] _ ⟨B.exec, B.bytes, hml, B.returns, B.notSynchronized, fun w hw => hts w (List.mem_cons_of_mem _ hw), by rw [← ho]; exact findClass_of_methodNamed B.named, fun q => by rw [(name_of_methodNamed B.named B.method).1]; exact hi q, hE, hK, hz⟩ ⟨hn0, Nat.le_refl _⟩ hP va_S.rf hz hl
  rw [Nat.sub_self, Nat.sub_self] at this
  exact this
theorem Ctr.mono {G : GT} {y : MethodName} {cc : ByteArray} {nL : Nat} {ret : Option FieldType} {L n0 n1 : Nat} {av : List AV} {N : NN} {R : RR} {Q Q' : QT} (h : Ctr G y cc nL ret L n0 n1 av N R Q) (hq : ∀ r N' R', Q r N' R' → Q' r N' R') : Ctr G y cc nL ret L n0 n1 av N R Q' := by
  intro p e ha hc hk s m args below hf happ hp htr
  obtain ⟨k, oc, h1, h2, h3, ⟨⟨r, N', R', g1, g2, g3⟩, g4⟩, h5⟩ := h p e ha hc hk s m args below hf happ hp htr
  exact ⟨k, oc, h1, h2, h3, ⟨⟨r, N', R', g1, hq _ _ _ g2, g3⟩, g4⟩, h5⟩
theorem all_good {ws : List Cond} (h : ∀ w ∈ ws, w ∈ ALL) : GoodIn ALL ws := fun w hw => ⟨h w hw, good_of_word (ALL_good (h w hw)).2⟩
section AWC
variable {G : GT} {o : String} {cc : ByteArray} {nL : Nat} {ret : Option FieldType} {ini : Bool} {rm : Room} {n0 : Nat} {Z : ZT} {pc : Nat} {ls : List (Nat × AV)} {st : List AV} {n : Nat} {N : NN} {R : RR} {Q : QT} {n1 : Nat}
theorem A_iret {x : Int} (hd : decode cc pc = .ok (.ireturn, 1)) (hq : Q (some (vI x)) N R) : AW G o cc nL (some .int) ini rm n0 (ZQ G n0 n1 Q) pc ls [vI x] n1 N R := by
  intro p e s m args below meth cx H locs la C hn hP hS hz hl
  refine W.iret C.1 C.2.1 C.2.2.2.1 (fun t ht _ => ⟨⟨some (vI x), N, R, rfl, hq, by rw [ht]; exact hP, by rw [ht]; exact hz⟩, hS.F ht⟩) hS.2.2 hd C.2.2.2.2.1
theorem A_zret {x : Int} (hd : decode cc pc = .ok (.ireturn, 1)) (hx : x = 0 ∨ x = 1) (hq : Q (some (vI x)) N R) : AW G o cc nL (some .boolean) ini rm n0 (ZQ G n0 n1 Q) pc ls [vI x] n1 N R := by
  intro p e s m args below meth cx H locs la C hn hP hS hz hl
  refine W.zret C.1 C.2.1 C.2.2.2.1 (by rcases hx with rfl | rfl <;> rfl) (fun t ht _ => ⟨⟨some (vI x), N, R, rfl, hq, by rw [ht]; exact hP, by rw [ht]; exact hz⟩, hS.F ht⟩) hS.2.2 hd C.2.2.2.2.1
theorem A_xret {x : Int} {ty : FieldType} (hd : decode cc pc = .ok (.ireturn, 1)) (hx : narrow ty (.int (Int32.ofInt x)) = .int (Int32.ofInt x)) (hq : Q (some (vI x)) N R) : AW G o cc nL (some ty) ini rm n0 (ZQ G n0 n1 Q) pc ls [vI x] n1 N R := by
  intro p e s m args below meth cx H locs la C hn hP hS hz hl
  refine W.zret C.1 C.2.1 C.2.2.2.1 hx (fun t ht _ => ⟨⟨some (vI x), N, R, rfl, hq, by rw [ht]; exact hP, by rw [ht]; exact hz⟩, hS.F ht⟩) hS.2.2 hd C.2.2.2.2.1
theorem A_lret {x : Int} (hd : decode cc pc = .ok (.lreturn, 1)) (hq : Q (some (vL x)) N R) : AW G o cc nL (some .long) ini rm n0 (ZQ G n0 n1 Q) pc ls [vL x] n1 N R := by
  intro p e s m args below meth cx H locs la C hn hP hS hz hl
  refine W.lret C.1 C.2.1 C.2.2.2.1 (fun t ht _ => ⟨⟨some (vL x), N, R, rfl, hq, by rw [ht]; exact hP, by rw [ht]; exact hz⟩, hS.F ht⟩) hS.2.2 hd C.2.2.2.2.1
theorem A_vret (hd : decode cc pc = .ok (.return_, 1)) (hq : Q none N R) : AW G o cc nL none ini rm n0 (ZQ G n0 n1 Q) pc ls [] n1 N R := by
  intro p e s m args below meth cx H locs la C hn hP hS hz hl
  refine W.vret C.1 C.2.1 C.2.2.2.1 (fun t ht _ => ⟨⟨none, N, R, rfl, hq, by rw [ht]; exact hP, by rw [ht]; exact hz⟩, hS.F ht⟩) hS.2.2 hd C.2.2.2.2.1
theorem A_aret {r : Option (Nat × Nat)} {C0 : String} (hd : decode cc pc = .ok (.areturn, 1)) (hq : Q (some (.inr (.inr r))) N R) : AW G o cc nL (some (.object C0)) ini rm n0 (ZQ G n0 n1 Q) pc ls [.inr (.inr r)] n1 N R := by
  intro p e s m args below meth cx H locs la C hn hP hS hz hl
  refine W.aret C.1 C.2.1 C.2.2.2.1 (Or.inl ⟨_, rfl⟩) (by cases r with | none => exact Or.inl rfl | some a => exact Or.inr ⟨_, rfl⟩) (fun t ht _ => ⟨⟨some (.inr (.inr r)), N, R, rfl, hq, by rw [ht]; exact hP, by rw [ht]; exact hz⟩, hS.F ht⟩) hS.2.2 hd C.2.2.2.2.1
theorem A_ofRun {p : Program} {e : Env} {s : State} {m : MethodId} {args : Array Value} {below : List Frame} {meth : Method} {c : Code} {H : Heap} {locs : List Loc} {la : Array Slot} {st0 : List Value} {a : Array Value}
    (hr : va_Run p (gl G) e rm s m args below meth c H locs (n - n0) (su n - su n0) (n1 - n) (su n1 - su n) (F0 m pc la st0) (st.map (cv G)) (QcOf G n1 Q a) (own G)) (C : AC G o cc nL ret ini n0 p s m args meth c) (hn : n0 ≤ n ∧ n ≤ n1 ∧ n1 ≤ TOT) (hS : va_S (own G) s.heap H locs) (hl : lv_has la nL (cvl G ls))
    (kk : ∀ r N' R', Q r N' R' → AW G o cc nL ret ini rm n0 Z (pc + 3) ls (r.toList ++ st) n1 N' R') : W p (gl G) e rm s m args below meth c H locs (n - n0) (su n - su n0) (Z below args s) (F0 m pc la st0) := by
  intro T hT X
  obtain ⟨v, st₀, t, T', L, h0, X', hL, e1, e2, ⟨⟨r, N', R', hv, hq, hP1, hz1⟩, hz, hk⟩, stp⟩ := hr T hT X
  cases hv
  rw [h0] at hz hk
  have hS1 : va_S (own G) s.heap T'.heap (locs ++ L) := ⟨Nat.le_trans hS.1 (by rw [e1]; exact hz), fun q h1 h2 => by rw [e1, hk q (Nat.lt_of_lt_of_le h1 hS.1) h2]; exact hS.2.1 q h1 h2, fun q hq => by
    rcases List.mem_append.mp hq with h | h
    · exact hS.2.2 q h
    · exact hL q h⟩
  have w := kk r N' R' hq p e s m args below meth c T'.heap (locs ++ L) la C ⟨hn.2.2, Nat.le_trans hn.1 hn.2.1⟩ (by rw [e1]; exact hP1) hS1 (by rw [e1]; exact hz1) hl
  have m1 := su_mono hn.1
  have m2 := su_mono hn.2.1
  have c1 : n1 - n0 = n - n0 + (n1 - n) := by omega
  have c2 : su n1 - su n0 = su n - su n0 + (su n1 - su n) := by omega
  rw [c1, c2] at w
  obtain ⟨t2, a1, b1⟩ := w T' rfl X'
  refine ⟨t2, stp t2 ?_, b1⟩
  have es : (r.map (cv G)).toList ++ st.map (cv G) = (r.toList ++ st).map (cv G) := by cases r <;> rfl
  rw [es]
  exact a1
theorem Wd_blind (av : List Value) : FrameBlind (va_Pc av (Wd G n N R)) := fun a U g mk q => by
  obtain ⟨q0, hE, hK, hP, hz⟩ := q
  exact ⟨q0, Ext.warm (s := U) (U := U.calling g mk a) (State.WarmedH.refl U) hE, va_K.moved (u := U) (U := U.calling g mk a) (Vm.Alike.refl U.vm) hK, hP, hz⟩
theorem Wd_now {p : Program} {s : State} {m : MethodId} {args : Array Value} {meth : Method} {c : Code} {H : Heap} {locs : List Loc} (C : AC G o cc nL ret ini n0 p s m args meth c) (hP : va_P (gD G) vwCl (ws G n N R) H) (hS : va_S (own G) s.heap H locs) (hz : H.size = gB G + n) (U : State) (hU : U.heap = H) (hW : s.WarmedH U.vm) : Wd G n N R U := by
  refine ⟨?_, va_K.moved hW.alike C.2.2.2.2.2.2.2.2.2.1, by rw [hU]; exact hP, by rw [hU]; exact hz⟩
  rw [hU]
  exact Ext.warm hW ((C.2.2.2.2.2.2.2.2.1).kept hS.1 hS.2.1)
/-- what the tables say of a method that entry idx of the class o names -/
def MW (y : MethodName) (cc' : ByteArray) (nL' : Nat) (ret' : Option FieldType) (np : Nat) : Prop :=
  Cond.initialized y.cls ∈ ALL ∧ Cond.code y cc' nL' ret' ∈ ALL ∧ (y.cls ≠ "java/lang/invoke/MethodHandle" ∧ y.cls ≠ "java/lang/invoke/VarHandle" ∧ (parseMethodDescriptor y.desc).map (fun d => d.parameters.length) = some np)
def MWV (o : String) (idx : Nat) (y : MethodName) : Prop := Cond.methodLink o idx y ∈ ALL ∧ Cond.instanceMethod y ∈ ALL ∧ Cond.selects y.cls y y ∈ ALL
def MWS (o : String) (idx : Nat) (y : MethodName) : Prop := Cond.methodLink o idx y ∈ ALL ∧ Cond.static y ∈ ALL
def MWI (o : String) (idx : Nat) (y : MethodName) : Prop := Cond.methodLink o idx y ∈ ALL ∧ Cond.instanceMethod y ∈ ALL ∧ y.name = "<init>"
def MWN (o : String) (idx : Nat) (y : MethodName) : Prop := (o, idx, y, "LayerBook") ∈ nestM ∧ Cond.instanceMethod y ∈ ALL ∧ y.name = "<init>"
theorem st_room {st : List AV} {m : MethodId} {pc : Nat} {la : Array Slot} {s0 : List Value} (h : (st.map fun v => if isL v then 2 else 1).sum ≤ 8) : 2 * (F0 m pc la s0).monitorRoom + ((st.map (cv G)).map fun v => v.category).sum ≤ 8 := by
  apply lv_room
  rw [List.map_map]
  have e : (st.map ((fun v => v.category) ∘ cv G)) = st.map fun v => if isL v then 2 else 1 := by
    apply List.map_congr_left
    intro v _
    show (cv G v).category = _
    cases hv : isL v
    · exact cv_c1 hv
    · exact cv_c2 hv
  rw [e]
  exact h
theorem A_callV {idx c i np L nL' : Nat} {y : MethodName} {cc' : ByteArray} {ret' : Option FieldType} {av : List AV} {C0 : String} {T0 : u_T} {k0 : Nat} (hd : decode cc pc = .ok (.invokevirtual idx, 3)) (hw : MWV o idx y) (hm : MW y cc' nL' ret' np) (hrv : vwCl[c]? = some (C0, T0, k0) ∧ y.cls = C0 ∧ c < 11) (ho : okA n c i) (hnp : av.length = np) (hst : (st.map fun v => if isL v then 2 else 1).sum ≤ 8)
    (hn1 : n ≤ n1 ∧ n1 ≤ TOT) (hro : (rmL L n n1).frames + 1 ≤ rm.frames ∧ 8 + (nL' + 11) + (rmL L n n1).locals ≤ rm.locals) (hce : n1 - n0 ≤ rm.cells ∧ su n1 - su n0 ≤ rm.slots)
    (h : Ctr G y cc' nL' ret' L n n1 (vR c i :: av) N R (fun r N' R' => AW G o cc nL ret ini rm n0 Z (pc + 3) ls (r.toList ++ st) n1 N' R')) {stk : List AV} (hs : stk = av.reverse ++ vR c i :: st) : AW G o cc nL ret ini rm n0 Z pc ls stk n N R := by
  intro p e s m args below meth cx H locs la C hn hP hS hz hl
  subst hs
  have ha := ws_at (G := G) (N := N) (R := R) ho
  rw [EE_obj hrv.2.2] at ha
  have hts := C.2.2.2.2.2.1
  have had : cv G (vR c i) = .ref (ad G (c, i)) := rfl
  have m1 := su_mono hn.2
  have m2 := su_mono hn1.1
  refine A_ofRun (G := G) (o := o) (cc := cc) (nL := nL) (ret := ret) (ini := ini) (ls := ls) (Z := Z) (Q := fun r N' R' => AW G o cc nL ret ini rm n0 Z (pc + 3) ls (r.toList ++ st) n1 N' R') (a := (Value.ref (ad G (c, i)) :: av.map (cv G)).toArray) (va_runV (As := av.map (cv G)) (b := ad G (c, i)) ⟨C.1, C.2.1, C.2.2.1, C.2.2.2.2.2.2.1, hts⟩ h (cwV (C := y.cls) np hts (all_good (fun w hw2 => ?_)) rfl rfl rfl ⟨rfl, hm.2.2⟩ hro) ⟨Wd_blind _, ?_, fun U hU hW => ⟨rfl, Wd_now C hP hS hz U hU hW⟩⟩ rfl (by rw [List.length_map]; exact hnp) hl.1 ?_ (st_room hst) hd ⟨by omega, by omega⟩) C ⟨hn.2, hn1⟩ hS hl (fun r N' R' q => q)
  · unfold wsV at hw2
    simp only [List.cons_append, List.nil_append, List.mem_cons] at hw2
    rcases hw2 with rfl | rfl | rfl | rfl | rfl | hw2
    · exact hw.1
    · exact hw.2.1
    · exact hw.2.2
    · exact hm.1
    · exact hm.2.1
    · exact hw2
  · have := va_recv C.2.2.2.2.2.2.2.2.2.1 hP hrv.1 ha
    rwa [hrv.2.1]
  · show (av.reverse ++ vR c i :: st).map (cv G) = (av.map (cv G)).reverse ++ .ref (ad G (c, i)) :: st.map (cv G)
    rw [List.map_append, List.map_reverse]
    rfl
theorem A_callS {idx np L nL' : Nat} {y : MethodName} {cc' : ByteArray} {ret' : Option FieldType} {av : List AV} (hd : decode cc pc = .ok (.invokestatic idx, 3)) (hw : MWS o idx y) (hm : MW y cc' nL' ret' np) (hnp : av.length = np) (hst : (st.map fun v => if isL v then 2 else 1).sum ≤ 8)
    (hn1 : n ≤ n1 ∧ n1 ≤ TOT) (hro : (rmL L n n1).frames + 1 ≤ rm.frames ∧ 8 + (nL' + 11) + (rmL L n n1).locals ≤ rm.locals) (hce : n1 - n0 ≤ rm.cells ∧ su n1 - su n0 ≤ rm.slots)
    (h : Ctr G y cc' nL' ret' L n n1 av N R (fun r N' R' => AW G o cc nL ret ini rm n0 Z (pc + 3) ls (r.toList ++ st) n1 N' R')) {stk : List AV} (hs : stk = av.reverse ++ st) : AW G o cc nL ret ini rm n0 Z pc ls stk n N R := by
  intro p e s m args below meth cx H locs la C hn hP hS hz hl
  subst hs
  have hts := C.2.2.2.2.2.1
  have m1 := su_mono hn.2
  have m2 := su_mono hn1.1
  refine A_ofRun (G := G) (o := o) (cc := cc) (nL := nL) (ret := ret) (ini := ini) (ls := ls) (Z := Z) (Q := fun r N' R' => AW G o cc nL ret ini rm n0 Z (pc + 3) ls (r.toList ++ st) n1 N' R') (a := (av.map (cv G)).toArray) (va_runS (As := av.map (cv G)) ⟨C.1, C.2.1, C.2.2.1, C.2.2.2.2.2.2.1, hts⟩ h (va_cwS np hts (all_good (fun w hw2 => ?_)) rfl rfl rfl hm.2.2 hro) ⟨Wd_blind _, fun U hU hW => ⟨rfl, Wd_now C hP hS hz U hU hW⟩⟩ rfl (by rw [List.length_map]; exact hnp) hl.1 ?_ (st_room hst) hd ⟨by omega, by omega⟩) C ⟨hn.2, hn1⟩ hS hl (fun r N' R' q => q)
  · unfold va_wsS at hw2
    simp only [List.cons_append, List.nil_append, List.mem_cons] at hw2
    rcases hw2 with rfl | rfl | rfl | rfl | hw2
    · exact hw.1
    · exact hw.2
    · exact hm.1
    · exact hm.2.1
    · exact hw2
  · show (av.reverse ++ st).map (cv G) = (av.map (cv G)).reverse ++ st.map (cv G)
    rw [List.map_append, List.map_reverse]
theorem A_callI {idx c i np L nL' : Nat} {y : MethodName} {cc' : ByteArray} {av : List AV} (hd : decode cc pc = .ok (.invokespecial idx, 3)) (hw : MWI o idx y) (hm : MW y cc' nL' none np) (hnp : av.length = np) (hst : (st.map fun v => if isL v then 2 else 1).sum ≤ 8)
    (hn1 : n ≤ n1 ∧ n1 ≤ TOT) (hro : (rmL L n n1).frames + 1 ≤ rm.frames ∧ 8 + (nL' + 11) + (rmL L n n1).locals ≤ rm.locals) (hce : n1 - n0 ≤ rm.cells ∧ su n1 - su n0 ≤ rm.slots)
    (h : Ctr G y cc' nL' none L n n1 (vR c i :: av) N R (fun r N' R' => AW G o cc nL ret ini rm n0 Z (pc + 3) ls (r.toList ++ st) n1 N' R')) {stk : List AV} (hs : stk = av.reverse ++ vR c i :: st) : AW G o cc nL ret ini rm n0 Z pc ls stk n N R := by
  intro p e s m args below meth cx H locs la C hn hP hS hz hl
  subst hs
  have hts := C.2.2.2.2.2.1
  have m1 := su_mono hn.2
  have m2 := su_mono hn1.1
  refine A_ofRun (G := G) (o := o) (cc := cc) (nL := nL) (ret := ret) (ini := ini) (ls := ls) (Z := Z) (Q := fun r N' R' => AW G o cc nL ret ini rm n0 Z (pc + 3) ls (r.toList ++ st) n1 N' R') (a := (Value.ref (ad G (c, i)) :: av.map (cv G)).toArray) (va_runI (As := av.map (cv G)) (b := ad G (c, i)) ⟨C.1, C.2.1, C.2.2.1, C.2.2.2.2.2.2.1, hts⟩ h (cwI np hts (all_good (fun w hw2 => ?_)) rfl rfl rfl (hts _ hm.1) (hts _ hw.1) (hts _ hw.2.1) hw.2.2 hm.2.2 hro) ⟨Wd_blind _, fun U hU hW => ⟨rfl, Wd_now C hP hS hz U hU hW⟩⟩ rfl (by rw [List.length_map]; exact hnp) hl.1 ?_ (st_room hst) hd ⟨by omega, by omega⟩) C ⟨hn.2, hn1⟩ hS hl (fun r N' R' q => q)
  · rcases List.mem_cons.mp hw2 with rfl | hw2
    · exact hm.2.1
    · exact hw2
  · show (av.reverse ++ vR c i :: st).map (cv G) = (av.map (cv G)).reverse ++ .ref (ad G (c, i)) :: st.map (cv G)
    rw [List.map_append, List.map_reverse]
    rfl
theorem A_callN {idx c i np L nL' : Nat} {y : MethodName} {cc' : ByteArray} {av : List AV} (hd : decode cc pc = .ok (.invokespecial idx, 3)) (hw : MWN o idx y) (hm : MW y cc' nL' none np) (hnp : av.length = np) (hst : (st.map fun v => if isL v then 2 else 1).sum ≤ 8)
    (hn1 : n ≤ n1 ∧ n1 ≤ TOT) (hro : (rmL L n n1).frames + 1 ≤ rm.frames ∧ 8 + (nL' + 11) + (rmL L n n1).locals ≤ rm.locals) (hce : n1 - n0 ≤ rm.cells ∧ su n1 - su n0 ≤ rm.slots)
    (h : Ctr G y cc' nL' none L n n1 (vR c i :: av) N R (fun r N' R' => AW G o cc nL ret ini rm n0 Z (pc + 3) ls (r.toList ++ st) n1 N' R')) {stk : List AV} (hs : stk = av.reverse ++ vR c i :: st) : AW G o cc nL ret ini rm n0 Z pc ls stk n N R := by
  intro p e s m args below meth cx H locs la C hn hP hS hz hl
  subst hs
  have hts := C.2.2.2.2.2.1
  have m1 := su_mono hn.2
  have m2 := su_mono hn1.1
  refine A_ofRun (G := G) (o := o) (cc := cc) (nL := nL) (ret := ret) (ini := ini) (ls := ls) (Z := Z) (Q := fun r N' R' => AW G o cc nL ret ini rm n0 Z (pc + 3) ls (r.toList ++ st) n1 N' R') (a := (Value.ref (ad G (c, i)) :: av.map (cv G)).toArray) (va_runIN (As := av.map (cv G)) (b := ad G (c, i)) (host := "LayerBook") ⟨C.1, C.2.1, C.2.2.1, C.2.2.2.2.2.2.1, hts⟩ h ⟨va_cnB np hts (all_good (fun w hw2 => ?_)) rfl rfl rfl (C.2.2.2.2.2.2.2.2.1.2.2.2.2.2.2.1 _ hw.1) (hts _ hm.1) hm.2.2 hro, hw.2.2, hts _ hw.2.1⟩ ⟨Wd_blind _, fun U hU hW => ⟨rfl, Wd_now C hP hS hz U hU hW⟩⟩ rfl (by rw [List.length_map]; exact hnp) hl.1 ?_ (st_room hst) hd ⟨by omega, by omega⟩) C ⟨hn.2, hn1⟩ hS hl (fun r N' R' q => q)
  · rcases List.mem_cons.mp hw2 with rfl | hw2
    · exact hm.2.1
    · exact hw2
  · show (av.reverse ++ vR c i :: st).map (cv G) = (av.map (cv G)).reverse ++ .ref (ad G (c, i)) :: st.map (cv G)
    rw [List.map_append, List.map_reverse]
    rfl
end AWC
end
section
/-! the words of our classes, by their places -/
theorem mTp {i : Nat} {q : MethodName × Nat} (h : lw_privs[i]? = some q) : Cond.selects q.1.cls q.1 q.1 ∈ ALL := List.mem_filter.mpr ⟨List.mem_append_left _ (List.mem_map.mpr ⟨q, List.mem_of_getElem? h, rfl⟩), rfl⟩
theorem mTt {w : Cond} (h : w ∈ tables_1) (g : goodWord w = true) : w ∈ ALL := List.mem_filter.mpr ⟨List.mem_append_right _ h, g⟩
theorem mT1 {i : Nat} {w : Cond} (h : tables_1_1[i]? = some w) (g : goodWord w = true) : w ∈ ALL := mTt (show w ∈ tables_1 from List.mem_append_left _ (List.mem_of_getElem? h)) g
theorem mT2 {i : Nat} {w : Cond} (h : tables_1_2[i]? = some w) (g : goodWord w = true) : w ∈ ALL := mTt (show w ∈ tables_1 from List.mem_append_right _ (List.mem_append_left _ (List.mem_of_getElem? h))) g
theorem mT3 {i : Nat} {w : Cond} (h : tables_1_3[i]? = some w) (g : goodWord w = true) : w ∈ ALL := mTt (show w ∈ tables_1 from List.mem_append_right _ (List.mem_append_right _ (List.mem_append_left _ (List.mem_of_getElem? h)))) g
theorem mT4 {i : Nat} {w : Cond} (h : tables_1_4[i]? = some w) (g : goodWord w = true) : w ∈ ALL := mTt (show w ∈ tables_1 from List.mem_append_right _ (List.mem_append_right _ (List.mem_append_right _ (List.mem_append_left _ (List.mem_of_getElem? h))))) g
theorem mT5 {i : Nat} {w : Cond} (h : tables_1_5[i]? = some w) (g : goodWord w = true) : w ∈ ALL := mTt (show w ∈ tables_1 from List.mem_append_right _ (List.mem_append_right _ (List.mem_append_right _ (List.mem_append_right _ (List.mem_append_left _ (List.mem_of_getElem? h)))))) g
theorem mT6 {i : Nat} {w : Cond} (h : tables_1_6[i]? = some w) (g : goodWord w = true) : w ∈ ALL := mTt (show w ∈ tables_1 from List.mem_append_right _ (List.mem_append_right _ (List.mem_append_right _ (List.mem_append_right _ (List.mem_append_right _ (List.mem_append_left _ (List.mem_of_getElem? h))))))) g
theorem mT7 {i : Nat} {w : Cond} (h : tables_1_7[i]? = some w) (g : goodWord w = true) : w ∈ ALL := mTt (show w ∈ tables_1 from List.mem_append_right _ (List.mem_append_right _ (List.mem_append_right _ (List.mem_append_right _ (List.mem_append_right _ (List.mem_append_right _ (List.mem_of_getElem? h))))))) g
theorem CF0 : CF 0 RX0 TX0 10 := by
  refine ⟨rfl, rfl, by decide, ?_, tyX0_ok, nmX0⟩
  intro w hw
  obtain ⟨k, hk, rfl⟩ := List.mem_map.mp hw
  have hk := List.mem_range.mp hk
  have key : ∀ k, k < 10 → lw_tbl[([247, 249, 251, 253, 255, 257, 259, 261, 263, 265] : List Nat).getD k 0]? = some (u_lay RX0 TX0 k) ∧ goodWord (u_lay RX0 TX0 k) = true := by decide +kernel
  exact mALL _ (key k hk).1 (key k hk).2
theorem CF1 : CF 1 RX1 TX1 5 := by
  refine ⟨rfl, rfl, by decide, ?_, tyX1_ok, nmX1⟩
  intro w hw
  obtain ⟨k, hk, rfl⟩ := List.mem_map.mp hw
  have hk := List.mem_range.mp hk
  have key : ∀ k, k < 5 → lw_tbl[([385, 387, 389, 391, 393] : List Nat).getD k 0]? = some (u_lay RX1 TX1 k) ∧ goodWord (u_lay RX1 TX1 k) = true := by decide +kernel
  exact mALL _ (key k hk).1 (key k hk).2
theorem CF2 : CF 2 RX2 TX2 8 := by
  refine ⟨rfl, rfl, by decide, ?_, tyX2_ok, nmX2⟩
  intro w hw
  obtain ⟨k, hk, rfl⟩ := List.mem_map.mp hw
  have hk := List.mem_range.mp hk
  have key : ∀ k, k < 8 → lw_tbl[([134, 136, 138, 140, 142, 144, 146, 148] : List Nat).getD k 0]? = some (u_lay RX2 TX2 k) ∧ goodWord (u_lay RX2 TX2 k) = true := by decide +kernel
  exact mALL _ (key k hk).1 (key k hk).2
theorem CF3 : CF 3 RX3 TX3 13 := by
  refine ⟨rfl, rfl, by decide, ?_, tyX3_ok, nmX3⟩
  intro w hw
  obtain ⟨k, hk, rfl⟩ := List.mem_map.mp hw
  have hk := List.mem_range.mp hk
  have key : ∀ k, k < 13 → lw_tbl[([308, 310, 312, 314, 316, 318, 320, 322, 324, 326, 328, 330, 332] : List Nat).getD k 0]? = some (u_lay RX3 TX3 k) ∧ goodWord (u_lay RX3 TX3 k) = true := by decide +kernel
  exact mALL _ (key k hk).1 (key k hk).2
theorem CF4 : CF 4 RX4 TX4 2 := by
  refine ⟨rfl, rfl, by decide, ?_, tyX4_ok, nmX4⟩
  intro w hw
  obtain ⟨k, hk, rfl⟩ := List.mem_map.mp hw
  have hk := List.mem_range.mp hk
  have key : ∀ k, k < 2 → lw_tbl[([416, 418] : List Nat).getD k 0]? = some (u_lay RX4 TX4 k) ∧ goodWord (u_lay RX4 TX4 k) = true := by decide +kernel
  exact mALL _ (key k hk).1 (key k hk).2
theorem CF5 : CF 5 RX5 TX5 9 := by
  refine ⟨rfl, rfl, by decide, ?_, tyX5_ok, nmX5⟩
  intro w hw
  obtain ⟨k, hk, rfl⟩ := List.mem_map.mp hw
  have hk := List.mem_range.mp hk
  have key : ∀ k, k < 9 → lw_tbl[([211, 213, 215, 217, 219, 221, 223, 225, 227] : List Nat).getD k 0]? = some (u_lay RX5 TX5 k) ∧ goodWord (u_lay RX5 TX5 k) = true := by decide +kernel
  exact mALL _ (key k hk).1 (key k hk).2
theorem CF6 : CF 6 RX6 TX6 7 := by
  refine ⟨rfl, rfl, by decide, ?_, tyX6_ok, nmX6⟩
  intro w hw
  obtain ⟨k, hk, rfl⟩ := List.mem_map.mp hw
  have hk := List.mem_range.mp hk
  have key : ∀ k, k < 7 → lw_tbl[([165, 167, 169, 171, 173, 175, 177] : List Nat).getD k 0]? = some (u_lay RX6 TX6 k) ∧ goodWord (u_lay RX6 TX6 k) = true := by decide +kernel
  exact mALL _ (key k hk).1 (key k hk).2
theorem CF7 : CF 7 RX7 TX7 3 := by
  refine ⟨rfl, rfl, by decide, ?_, tyX7_ok, nmX7⟩
  intro w hw
  obtain ⟨k, hk, rfl⟩ := List.mem_map.mp hw
  have hk := List.mem_range.mp hk
  have key : ∀ k, k < 3 → lw_tbl[([431, 433, 435] : List Nat).getD k 0]? = some (u_lay RX7 TX7 k) ∧ goodWord (u_lay RX7 TX7 k) = true := by decide +kernel
  exact mALL _ (key k hk).1 (key k hk).2
theorem CF8 : CF 8 RX8 TX8 6 := by
  refine ⟨rfl, rfl, by decide, ?_, tyX8_ok, nmX8⟩
  intro w hw
  obtain ⟨k, hk, rfl⟩ := List.mem_map.mp hw
  have hk := List.mem_range.mp hk
  have key : ∀ k, k < 6 → lw_tbl[([354, 356, 358, 360, 362, 364] : List Nat).getD k 0]? = some (u_lay RX8 TX8 k) ∧ goodWord (u_lay RX8 TX8 k) = true := by decide +kernel
  exact mALL _ (key k hk).1 (key k hk).2
theorem CF9 : CF 9 RX9 TX9 15 := by
  refine ⟨rfl, rfl, by decide, ?_, tyX9_ok, nmX9⟩
  intro w hw
  obtain ⟨k, hk, rfl⟩ := List.mem_map.mp hw
  have hk := List.mem_range.mp hk
  have key : ∀ k, k < 15 → lw_tbl[([453, 455, 457, 459, 461, 463, 465, 467, 469, 471, 473, 475, 477, 479, 481] : List Nat).getD k 0]? = some (u_lay RX9 TX9 k) ∧ goodWord (u_lay RX9 TX9 k) = true := by decide +kernel
  exact mALL _ (key k hk).1 (key k hk).2
theorem CF10 : CF 10 RX10 TX10 81 := by
  refine ⟨rfl, rfl, by decide, ?_, tyX10_ok, nmX10⟩
  intro w hw
  obtain ⟨k, hk, rfl⟩ := List.mem_map.mp hw
  have hk := List.mem_range.mp hk
  have key : ∀ k, k < 81 → lw_tbl[([1194, 1196, 1198, 1200, 1202, 1204, 1206, 1208, 1210, 1212, 1214, 1216, 1218, 1220, 1222, 1224, 1226, 1228, 1230, 1232, 1234, 1236, 1238, 1240, 1242, 1244, 1246, 1248, 1250, 1252, 1254, 1256, 1258, 1260, 1262, 1264, 1266, 1268, 1270, 1272, 1274, 1276, 1278, 1280, 1282, 1284, 1286, 1288, 1290, 1292, 1294, 1296, 1298, 1300, 1302, 1304, 1306, 1308, 1310, 1312, 1314, 1316, 1318, 1320, 1322, 1324, 1326, 1328, 1330, 1332, 1334, 1336, 1338, 1340, 1342, 1344, 1346, 1348, 1350, 1352, 1354] : List Nat).getD k 0]? = some (u_lay RX10 TX10 k) ∧ goodWord (u_lay RX10 TX10 k) = true := by decide +kernel
  exact mALL _ (key k hk).1 (key k hk).2
theorem fX0_11 : FW RX0 11 0 0 (.array (.object "LayerBook$Paper")) true := ⟨RX0, TX0, 10, CF0, (mT1 (i := 159) rfl rfl), by decide, rfl, rfl⟩
theorem fX0_17 : FW RX0 17 0 2 .int false := ⟨RX0, TX0, 10, CF0, (mT1 (i := 163) rfl rfl), by decide, rfl, rfl⟩
theorem fX0_21 : FW RX0 21 0 3 .int false := ⟨RX0, TX0, 10, CF0, (mT1 (i := 165) rfl rfl), by decide, rfl, rfl⟩
theorem fX0_28 : FW RX0 28 0 4 .long false := ⟨RX0, TX0, 10, CF0, (mT1 (i := 167) rfl rfl), by decide, rfl, rfl⟩
theorem fX0_32 : FW RX0 32 0 5 .boolean false := ⟨RX0, TX0, 10, CF0, (mT1 (i := 169) rfl rfl), by decide, rfl, rfl⟩
theorem fX0_36 : FW RX0 36 0 6 .int false := ⟨RX0, TX0, 10, CF0, (mT1 (i := 171) rfl rfl), by decide, rfl, rfl⟩
theorem fX0_39 : FW RX0 39 0 7 .long false := ⟨RX0, TX0, 10, CF0, (mT1 (i := 172) rfl rfl), by decide, rfl, rfl⟩
theorem fX0_42 : FW RX0 42 0 8 .long false := ⟨RX0, TX0, 10, CF0, (mT1 (i := 173) rfl rfl), by decide, rfl, rfl⟩
theorem fX0_45 : FW RX0 45 0 9 .long false := ⟨RX0, TX0, 10, CF0, (mT1 (i := 174) rfl rfl), by decide, rfl, rfl⟩
theorem fX0_52 : FW RX0 52 0 1 .int false := ⟨RX0, TX0, 10, CF0, (mT1 (i := 161) rfl rfl), by decide, rfl, rfl⟩
theorem fX0_55 : FW RX0 55 3 6 .long false := ⟨RX3, TX3, 13, CF3, (mT1 (i := 218) rfl rfl), by decide, rfl, rfl⟩
theorem fX0_60 : FW RX0 60 3 8 .long false := ⟨RX3, TX3, 13, CF3, (mT1 (i := 224) rfl rfl), by decide, rfl, rfl⟩
theorem fX0_75 : FW RX0 75 3 5 .long false := ⟨RX3, TX3, 13, CF3, (mT1 (i := 216) rfl rfl), by decide, rfl, rfl⟩
theorem fX0_85 : FW RX0 85 3 7 .long false := ⟨RX3, TX3, 13, CF3, (mT1 (i := 221) rfl rfl), by decide, rfl, rfl⟩
theorem fX0_97 : FW RX0 97 3 12 (.array .long) true := ⟨RX3, TX3, 13, CF3, (mT1 (i := 235) rfl rfl), by decide, rfl, rfl⟩
theorem fX0_101 : FW RX0 101 4 1 .int false := ⟨RX4, TX4, 2, CF4, (mT2 (i := 103) rfl rfl), by decide, rfl, rfl⟩
theorem fX0_104 : FW RX0 104 4 0 (.array (.array .int)) true := ⟨RX4, TX4, 2, CF4, (mT2 (i := 100) rfl rfl), by decide, rfl, rfl⟩
theorem fX0_130 : FW RX0 130 3 9 .int false := ⟨RX3, TX3, 13, CF3, (mT1 (i := 229) rfl rfl), by decide, rfl, rfl⟩
theorem fX0_137 : FW RX0 137 5 2 .long false := ⟨RX5, TX5, 9, CF5, (mT1 (i := 127) rfl rfl), by decide, rfl, rfl⟩
theorem fX0_150 : FW RX0 150 5 8 .long false := ⟨RX5, TX5, 9, CF5, (mT1 (i := 139) rfl rfl), by decide, rfl, rfl⟩
theorem fX0_153 : FW RX0 153 3 1 .long false := ⟨RX3, TX3, 13, CF3, (mT1 (i := 208) rfl rfl), by decide, rfl, rfl⟩
theorem fX1_9 : FW RX1 9 1 0 (.array .int) true := ⟨RX1, TX1, 5, CF1, (mT2 (i := 69) rfl rfl), by decide, rfl, rfl⟩
theorem fX1_15 : FW RX1 15 1 1 (.array .int) true := ⟨RX1, TX1, 5, CF1, (mT2 (i := 70) rfl rfl), by decide, rfl, rfl⟩
theorem fX1_18 : FW RX1 18 1 2 (.array .int) true := ⟨RX1, TX1, 5, CF1, (mT2 (i := 71) rfl rfl), by decide, rfl, rfl⟩
theorem fX1_21 : FW RX1 21 1 3 .int false := ⟨RX1, TX1, 5, CF1, (mT2 (i := 72) rfl rfl), by decide, rfl, rfl⟩
theorem fX1_25 : FW RX1 25 1 4 .int false := ⟨RX1, TX1, 5, CF1, (mT2 (i := 73) rfl rfl), by decide, rfl, rfl⟩
theorem fX1_39 : FW RX1 39 8 2 .int false := ⟨RX8, TX8, 6, CF8, (mT2 (i := 36) rfl rfl), by decide, rfl, rfl⟩
theorem fX1_92 : FW RX1 92 8 3 .int false := ⟨RX8, TX8, 6, CF8, (mT2 (i := 39) rfl rfl), by decide, rfl, rfl⟩
theorem fX1_107 : FW RX1 107 2 2 .int false := ⟨RX2, TX2, 8, CF2, (mT1 (i := 48) rfl rfl), by decide, rfl, rfl⟩
theorem fX1_116 : FW RX1 116 2 4 .long false := ⟨RX2, TX2, 8, CF2, (mT1 (i := 55) rfl rfl), by decide, rfl, rfl⟩
theorem fX1_120 : FW RX1 120 2 1 .long false := ⟨RX2, TX2, 8, CF2, (mT1 (i := 45) rfl rfl), by decide, rfl, rfl⟩
theorem fX1_123 : FW RX1 123 2 0 .int false := ⟨RX2, TX2, 8, CF2, (mT1 (i := 41) rfl rfl), by decide, rfl, rfl⟩
theorem fX10_13 : FW RX10 13 10 3 (.array .int) true := ⟨RX10, TX10, 81, CF10, (mT5 (i := 85) rfl rfl), by decide, rfl, rfl⟩
theorem fX10_17 : FW RX10 17 10 4 (.array .int) true := ⟨RX10, TX10, 81, CF10, (mT5 (i := 86) rfl rfl), by decide, rfl, rfl⟩
theorem fX10_20 : FW RX10 20 10 5 (.array .int) true := ⟨RX10, TX10, 81, CF10, (mT5 (i := 87) rfl rfl), by decide, rfl, rfl⟩
theorem fX10_23 : FW RX10 23 10 6 (.array .int) true := ⟨RX10, TX10, 81, CF10, (mT5 (i := 88) rfl rfl), by decide, rfl, rfl⟩
theorem fX10_26 : FW RX10 26 10 7 (.array .int) true := ⟨RX10, TX10, 81, CF10, (mT5 (i := 89) rfl rfl), by decide, rfl, rfl⟩
theorem fX10_29 : FW RX10 29 10 8 (.array .int) true := ⟨RX10, TX10, 81, CF10, (mT5 (i := 90) rfl rfl), by decide, rfl, rfl⟩
theorem fX10_32 : FW RX10 32 10 9 (.array .int) true := ⟨RX10, TX10, 81, CF10, (mT5 (i := 91) rfl rfl), by decide, rfl, rfl⟩
theorem fX10_35 : FW RX10 35 10 10 (.array .int) true := ⟨RX10, TX10, 81, CF10, (mT5 (i := 92) rfl rfl), by decide, rfl, rfl⟩
theorem fX10_38 : FW RX10 38 10 12 .int false := ⟨RX10, TX10, 81, CF10, (mT5 (i := 94) rfl rfl), by decide, rfl, rfl⟩
theorem fX10_41 : FW RX10 41 10 15 (.array .long) true := ⟨RX10, TX10, 81, CF10, (mT5 (i := 97) rfl rfl), by decide, rfl, rfl⟩
theorem fX10_45 : FW RX10 45 10 16 (.array .long) true := ⟨RX10, TX10, 81, CF10, (mT5 (i := 98) rfl rfl), by decide, rfl, rfl⟩
theorem fX10_48 : FW RX10 48 10 17 (.array .long) true := ⟨RX10, TX10, 81, CF10, (mT5 (i := 99) rfl rfl), by decide, rfl, rfl⟩
theorem fX10_51 : FW RX10 51 10 18 (.array .long) true := ⟨RX10, TX10, 81, CF10, (mT5 (i := 100) rfl rfl), by decide, rfl, rfl⟩
theorem fX10_54 : FW RX10 54 10 19 (.array .long) true := ⟨RX10, TX10, 81, CF10, (mT5 (i := 101) rfl rfl), by decide, rfl, rfl⟩
theorem fX10_57 : FW RX10 57 10 20 (.array .long) true := ⟨RX10, TX10, 81, CF10, (mT5 (i := 102) rfl rfl), by decide, rfl, rfl⟩
theorem fX10_60 : FW RX10 60 10 21 (.array .long) true := ⟨RX10, TX10, 81, CF10, (mT5 (i := 103) rfl rfl), by decide, rfl, rfl⟩
theorem fX10_63 : FW RX10 63 10 22 (.array .long) true := ⟨RX10, TX10, 81, CF10, (mT5 (i := 104) rfl rfl), by decide, rfl, rfl⟩
theorem fX10_66 : FW RX10 66 10 23 (.array .int) true := ⟨RX10, TX10, 81, CF10, (mT5 (i := 105) rfl rfl), by decide, rfl, rfl⟩
theorem fX10_69 : FW RX10 69 10 24 (.array .int) true := ⟨RX10, TX10, 81, CF10, (mT5 (i := 106) rfl rfl), by decide, rfl, rfl⟩
theorem fX10_72 : FW RX10 72 10 25 (.array .int) true := ⟨RX10, TX10, 81, CF10, (mT5 (i := 107) rfl rfl), by decide, rfl, rfl⟩
theorem fX10_75 : FW RX10 75 10 28 (.array .int) true := ⟨RX10, TX10, 81, CF10, (mT5 (i := 110) rfl rfl), by decide, rfl, rfl⟩
theorem fX10_78 : FW RX10 78 10 46 (.array .int) true := ⟨RX10, TX10, 81, CF10, (mT5 (i := 128) rfl rfl), by decide, rfl, rfl⟩
theorem fX10_81 : FW RX10 81 10 47 (.array .int) true := ⟨RX10, TX10, 81, CF10, (mT5 (i := 129) rfl rfl), by decide, rfl, rfl⟩
theorem fX10_84 : FW RX10 84 10 48 (.array .int) true := ⟨RX10, TX10, 81, CF10, (mT5 (i := 130) rfl rfl), by decide, rfl, rfl⟩
theorem fX10_87 : FW RX10 87 10 49 (.array .int) true := ⟨RX10, TX10, 81, CF10, (mT5 (i := 131) rfl rfl), by decide, rfl, rfl⟩
theorem fX10_90 : FW RX10 90 10 50 (.array .int) true := ⟨RX10, TX10, 81, CF10, (mT5 (i := 132) rfl rfl), by decide, rfl, rfl⟩
theorem fX10_93 : FW RX10 93 10 51 (.array .int) true := ⟨RX10, TX10, 81, CF10, (mT5 (i := 133) rfl rfl), by decide, rfl, rfl⟩
theorem fX10_96 : FW RX10 96 10 52 (.array .int) true := ⟨RX10, TX10, 81, CF10, (mT5 (i := 134) rfl rfl), by decide, rfl, rfl⟩
theorem fX10_99 : FW RX10 99 10 54 (.array .long) true := ⟨RX10, TX10, 81, CF10, (mT5 (i := 136) rfl rfl), by decide, rfl, rfl⟩
theorem fX10_102 : FW RX10 102 10 55 (.array .int) true := ⟨RX10, TX10, 81, CF10, (mT5 (i := 137) rfl rfl), by decide, rfl, rfl⟩
theorem fX10_105 : FW RX10 105 10 56 (.array .long) true := ⟨RX10, TX10, 81, CF10, (mT5 (i := 138) rfl rfl), by decide, rfl, rfl⟩
theorem fX10_108 : FW RX10 108 10 57 (.array .long) true := ⟨RX10, TX10, 81, CF10, (mT5 (i := 139) rfl rfl), by decide, rfl, rfl⟩
theorem fX10_111 : FW RX10 111 10 58 (.array .long) true := ⟨RX10, TX10, 81, CF10, (mT5 (i := 140) rfl rfl), by decide, rfl, rfl⟩
theorem fX10_114 : FW RX10 114 10 59 (.array .long) true := ⟨RX10, TX10, 81, CF10, (mT5 (i := 141) rfl rfl), by decide, rfl, rfl⟩
theorem fX10_117 : FW RX10 117 10 60 (.array .long) true := ⟨RX10, TX10, 81, CF10, (mT5 (i := 142) rfl rfl), by decide, rfl, rfl⟩
theorem fX10_120 : FW RX10 120 10 61 (.array .long) true := ⟨RX10, TX10, 81, CF10, (mT5 (i := 143) rfl rfl), by decide, rfl, rfl⟩
theorem fX10_123 : FW RX10 123 10 62 (.array .long) true := ⟨RX10, TX10, 81, CF10, (mT5 (i := 144) rfl rfl), by decide, rfl, rfl⟩
theorem fX10_126 : FW RX10 126 10 63 (.array .int) true := ⟨RX10, TX10, 81, CF10, (mT5 (i := 145) rfl rfl), by decide, rfl, rfl⟩
theorem fX10_129 : FW RX10 129 10 69 .int false := ⟨RX10, TX10, 81, CF10, (mT5 (i := 151) rfl rfl), by decide, rfl, rfl⟩
theorem fX10_132 : FW RX10 132 10 70 .int false := ⟨RX10, TX10, 81, CF10, (mT5 (i := 152) rfl rfl), by decide, rfl, rfl⟩
theorem fX10_135 : FW RX10 135 10 71 (.array .long) true := ⟨RX10, TX10, 81, CF10, (mT5 (i := 153) rfl rfl), by decide, rfl, rfl⟩
theorem fX10_138 : FW RX10 138 10 72 (.array .long) true := ⟨RX10, TX10, 81, CF10, (mT5 (i := 154) rfl rfl), by decide, rfl, rfl⟩
theorem fX10_141 : FW RX10 141 10 73 (.array .boolean) true := ⟨RX10, TX10, 81, CF10, (mT5 (i := 155) rfl rfl), by decide, rfl, rfl⟩
theorem fX10_145 : FW RX10 145 10 74 (.array .long) true := ⟨RX10, TX10, 81, CF10, (mT5 (i := 156) rfl rfl), by decide, rfl, rfl⟩
theorem fX10_148 : FW RX10 148 10 75 (.array .long) true := ⟨RX10, TX10, 81, CF10, (mT5 (i := 157) rfl rfl), by decide, rfl, rfl⟩
theorem fX10_151 : FW RX10 151 10 77 (.array .boolean) true := ⟨RX10, TX10, 81, CF10, (mT5 (i := 159) rfl rfl), by decide, rfl, rfl⟩
theorem fX10_154 : FW RX10 154 10 78 (.array .int) true := ⟨RX10, TX10, 81, CF10, (mT5 (i := 160) rfl rfl), by decide, rfl, rfl⟩
theorem fX10_157 : FW RX10 157 10 79 (.array .int) true := ⟨RX10, TX10, 81, CF10, (mT5 (i := 161) rfl rfl), by decide, rfl, rfl⟩
theorem fX10_160 : FW RX10 160 10 80 (.array .int) true := ⟨RX10, TX10, 81, CF10, (mT5 (i := 162) rfl rfl), by decide, rfl, rfl⟩
theorem fX10_175 : FW RX10 175 10 26 .int false := ⟨RX10, TX10, 81, CF10, (mT5 (i := 108) rfl rfl), by decide, rfl, rfl⟩
theorem fX10_178 : FW RX10 178 10 45 .int false := ⟨RX10, TX10, 81, CF10, (mT5 (i := 127) rfl rfl), by decide, rfl, rfl⟩
theorem fX10_183 : FW RX10 183 10 2 .int false := ⟨RX10, TX10, 81, CF10, (mT5 (i := 84) rfl rfl), by decide, rfl, rfl⟩
theorem fX10_195 : FW RX10 195 10 1 .int false := ⟨RX10, TX10, 81, CF10, (mT5 (i := 83) rfl rfl), by decide, rfl, rfl⟩
theorem fX10_214 : FW RX10 214 10 11 .int false := ⟨RX10, TX10, 81, CF10, (mT5 (i := 93) rfl rfl), by decide, rfl, rfl⟩
theorem fX10_217 : FW RX10 217 10 13 .int false := ⟨RX10, TX10, 81, CF10, (mT5 (i := 95) rfl rfl), by decide, rfl, rfl⟩
theorem fX10_264 : FW RX10 264 10 14 .int false := ⟨RX10, TX10, 81, CF10, (mT5 (i := 96) rfl rfl), by decide, rfl, rfl⟩
theorem fX10_267 : FW RX10 267 10 29 .int false := ⟨RX10, TX10, 81, CF10, (mT5 (i := 111) rfl rfl), by decide, rfl, rfl⟩
theorem fX10_270 : FW RX10 270 10 31 .int false := ⟨RX10, TX10, 81, CF10, (mT5 (i := 113) rfl rfl), by decide, rfl, rfl⟩
theorem fX10_273 : FW RX10 273 10 30 .int false := ⟨RX10, TX10, 81, CF10, (mT5 (i := 112) rfl rfl), by decide, rfl, rfl⟩
theorem fX10_276 : FW RX10 276 10 35 .int false := ⟨RX10, TX10, 81, CF10, (mT5 (i := 117) rfl rfl), by decide, rfl, rfl⟩
theorem fX10_282 : FW RX10 282 10 33 .int false := ⟨RX10, TX10, 81, CF10, (mT5 (i := 115) rfl rfl), by decide, rfl, rfl⟩
theorem fX10_285 : FW RX10 285 10 32 .int false := ⟨RX10, TX10, 81, CF10, (mT5 (i := 114) rfl rfl), by decide, rfl, rfl⟩
theorem fX10_288 : FW RX10 288 10 34 .long false := ⟨RX10, TX10, 81, CF10, (mT5 (i := 116) rfl rfl), by decide, rfl, rfl⟩
theorem fX10_302 : FW RX10 302 10 37 .boolean false := ⟨RX10, TX10, 81, CF10, (mT5 (i := 119) rfl rfl), by decide, rfl, rfl⟩
theorem fX10_306 : FW RX10 306 10 38 .int false := ⟨RX10, TX10, 81, CF10, (mT5 (i := 120) rfl rfl), by decide, rfl, rfl⟩
theorem fX10_309 : FW RX10 309 10 36 .int false := ⟨RX10, TX10, 81, CF10, (mT5 (i := 118) rfl rfl), by decide, rfl, rfl⟩
theorem fX10_324 : FW RX10 324 10 39 .int false := ⟨RX10, TX10, 81, CF10, (mT5 (i := 121) rfl rfl), by decide, rfl, rfl⟩
theorem fX10_329 : FW RX10 329 10 40 .int false := ⟨RX10, TX10, 81, CF10, (mT5 (i := 122) rfl rfl), by decide, rfl, rfl⟩
theorem fX10_334 : FW RX10 334 10 41 .int false := ⟨RX10, TX10, 81, CF10, (mT5 (i := 123) rfl rfl), by decide, rfl, rfl⟩
theorem fX10_339 : FW RX10 339 10 42 .int false := ⟨RX10, TX10, 81, CF10, (mT5 (i := 124) rfl rfl), by decide, rfl, rfl⟩
theorem fX10_344 : FW RX10 344 10 43 .int false := ⟨RX10, TX10, 81, CF10, (mT5 (i := 125) rfl rfl), by decide, rfl, rfl⟩
theorem fX10_349 : FW RX10 349 10 44 .int false := ⟨RX10, TX10, 81, CF10, (mT5 (i := 126) rfl rfl), by decide, rfl, rfl⟩
theorem fX10_400 : FW RX10 400 10 27 .int false := ⟨RX10, TX10, 81, CF10, (mT5 (i := 109) rfl rfl), by decide, rfl, rfl⟩
theorem fX10_444 : FW RX10 444 10 53 .int false := ⟨RX10, TX10, 81, CF10, (mT5 (i := 135) rfl rfl), by decide, rfl, rfl⟩
theorem fX10_454 : FW RX10 454 10 65 .long false := ⟨RX10, TX10, 81, CF10, (mT5 (i := 147) rfl rfl), by decide, rfl, rfl⟩
theorem fX10_463 : FW RX10 463 10 67 .boolean false := ⟨RX10, TX10, 81, CF10, (mT5 (i := 149) rfl rfl), by decide, rfl, rfl⟩
theorem fX10_472 : FW RX10 472 10 64 .long false := ⟨RX10, TX10, 81, CF10, (mT5 (i := 146) rfl rfl), by decide, rfl, rfl⟩
theorem fX10_475 : FW RX10 475 10 68 .int false := ⟨RX10, TX10, 81, CF10, (mT5 (i := 150) rfl rfl), by decide, rfl, rfl⟩
theorem fX10_486 : FW RX10 486 10 66 .long false := ⟨RX10, TX10, 81, CF10, (mT5 (i := 148) rfl rfl), by decide, rfl, rfl⟩
theorem fX10_501 : FW RX10 501 10 76 .int false := ⟨RX10, TX10, 81, CF10, (mT5 (i := 158) rfl rfl), by decide, rfl, rfl⟩
theorem fX2_9 : FW RX2 9 2 0 .int false := ⟨RX2, TX2, 8, CF2, (mT1 (i := 39) rfl rfl), by decide, rfl, rfl⟩
theorem fX2_15 : FW RX2 15 2 1 .long false := ⟨RX2, TX2, 8, CF2, (mT1 (i := 42) rfl rfl), by decide, rfl, rfl⟩
theorem fX2_19 : FW RX2 19 2 2 .int false := ⟨RX2, TX2, 8, CF2, (mT1 (i := 46) rfl rfl), by decide, rfl, rfl⟩
theorem fX2_22 : FW RX2 22 2 3 .int false := ⟨RX2, TX2, 8, CF2, (mT1 (i := 49) rfl rfl), by decide, rfl, rfl⟩
theorem fX2_25 : FW RX2 25 2 4 .long false := ⟨RX2, TX2, 8, CF2, (mT1 (i := 52) rfl rfl), by decide, rfl, rfl⟩
theorem fX2_28 : FW RX2 28 2 5 .int false := ⟨RX2, TX2, 8, CF2, (mT1 (i := 56) rfl rfl), by decide, rfl, rfl⟩
theorem fX2_31 : FW RX2 31 2 6 .long false := ⟨RX2, TX2, 8, CF2, (mT1 (i := 59) rfl rfl), by decide, rfl, rfl⟩
theorem fX2_34 : FW RX2 34 2 7 .int false := ⟨RX2, TX2, 8, CF2, (mT1 (i := 61) rfl rfl), by decide, rfl, rfl⟩
theorem fX3_15 : FW RX3 15 3 0 .long false := ⟨RX3, TX3, 13, CF3, (mT1 (i := 203) rfl rfl), by decide, rfl, rfl⟩
theorem fX3_19 : FW RX3 19 3 1 .long false := ⟨RX3, TX3, 13, CF3, (mT1 (i := 206) rfl rfl), by decide, rfl, rfl⟩
theorem fX3_22 : FW RX3 22 3 2 .long false := ⟨RX3, TX3, 13, CF3, (mT1 (i := 210) rfl rfl), by decide, rfl, rfl⟩
theorem fX3_25 : FW RX3 25 3 3 .long false := ⟨RX3, TX3, 13, CF3, (mT1 (i := 212) rfl rfl), by decide, rfl, rfl⟩
theorem fX3_28 : FW RX3 28 3 4 .long false := ⟨RX3, TX3, 13, CF3, (mT1 (i := 214) rfl rfl), by decide, rfl, rfl⟩
theorem fX3_31 : FW RX3 31 3 8 .long false := ⟨RX3, TX3, 13, CF3, (mT1 (i := 223) rfl rfl), by decide, rfl, rfl⟩
theorem fX3_34 : FW RX3 34 3 5 .long false := ⟨RX3, TX3, 13, CF3, (mT1 (i := 217) rfl rfl), by decide, rfl, rfl⟩
theorem fX3_37 : FW RX3 37 3 7 .long false := ⟨RX3, TX3, 13, CF3, (mT1 (i := 220) rfl rfl), by decide, rfl, rfl⟩
theorem fX3_40 : FW RX3 40 3 9 .int false := ⟨RX3, TX3, 13, CF3, (mT1 (i := 227) rfl rfl), by decide, rfl, rfl⟩
theorem fX3_44 : FW RX3 44 3 10 .long false := ⟨RX3, TX3, 13, CF3, (mT1 (i := 230) rfl rfl), by decide, rfl, rfl⟩
theorem fX3_47 : FW RX3 47 3 11 .boolean false := ⟨RX3, TX3, 13, CF3, (mT1 (i := 233) rfl rfl), by decide, rfl, rfl⟩
theorem fX4_13 : FW RX4 13 4 0 (.array (.array .int)) true := ⟨RX4, TX4, 2, CF4, (mT2 (i := 99) rfl rfl), by decide, rfl, rfl⟩
theorem fX4_35 : FW RX4 35 8 2 .int false := ⟨RX8, TX8, 6, CF8, (mT2 (i := 35) rfl rfl), by decide, rfl, rfl⟩
theorem fX4_85 : FW RX4 85 8 3 .int false := ⟨RX8, TX8, 6, CF8, (mT2 (i := 40) rfl rfl), by decide, rfl, rfl⟩
theorem fX5_7 : FW RX5 7 5 0 .int false := ⟨RX5, TX5, 9, CF5, (mT1 (i := 122) rfl rfl), by decide, rfl, rfl⟩
theorem fX5_13 : FW RX5 13 5 1 .long false := ⟨RX5, TX5, 9, CF5, (mT1 (i := 124) rfl rfl), by decide, rfl, rfl⟩
theorem fX5_20 : FW RX5 20 5 2 .long false := ⟨RX5, TX5, 9, CF5, (mT1 (i := 125) rfl rfl), by decide, rfl, rfl⟩
theorem fX5_23 : FW RX5 23 5 3 .long false := ⟨RX5, TX5, 9, CF5, (mT1 (i := 128) rfl rfl), by decide, rfl, rfl⟩
theorem fX5_26 : FW RX5 26 5 4 .long false := ⟨RX5, TX5, 9, CF5, (mT1 (i := 130) rfl rfl), by decide, rfl, rfl⟩
theorem fX5_29 : FW RX5 29 5 5 .long false := ⟨RX5, TX5, 9, CF5, (mT1 (i := 132) rfl rfl), by decide, rfl, rfl⟩
theorem fX5_32 : FW RX5 32 5 6 .long false := ⟨RX5, TX5, 9, CF5, (mT1 (i := 134) rfl rfl), by decide, rfl, rfl⟩
theorem fX5_35 : FW RX5 35 5 7 .long false := ⟨RX5, TX5, 9, CF5, (mT1 (i := 136) rfl rfl), by decide, rfl, rfl⟩
theorem fX5_38 : FW RX5 38 5 8 .long false := ⟨RX5, TX5, 9, CF5, (mT1 (i := 138) rfl rfl), by decide, rfl, rfl⟩
theorem fX6_11 : FW RX6 11 6 0 (.array (.object "LayerBook$Loan")) true := ⟨RX6, TX6, 7, CF6, (mT1 (i := 80) rfl rfl), by decide, rfl, rfl⟩
theorem fX6_17 : FW RX6 17 6 3 .int false := ⟨RX6, TX6, 7, CF6, (mT1 (i := 86) rfl rfl), by decide, rfl, rfl⟩
theorem fX6_26 : FW RX6 26 6 1 .int false := ⟨RX6, TX6, 7, CF6, (mT1 (i := 82) rfl rfl), by decide, rfl, rfl⟩
theorem fX6_29 : FW RX6 29 6 2 .int false := ⟨RX6, TX6, 7, CF6, (mT1 (i := 84) rfl rfl), by decide, rfl, rfl⟩
theorem fX6_32 : FW RX6 32 6 4 .boolean false := ⟨RX6, TX6, 7, CF6, (mT1 (i := 88) rfl rfl), by decide, rfl, rfl⟩
theorem fX6_36 : FW RX6 36 6 5 .long false := ⟨RX6, TX6, 7, CF6, (mT1 (i := 90) rfl rfl), by decide, rfl, rfl⟩
theorem fX6_40 : FW RX6 40 6 6 (.object "LayerBook$Law") false := ⟨RX6, TX6, 7, CF6, (mT1 (i := 93) rfl rfl), by decide, rfl, rfl⟩
theorem fX6_48 : FW RX6 48 2 1 .long false := ⟨RX2, TX2, 8, CF2, (mT1 (i := 43) rfl rfl), by decide, rfl, rfl⟩
theorem fX6_51 : FW RX6 51 2 5 .int false := ⟨RX2, TX2, 8, CF2, (mT1 (i := 58) rfl rfl), by decide, rfl, rfl⟩
theorem fX6_89 : FW RX6 89 3 3 .long false := ⟨RX3, TX3, 13, CF3, (mT1 (i := 213) rfl rfl), by decide, rfl, rfl⟩
theorem fX6_90 : FW RX6 90 3 0 .long false := ⟨RX3, TX3, 13, CF3, (mT1 (i := 204) rfl rfl), by decide, rfl, rfl⟩
theorem fX6_99 : FW RX6 99 3 4 .long false := ⟨RX3, TX3, 13, CF3, (mT1 (i := 215) rfl rfl), by decide, rfl, rfl⟩
theorem fX6_122 : FW RX6 122 2 4 .long false := ⟨RX2, TX2, 8, CF2, (mT1 (i := 54) rfl rfl), by decide, rfl, rfl⟩
theorem fX6_161 : FW RX6 161 2 3 .int false := ⟨RX2, TX2, 8, CF2, (mT1 (i := 51) rfl rfl), by decide, rfl, rfl⟩
theorem fX6_168 : FW RX6 168 3 1 .long false := ⟨RX3, TX3, 13, CF3, (mT1 (i := 207) rfl rfl), by decide, rfl, rfl⟩
theorem fX6_173 : FW RX6 173 3 2 .long false := ⟨RX3, TX3, 13, CF3, (mT1 (i := 211) rfl rfl), by decide, rfl, rfl⟩
theorem fX6_176 : FW RX6 176 3 8 .long false := ⟨RX3, TX3, 13, CF3, (mT1 (i := 225) rfl rfl), by decide, rfl, rfl⟩
theorem fX7_9 : FW RX7 9 7 0 (.array .int) true := ⟨RX7, TX7, 3, CF7, (mT2 (i := 115) rfl rfl), by decide, rfl, rfl⟩
theorem fX7_19 : FW RX7 19 7 2 .int false := ⟨RX7, TX7, 3, CF7, (mT2 (i := 119) rfl rfl), by decide, rfl, rfl⟩
theorem fX8_9 : FW RX8 9 8 0 (.array .byte) true := ⟨RX8, TX8, 6, CF8, (mT2 (i := 32) rfl rfl), by decide, rfl, rfl⟩
theorem fX8_15 : FW RX8 15 8 1 .int false := ⟨RX8, TX8, 6, CF8, (mT2 (i := 33) rfl rfl), by decide, rfl, rfl⟩
theorem fX8_19 : FW RX8 19 8 4 .int false := ⟨RX8, TX8, 6, CF8, (mT2 (i := 41) rfl rfl), by decide, rfl, rfl⟩
theorem fX8_25 : FW RX8 25 8 2 .int false := ⟨RX8, TX8, 6, CF8, (mT2 (i := 37) rfl rfl), by decide, rfl, rfl⟩
theorem fX8_36 : FW RX8 36 8 5 .int false := ⟨RX8, TX8, 6, CF8, (mT2 (i := 42) rfl rfl), by decide, rfl, rfl⟩
theorem fX8_55 : FW RX8 55 8 3 .int false := ⟨RX8, TX8, 6, CF8, (mT2 (i := 38) rfl rfl), by decide, rfl, rfl⟩
theorem fX9_10 : FW RX9 10 9 0 (.object "LayerBook$Pool") true := ⟨RX9, TX9, 15, CF9, (mT2 (i := 127) rfl rfl), by decide, rfl, rfl⟩
theorem fX9_19 : FW RX9 19 9 1 (.object "LayerBook$Fall") true := ⟨RX9, TX9, 15, CF9, (mT2 (i := 128) rfl rfl), by decide, rfl, rfl⟩
theorem fX9_23 : FW RX9 23 9 2 (.object "LayerBook$Pool") true := ⟨RX9, TX9, 15, CF9, (mT2 (i := 129) rfl rfl), by decide, rfl, rfl⟩
theorem fX9_26 : FW RX9 26 9 3 (.object "LayerBook$Fall") true := ⟨RX9, TX9, 15, CF9, (mT2 (i := 130) rfl rfl), by decide, rfl, rfl⟩
theorem fX9_32 : FW RX9 32 9 4 (.object "LayerBook$Month") true := ⟨RX9, TX9, 15, CF9, (mT2 (i := 131) rfl rfl), by decide, rfl, rfl⟩
theorem fX9_36 : FW RX9 36 9 5 (.array (.object "LayerBook$Month")) true := ⟨RX9, TX9, 15, CF9, (mT2 (i := 132) rfl rfl), by decide, rfl, rfl⟩
theorem fX9_40 : FW RX9 40 9 6 (.array .int) true := ⟨RX9, TX9, 15, CF9, (mT2 (i := 133) rfl rfl), by decide, rfl, rfl⟩
theorem fX9_47 : FW RX9 47 9 7 (.object "LayerBook$Tape") true := ⟨RX9, TX9, 15, CF9, (mT2 (i := 134) rfl rfl), by decide, rfl, rfl⟩
theorem fX9_53 : FW RX9 53 9 8 (.array (.object "LayerBook$Law")) true := ⟨RX9, TX9, 15, CF9, (mT2 (i := 135) rfl rfl), by decide, rfl, rfl⟩
theorem fX9_59 : FW RX9 59 9 9 (.array (.object "LayerBook$Order")) true := ⟨RX9, TX9, 15, CF9, (mT2 (i := 136) rfl rfl), by decide, rfl, rfl⟩
theorem fX9_65 : FW RX9 65 9 10 (.array (.object "LayerBook$Sheet")) true := ⟨RX9, TX9, 15, CF9, (mT2 (i := 137) rfl rfl), by decide, rfl, rfl⟩
theorem fX9_69 : FW RX9 69 9 12 .int false := ⟨RX9, TX9, 15, CF9, (mT2 (i := 139) rfl rfl), by decide, rfl, rfl⟩
theorem fX9_73 : FW RX9 73 9 13 .int false := ⟨RX9, TX9, 15, CF9, (mT2 (i := 140) rfl rfl), by decide, rfl, rfl⟩
theorem fX9_79 : FW RX9 79 6 6 (.object "LayerBook$Law") false := ⟨RX6, TX6, 7, CF6, (mT1 (i := 92) rfl rfl), by decide, rfl, rfl⟩
theorem fX9_88 : FW RX9 88 9 11 .int false := ⟨RX9, TX9, 15, CF9, (mT2 (i := 138) rfl rfl), by decide, rfl, rfl⟩
theorem fX9_91 : FW RX9 91 6 1 .int false := ⟨RX6, TX6, 7, CF6, (mT1 (i := 83) rfl rfl), by decide, rfl, rfl⟩
theorem fX9_94 : FW RX9 94 6 0 (.array (.object "LayerBook$Loan")) true := ⟨RX6, TX6, 7, CF6, (mT1 (i := 81) rfl rfl), by decide, rfl, rfl⟩
theorem fX9_104 : FW RX9 104 2 0 .int false := ⟨RX2, TX2, 8, CF2, (mT1 (i := 40) rfl rfl), by decide, rfl, rfl⟩
theorem fX9_107 : FW RX9 107 2 1 .long false := ⟨RX2, TX2, 8, CF2, (mT1 (i := 44) rfl rfl), by decide, rfl, rfl⟩
theorem fX9_111 : FW RX9 111 2 2 .int false := ⟨RX2, TX2, 8, CF2, (mT1 (i := 47) rfl rfl), by decide, rfl, rfl⟩
theorem fX9_114 : FW RX9 114 2 3 .int false := ⟨RX2, TX2, 8, CF2, (mT1 (i := 50) rfl rfl), by decide, rfl, rfl⟩
theorem fX9_116 : FW RX9 116 2 4 .long false := ⟨RX2, TX2, 8, CF2, (mT1 (i := 53) rfl rfl), by decide, rfl, rfl⟩
theorem fX9_119 : FW RX9 119 2 5 .int false := ⟨RX2, TX2, 8, CF2, (mT1 (i := 57) rfl rfl), by decide, rfl, rfl⟩
theorem fX9_122 : FW RX9 122 2 6 .long false := ⟨RX2, TX2, 8, CF2, (mT1 (i := 60) rfl rfl), by decide, rfl, rfl⟩
theorem fX9_126 : FW RX9 126 0 1 .int false := ⟨RX0, TX0, 10, CF0, (mT1 (i := 162) rfl rfl), by decide, rfl, rfl⟩
theorem fX9_127 : FW RX9 127 0 0 (.array (.object "LayerBook$Paper")) true := ⟨RX0, TX0, 10, CF0, (mT1 (i := 160) rfl rfl), by decide, rfl, rfl⟩
theorem fX9_136 : FW RX9 136 5 2 .long false := ⟨RX5, TX5, 9, CF5, (mT1 (i := 126) rfl rfl), by decide, rfl, rfl⟩
theorem fX9_137 : FW RX9 137 5 0 .int false := ⟨RX5, TX5, 9, CF5, (mT1 (i := 123) rfl rfl), by decide, rfl, rfl⟩
theorem fX9_140 : FW RX9 140 5 3 .long false := ⟨RX5, TX5, 9, CF5, (mT1 (i := 129) rfl rfl), by decide, rfl, rfl⟩
theorem fX9_143 : FW RX9 143 5 4 .long false := ⟨RX5, TX5, 9, CF5, (mT1 (i := 131) rfl rfl), by decide, rfl, rfl⟩
theorem fX9_146 : FW RX9 146 5 5 .long false := ⟨RX5, TX5, 9, CF5, (mT1 (i := 133) rfl rfl), by decide, rfl, rfl⟩
theorem fX9_149 : FW RX9 149 5 6 .long false := ⟨RX5, TX5, 9, CF5, (mT1 (i := 135) rfl rfl), by decide, rfl, rfl⟩
theorem fX9_154 : FW RX9 154 5 7 .long false := ⟨RX5, TX5, 9, CF5, (mT1 (i := 137) rfl rfl), by decide, rfl, rfl⟩
theorem fX9_162 : FW RX9 162 6 2 .int false := ⟨RX6, TX6, 7, CF6, (mT1 (i := 85) rfl rfl), by decide, rfl, rfl⟩
theorem fX9_165 : FW RX9 165 6 3 .int false := ⟨RX6, TX6, 7, CF6, (mT1 (i := 87) rfl rfl), by decide, rfl, rfl⟩
theorem fX9_168 : FW RX9 168 6 4 .boolean false := ⟨RX6, TX6, 7, CF6, (mT1 (i := 89) rfl rfl), by decide, rfl, rfl⟩
theorem fX9_178 : FW RX9 178 8 1 .int false := ⟨RX8, TX8, 6, CF8, (mT2 (i := 34) rfl rfl), by decide, rfl, rfl⟩
theorem fX9_189 : FW RX9 189 9 14 .int false := ⟨RX9, TX9, 15, CF9, (mT2 (i := 141) rfl rfl), by decide, rfl, rfl⟩
theorem fX9_197 : FW RX9 197 4 1 .int false := ⟨RX4, TX4, 2, CF4, (mT2 (i := 104) rfl rfl), by decide, rfl, rfl⟩
theorem fX9_198 : FW RX9 198 4 0 (.array (.array .int)) true := ⟨RX4, TX4, 2, CF4, (mT2 (i := 101) rfl rfl), by decide, rfl, rfl⟩
theorem fX9_221 : FW RX9 221 3 12 (.array .long) true := ⟨RX3, TX3, 13, CF3, (mT1 (i := 236) rfl rfl), by decide, rfl, rfl⟩
theorem fX9_237 : FW RX9 237 7 0 (.array .int) true := ⟨RX7, TX7, 3, CF7, (mT2 (i := 116) rfl rfl), by decide, rfl, rfl⟩
theorem fX9_251 : FW RX9 251 3 8 .long false := ⟨RX3, TX3, 13, CF3, (mT1 (i := 226) rfl rfl), by decide, rfl, rfl⟩
theorem fX9_254 : FW RX9 254 3 1 .long false := ⟨RX3, TX3, 13, CF3, (mT1 (i := 209) rfl rfl), by decide, rfl, rfl⟩
theorem fX9_257 : FW RX9 257 3 0 .long false := ⟨RX3, TX3, 13, CF3, (mT1 (i := 205) rfl rfl), by decide, rfl, rfl⟩
theorem fX9_267 : FW RX9 267 0 4 .long false := ⟨RX0, TX0, 10, CF0, (mT1 (i := 168) rfl rfl), by decide, rfl, rfl⟩
theorem fX9_270 : FW RX9 270 6 5 .long false := ⟨RX6, TX6, 7, CF6, (mT1 (i := 91) rfl rfl), by decide, rfl, rfl⟩
theorem fX9_273 : FW RX9 273 0 5 .boolean false := ⟨RX0, TX0, 10, CF0, (mT1 (i := 170) rfl rfl), by decide, rfl, rfl⟩
theorem fX9_276 : FW RX9 276 0 9 .long false := ⟨RX0, TX0, 10, CF0, (mT1 (i := 175) rfl rfl), by decide, rfl, rfl⟩
theorem fX9_279 : FW RX9 279 7 1 .int false := ⟨RX7, TX7, 3, CF7, (mT2 (i := 118) rfl rfl), by decide, rfl, rfl⟩
theorem vL_9 : MWI RL 9 yX9_init := ⟨(mT1 (i := 20) rfl rfl), (mT1 (i := 21) rfl rfl), rfl⟩
theorem vL_12 : MWI RL 12 yX10_init := ⟨(mT5 (i := 70) rfl rfl), (mT5 (i := 71) rfl rfl), rfl⟩
theorem vX0_24 : MWN RX0 24 yX5_init := ⟨by decide +kernel, (mT1 (i := 119) rfl rfl), rfl⟩
theorem vX6_21 : MWN RX6 21 yX2_init := ⟨by decide +kernel, (mT1 (i := 36) rfl rfl), rfl⟩
theorem vX9_9 : MWI RX9 9 yX6_init := ⟨(mT1 (i := 28) rfl rfl), (mT1 (i := 29) rfl rfl), rfl⟩
theorem vX9_18 : MWI RX9 18 yX0_init := ⟨(mT1 (i := 111) rfl rfl), (mT1 (i := 112) rfl rfl), rfl⟩
theorem vX9_31 : MWN RX9 31 yX3_init := ⟨by decide +kernel, (mT1 (i := 200) rfl rfl), rfl⟩
theorem vX9_46 : MWN RX9 46 yX8_init := ⟨by decide +kernel, (mT2 (i := 29) rfl rfl), rfl⟩
theorem vX9_76 : MWN RX9 76 yX1_init := ⟨by decide +kernel, (mT2 (i := 66) rfl rfl), rfl⟩
theorem vX9_77 : MWI RX9 77 yX4_init := ⟨(mT2 (i := 86) rfl rfl), (mT2 (i := 87) rfl rfl), rfl⟩
theorem vX9_78 : MWN RX9 78 yX7_init := ⟨by decide +kernel, (mT2 (i := 112) rfl rfl), rfl⟩
theorem vX1_64 : MWS RX1 64 yX1_signOf := ⟨(mT3 (i := 163) rfl rfl), (mT3 (i := 164) rfl rfl)⟩
theorem vX1_95 : MWS RX1 95 yX1_truth := ⟨(mT3 (i := 206) rfl rfl), (mT3 (i := 207) rfl rfl)⟩
theorem vX1_99 : MWS RX1 99 yX1_joined := ⟨(mT3 (i := 209) rfl rfl), (mT3 (i := 210) rfl rfl)⟩
theorem vX1_103 : MWS RX1 103 yX1_named := ⟨(mT3 (i := 212) rfl rfl), (mT3 (i := 213) rfl rfl)⟩
theorem vX10_186 : MWS RX10 186 yX10_in := ⟨(mT6 (i := 94) rfl rfl), (mT6 (i := 95) rfl rfl)⟩
theorem vX10_191 : MWS RX10 191 yX10_isTold := ⟨(mT6 (i := 91) rfl rfl), (mT6 (i := 92) rfl rfl)⟩
theorem vX10_202 : MWS RX10 202 yX10_interest := ⟨(mT7 (i := 91) rfl rfl), (mT7 (i := 92) rfl rfl)⟩
theorem vX10_206 : MWS RX10 206 yX10_leftBy := ⟨(mT7 (i := 94) rfl rfl), (mT7 (i := 95) rfl rfl)⟩
theorem vX10_210 : MWS RX10 210 yX10_isFixed := ⟨(mT7 (i := 85) rfl rfl), (mT7 (i := 86) rfl rfl)⟩
theorem vX10_234 : MWS RX10 234 yX10_within := ⟨(mT7 (i := 101) rfl rfl), (mT7 (i := 102) rfl rfl)⟩
theorem vX10_252 : MWS RX10 252 yX10_isReset := ⟨(mT7 (i := 82) rfl rfl), (mT7 (i := 83) rfl rfl)⟩
theorem vX10_255 : MWS RX10 255 yX10_payFor := ⟨(mT7 (i := 88) rfl rfl), (mT7 (i := 89) rfl rfl)⟩
theorem vX10_450 : MWS RX10 450 yX10_divisor := ⟨(mT7 (i := 27) rfl rfl), (mT7 (i := 28) rfl rfl)⟩
theorem vX10_512 : MWS RX10 512 yX10_isSheet := ⟨(mT7 (i := 148) rfl rfl), (mT7 (i := 149) rfl rfl)⟩
theorem vX10_521 : MWS RX10 521 yX10_over := ⟨(mT7 (i := 172) rfl rfl), (mT7 (i := 173) rfl rfl)⟩
theorem vX4_39 : MWS RX4 39 yX4_readStep := ⟨(mT3 (i := 235) rfl rfl), (mT3 (i := 236) rfl rfl)⟩
theorem vX4_47 : MWS RX4 47 yX4_clear := ⟨(mT2 (i := 96) rfl rfl), (mT2 (i := 97) rfl rfl)⟩
theorem vX4_65 : MWS RX4 65 yX4_readWord := ⟨(mT4 (i := 2) rfl rfl), (mT4 (i := 3) rfl rfl)⟩
theorem vX4_69 : MWS RX4 69 yX4_readNumber := ⟨(mT4 (i := 5) rfl rfl), (mT4 (i := 6) rfl rfl)⟩
theorem vX4_75 : MWS RX4 75 yX4_readTest := ⟨(mT4 (i := 10) rfl rfl), (mT4 (i := 11) rfl rfl)⟩
theorem vX6_77 : MWS RX6 77 yX6_payAll := ⟨(mT4 (i := 199) rfl rfl), (mT4 (i := 200) rfl rfl)⟩
theorem vX6_138 : MWS RX6 138 yX6_payMonth := ⟨(mT4 (i := 202) rfl rfl), (mT4 (i := 203) rfl rfl)⟩
theorem vX8_32 : MWS RX8 32 yX8_isBlank := ⟨(mT3 (i := 11) rfl rfl), (mT3 (i := 12) rfl rfl)⟩
theorem vX8_39 : MWS RX8 39 yX8_isLetter := ⟨(mT3 (i := 14) rfl rfl), (mT3 (i := 15) rfl rfl)⟩
theorem vX8_42 : MWS RX8 42 yX8_isDigit := ⟨(mT3 (i := 17) rfl rfl), (mT3 (i := 18) rfl rfl)⟩
theorem vX9_83 : MWS RX9 83 yX9_within := ⟨(mT2 (i := 177) rfl rfl), (mT2 (i := 178) rfl rfl)⟩
theorem vX9_157 : MWS RX9 157 yX9_commonDivisor := ⟨(mT2 (i := 211) rfl rfl), (mT2 (i := 212) rfl rfl)⟩
theorem vL_13 : MWV RL 13 yX9_loan := ⟨(mT2 (i := 173) rfl rfl), (mT2 (i := 174) rfl rfl), (mT2 (i := 175) rfl rfl)⟩
theorem vL_17 : MWV RL 17 yX10_loan := ⟨(mT6 (i := 87) rfl rfl), (mT6 (i := 88) rfl rfl), (mT6 (i := 89) rfl rfl)⟩
theorem vL_18 : MWV RL 18 yX9_loanTold := ⟨(mT2 (i := 185) rfl rfl), (mT2 (i := 186) rfl rfl), (mT2 (i := 187) rfl rfl)⟩
theorem vL_22 : MWV RL 22 yX10_loanTold := ⟨(mT6 (i := 98) rfl rfl), (mT6 (i := 99) rfl rfl), (mT6 (i := 100) rfl rfl)⟩
theorem vL_23 : MWV RL 23 yX9_paper := ⟨(mT2 (i := 189) rfl rfl), (mT2 (i := 190) rfl rfl), (mT2 (i := 191) rfl rfl)⟩
theorem vL_26 : MWV RL 26 yX10_paper := ⟨(mT7 (i := 10) rfl rfl), (mT7 (i := 11) rfl rfl), (mT7 (i := 12) rfl rfl)⟩
theorem vL_27 : MWV RL 27 yX9_paperTold := ⟨(mT2 (i := 202) rfl rfl), (mT2 (i := 203) rfl rfl), (mT2 (i := 204) rfl rfl)⟩
theorem vL_30 : MWV RL 30 yX10_paperTold := ⟨(mT7 (i := 15) rfl rfl), (mT7 (i := 16) rfl rfl), (mT7 (i := 17) rfl rfl)⟩
theorem vL_31 : MWV RL 31 yX9_life := ⟨(mT2 (i := 206) rfl rfl), (mT2 (i := 207) rfl rfl), (mT2 (i := 208) rfl rfl)⟩
theorem vL_35 : MWV RL 35 yX10_life := ⟨(mT7 (i := 23) rfl rfl), (mT7 (i := 24) rfl rfl), (mT7 (i := 25) rfl rfl)⟩
theorem vL_36 : MWV RL 36 yX9_tell := ⟨(mT2 (i := 214) rfl rfl), (mT2 (i := 215) rfl rfl), (mT2 (i := 216) rfl rfl)⟩
theorem vL_39 : MWV RL 39 yX10_tell := ⟨(mT6 (i := 106) rfl rfl), (mT6 (i := 107) rfl rfl), (mT6 (i := 108) rfl rfl)⟩
theorem vL_40 : MWV RL 40 yX9_trip := ⟨(mT2 (i := 219) rfl rfl), (mT2 (i := 220) rfl rfl), (mT2 (i := 221) rfl rfl)⟩
theorem vL_43 : MWV RL 43 yX10_trip := ⟨(mT7 (i := 30) rfl rfl), (mT7 (i := 31) rfl rfl), (mT7 (i := 32) rfl rfl)⟩
theorem vL_46 : MWV RL 46 yX9_feed := ⟨(mT2 (i := 223) rfl rfl), (mT2 (i := 224) rfl rfl), (mT2 (i := 225) rfl rfl)⟩
theorem vL_50 : MWV RL 50 yX10_feed := ⟨(mT6 (i := 115) rfl rfl), (mT6 (i := 116) rfl rfl), (mT6 (i := 117) rfl rfl)⟩
theorem vL_51 : MWV RL 51 yX9_text := ⟨(mT2 (i := 231) rfl rfl), (mT2 (i := 232) rfl rfl), (mT2 (i := 233) rfl rfl)⟩
theorem vL_55 : MWV RL 55 yX10_text := ⟨(mT6 (i := 119) rfl rfl), (mT6 (i := 120) rfl rfl), (mT6 (i := 121) rfl rfl)⟩
theorem vL_56 : MWV RL 56 yX9_force := ⟨(mT3 (i := 194) rfl rfl), (mT3 (i := 195) rfl rfl), (mT3 (i := 196) rfl rfl)⟩
theorem vL_60 : MWV RL 60 yX10_force := ⟨(mT6 (i := 202) rfl rfl), (mT6 (i := 203) rfl rfl), (mT6 (i := 204) rfl rfl)⟩
theorem vL_61 : MWV RL 61 yX9_says := ⟨(mT3 (i := 198) rfl rfl), (mT3 (i := 199) rfl rfl), (mT3 (i := 200) rfl rfl)⟩
theorem vL_64 : MWV RL 64 yX10_says := ⟨(mT6 (i := 206) rfl rfl), (mT6 (i := 207) rfl rfl), (mT6 (i := 208) rfl rfl)⟩
theorem vL_65 : MWV RL 65 yX9_order := ⟨(mT3 (i := 219) rfl rfl), (mT3 (i := 220) rfl rfl), (mT3 (i := 221) rfl rfl)⟩
theorem vL_68 : MWV RL 68 yX10_order := ⟨(mT6 (i := 215) rfl rfl), (mT6 (i := 216) rfl rfl), (mT6 (i := 217) rfl rfl)⟩
theorem vL_69 : MWV RL 69 yX9_step := ⟨(mT4 (i := 16) rfl rfl), (mT4 (i := 17) rfl rfl), (mT4 (i := 18) rfl rfl)⟩
theorem vL_73 : MWV RL 73 yX10_step := ⟨(mT7 (i := 6) rfl rfl), (mT7 (i := 7) rfl rfl), (mT7 (i := 8) rfl rfl)⟩
theorem vL_74 : MWV RL 74 yX9_amend := ⟨(mT4 (i := 20) rfl rfl), (mT4 (i := 21) rfl rfl), (mT4 (i := 22) rfl rfl)⟩
theorem vL_77 : MWV RL 77 yX10_amend := ⟨(mT7 (i := 34) rfl rfl), (mT7 (i := 35) rfl rfl), (mT7 (i := 36) rfl rfl)⟩
theorem vL_78 : MWV RL 78 yX9_run := ⟨(mT4 (i := 112) rfl rfl), (mT4 (i := 113) rfl rfl), (mT4 (i := 114) rfl rfl)⟩
theorem vL_81 : MWV RL 81 yX10_run := ⟨(mT7 (i := 66) rfl rfl), (mT7 (i := 67) rfl rfl), (mT7 (i := 68) rfl rfl)⟩
theorem vL_82 : MWV RL 82 yX9_month := ⟨(mT4 (i := 223) rfl rfl), (mT4 (i := 224) rfl rfl), (mT4 (i := 225) rfl rfl)⟩
theorem vL_85 : MWV RL 85 yX10_month := ⟨(mT7 (i := 120) rfl rfl), (mT7 (i := 121) rfl rfl), (mT7 (i := 122) rfl rfl)⟩
theorem vL_86 : MWV RL 86 yX9_paid := ⟨(mT4 (i := 231) rfl rfl), (mT4 (i := 232) rfl rfl), (mT4 (i := 233) rfl rfl)⟩
theorem vL_89 : MWV RL 89 yX10_paid := ⟨(mT7 (i := 124) rfl rfl), (mT7 (i := 125) rfl rfl), (mT7 (i := 126) rfl rfl)⟩
theorem vL_90 : MWV RL 90 yX9_buy := ⟨(mT4 (i := 235) rfl rfl), (mT4 (i := 236) rfl rfl), (mT4 (i := 237) rfl rfl)⟩
theorem vL_93 : MWV RL 93 yX10_buy := ⟨(mT6 (i := 111) rfl rfl), (mT6 (i := 112) rfl rfl), (mT6 (i := 113) rfl rfl)⟩
theorem vL_94 : MWV RL 94 yX9_report := ⟨(mT5 (i := 0) rfl rfl), (mT5 (i := 1) rfl rfl), (mT5 (i := 2) rfl rfl)⟩
theorem vL_98 : MWV RL 98 yX10_report := ⟨(mT7 (i := 155) rfl rfl), (mT7 (i := 156) rfl rfl), (mT7 (i := 157) rfl rfl)⟩
theorem vL_99 : MWV RL 99 yX9_beside := ⟨(mT5 (i := 16) rfl rfl), (mT5 (i := 17) rfl rfl), (mT5 (i := 18) rfl rfl)⟩
theorem vL_103 : MWV RL 103 yX10_beside := ⟨(mT7 (i := 128) rfl rfl), (mT7 (i := 129) rfl rfl), (mT7 (i := 130) rfl rfl)⟩
theorem vL_104 : MWV RL 104 yX9_count := ⟨(mT5 (i := 40) rfl rfl), (mT5 (i := 41) rfl rfl), (mT5 (i := 42) rfl rfl)⟩
theorem vL_107 : MWV RL 107 yX10_count := ⟨(mT7 (i := 140) rfl rfl), (mT7 (i := 141) rfl rfl), (mT7 (i := 142) rfl rfl)⟩
theorem vL_108 : MWV RL 108 yX9_sheet := ⟨(mT5 (i := 45) rfl rfl), (mT5 (i := 46) rfl rfl), (mT5 (i := 47) rfl rfl)⟩
theorem vL_111 : MWV RL 111 yX10_sheet := ⟨(mT7 (i := 144) rfl rfl), (mT7 (i := 145) rfl rfl), (mT7 (i := 146) rfl rfl)⟩
theorem vL_112 : MWV RL 112 yX9_cell := ⟨(mT5 (i := 53) rfl rfl), (mT5 (i := 54) rfl rfl), (mT5 (i := 55) rfl rfl)⟩
theorem vL_115 : MWV RL 115 yX10_cell := ⟨(mT7 (i := 151) rfl rfl), (mT7 (i := 152) rfl rfl), (mT7 (i := 153) rfl rfl)⟩
theorem vL_116 : MWV RL 116 yX9_loans := ⟨(mT5 (i := 57) rfl rfl), (mT5 (i := 58) rfl rfl), (mT5 (i := 59) rfl rfl)⟩
theorem vL_119 : MWV RL 119 yX10_loans := ⟨(mT7 (i := 163) rfl rfl), (mT7 (i := 164) rfl rfl), (mT7 (i := 165) rfl rfl)⟩
theorem vL_120 : MWV RL 120 yX9_taken := ⟨(mT5 (i := 63) rfl rfl), (mT5 (i := 64) rfl rfl), (mT5 (i := 65) rfl rfl)⟩
theorem vL_123 : MWV RL 123 yX10_taken := ⟨(mT7 (i := 168) rfl rfl), (mT7 (i := 169) rfl rfl), (mT7 (i := 170) rfl rfl)⟩
theorem vX0_25 : MWV RX0 25 yX5_restart := ⟨(mT4 (i := 28) rfl rfl), (mT2 (i := 199) rfl rfl), (mT2 (i := 200) rfl rfl)⟩
theorem vX0_48 : MWV RX0 48 yX5_copy := ⟨(mT5 (i := 32) rfl rfl), (mT5 (i := 33) rfl rfl), (mT5 (i := 34) rfl rfl)⟩
theorem vX0_63 : MWV RX0 63 yX0_turnTrip := ⟨(mT4 (i := 37) rfl rfl), (mT4 (i := 39) rfl rfl), (mTp (i := 12) (q := (⟨"LayerBook$Fall", "turnTrip", "(J)V"⟩, 10)) rfl)⟩
theorem vX0_68 : MWV RX0 68 yX5_begin := ⟨(mT4 (i := 46) rfl rfl), (mT4 (i := 47) rfl rfl), (mT4 (i := 48) rfl rfl)⟩
theorem vX0_71 : MWV RX0 71 yX3_collected := ⟨(mT4 (i := 51) rfl rfl), (mT4 (i := 52) rfl rfl), (mT4 (i := 53) rfl rfl)⟩
theorem vX0_78 : MWV RX0 78 yX0_takeSteps := ⟨(mT4 (i := 55) rfl rfl), (mT4 (i := 57) rfl rfl), (mTp (i := 14) (q := (⟨"LayerBook$Fall", "takeSteps", "(ILLayerBook$Month;LLayerBook$Order;)V"⟩, 10)) rfl)⟩
theorem vX0_82 : MWV RX0 82 yX5_end := ⟨(mT4 (i := 100) rfl rfl), (mT4 (i := 101) rfl rfl), (mT4 (i := 102) rfl rfl)⟩
theorem vX0_88 : MWV RX0 88 yX0_writeDown := ⟨(mT4 (i := 104) rfl rfl), (mT4 (i := 106) rfl rfl), (mTp (i := 21) (q := (⟨"LayerBook$Fall", "writeDown", "(J)V"⟩, 10)) rfl)⟩
theorem vX0_92 : MWV RX0 92 yX0_lostShare := ⟨(mT4 (i := 41) rfl rfl), (mT4 (i := 43) rfl rfl), (mTp (i := 13) (q := (⟨"LayerBook$Fall", "lostShare", "()J"⟩, 10)) rfl)⟩
theorem vX0_108 : MWV RX0 108 yX0_passes := ⟨(mT4 (i := 59) rfl rfl), (mT4 (i := 61) rfl rfl), (mTp (i := 15) (q := (⟨"LayerBook$Fall", "passes", "([IILLayerBook$Month;)Z"⟩, 10)) rfl)⟩
theorem vX0_112 : MWV RX0 112 yX0_wish := ⟨(mT4 (i := 76) rfl rfl), (mT4 (i := 78) rfl rfl), (mTp (i := 18) (q := (⟨"LayerBook$Fall", "wish", "([ILLayerBook$Month;J)J"⟩, 10)) rfl)⟩
theorem vX0_122 : MWV RX0 122 yX0_give := ⟨(mT4 (i := 88) rfl rfl), (mT4 (i := 90) rfl rfl), (mTp (i := 20) (q := (⟨"LayerBook$Fall", "give", "([IJI)V"⟩, 10)) rfl)⟩
theorem vX0_126 : MWV RX0 126 yX0_field := ⟨(mT4 (i := 63) rfl rfl), (mT4 (i := 65) rfl rfl), (mTp (i := 16) (q := (⟨"LayerBook$Fall", "field", "(IILLayerBook$Month;)J"⟩, 10)) rfl)⟩
theorem vX0_133 : MWV RX0 133 yX0_cover := ⟨(mT4 (i := 67) rfl rfl), (mT4 (i := 69) rfl rfl), (mTp (i := 17) (q := (⟨"LayerBook$Fall", "cover", "(J)J"⟩, 10)) rfl)⟩
theorem vX0_144 : MWV RX0 144 yX0_paperOf := ⟨(mT4 (i := 80) rfl rfl), (mT4 (i := 82) rfl rfl), (mTp (i := 19) (q := (⟨"LayerBook$Fall", "paperOf", "([I)LLayerBook$Paper;"⟩, 10)) rfl)⟩
theorem vX0_159 : MWV RX0 159 yX5_payInterest := ⟨(mT4 (i := 92) rfl rfl), (mT4 (i := 93) rfl rfl), (mT4 (i := 94) rfl rfl)⟩
theorem vX0_162 : MWV RX0 162 yX5_payPrincipal := ⟨(mT4 (i := 96) rfl rfl), (mT4 (i := 97) rfl rfl), (mT4 (i := 98) rfl rfl)⟩
theorem vX0_166 : MWV RX0 166 yX5_writeDown := ⟨(mT4 (i := 108) rfl rfl), (mT4 (i := 109) rfl rfl), (mT4 (i := 110) rfl rfl)⟩
theorem vX1_28 : MWV RX1 28 yX8_begin := ⟨(mT2 (i := 239) rfl rfl), (mT3 (i := 0) rfl rfl), (mT3 (i := 1) rfl rfl)⟩
theorem vX1_35 : MWV RX1 35 yX8_which := ⟨(mT3 (i := 112) rfl rfl), (mT3 (i := 113) rfl rfl), (mT3 (i := 114) rfl rfl)⟩
theorem vX1_42 : MWV RX1 42 yX8_next := ⟨(mT3 (i := 141) rfl rfl), (mT3 (i := 4) rfl rfl), (mT3 (i := 5) rfl rfl)⟩
theorem vX1_45 : MWV RX1 45 yX1_readChain := ⟨(mT3 (i := 142) rfl rfl), (mT3 (i := 144) rfl rfl), (mTp (i := 4) (q := (⟨"LayerBook$Law", "readChain", "(LLayerBook$Tape;I)Z"⟩, 5)) rfl)⟩
theorem vX1_49 : MWV RX1 49 yX8_takesSign := ⟨(mT3 (i := 176) rfl rfl), (mT3 (i := 177) rfl rfl), (mT3 (i := 178) rfl rfl)⟩
theorem vX1_53 : MWV RX1 53 yX8_isEnd := ⟨(mT3 (i := 190) rfl rfl), (mT3 (i := 191) rfl rfl), (mT3 (i := 192) rfl rfl)⟩
theorem vX1_57 : MWV RX1 57 yX1_readCompared := ⟨(mT3 (i := 146) rfl rfl), (mT3 (i := 148) rfl rfl), (mTp (i := 5) (q := (⟨"LayerBook$Law", "readCompared", "(LLayerBook$Tape;)Z"⟩, 5)) rfl)⟩
theorem vX1_61 : MWV RX1 61 yX1_readOne := ⟨(mT3 (i := 172) rfl rfl), (mT3 (i := 174) rfl rfl), (mTp (i := 9) (q := (⟨"LayerBook$Law", "readOne", "(LLayerBook$Tape;)Z"⟩, 5)) rfl)⟩
theorem vX1_68 : MWV RX1 68 yX1_write := ⟨(mT3 (i := 159) rfl rfl), (mT3 (i := 161) rfl rfl), (mTp (i := 8) (q := (⟨"LayerBook$Law", "write", "(I)Z"⟩, 5)) rfl)⟩
theorem vX1_76 : MWV RX1 76 yX8_isSign := ⟨(mT3 (i := 168) rfl rfl), (mT3 (i := 169) rfl rfl), (mT3 (i := 170) rfl rfl)⟩
theorem vX1_81 : MWV RX1 81 yX1_opens := ⟨(mT3 (i := 151) rfl rfl), (mT3 (i := 153) rfl rfl), (mTp (i := 6) (q := (⟨"LayerBook$Law", "opens", "(LLayerBook$Tape;)Z"⟩, 5)) rfl)⟩
theorem vX1_84 : MWV RX1 84 yX1_closes := ⟨(mT3 (i := 155) rfl rfl), (mT3 (i := 157) rfl rfl), (mTp (i := 7) (q := (⟨"LayerBook$Law", "closes", "()Z"⟩, 5)) rfl)⟩
theorem vX1_89 : MWV RX1 89 yX8_isNumber := ⟨(mT3 (i := 186) rfl rfl), (mT3 (i := 187) rfl rfl), (mT3 (i := 188) rfl rfl)⟩
theorem vX1_112 : MWV RX1 112 yX2_left := ⟨(mT3 (i := 215) rfl rfl), (mT3 (i := 216) rfl rfl), (mT3 (i := 217) rfl rfl)⟩
theorem vX10_165 : MWV RX10 165 yX10_spell := ⟨(mT5 (i := 75) rfl rfl), (mT5 (i := 77) rfl rfl), (mTp (i := 32) (q := (⟨"LayerBookModel", "spell", "(IJ)V"⟩, 81)) rfl)⟩
theorem vX10_198 : MWV RX10 198 yX10_isLoan := ⟨(mT6 (i := 102) rfl rfl), (mT6 (i := 104) rfl rfl), (mTp (i := 33) (q := (⟨"LayerBookModel", "isLoan", "(I)Z"⟩, 81)) rfl)⟩
theorem vX10_230 : MWV RX10 230 yX10_saysOf := ⟨(mT6 (i := 210) rfl rfl), (mT6 (i := 212) rfl rfl), (mTp (i := 49) (q := (⟨"LayerBookModel", "saysOf", "(III)I"⟩, 81)) rfl)⟩
theorem vX10_238 : MWV RX10 238 yX10_lot := ⟨(mT7 (i := 104) rfl rfl), (mT7 (i := 106) rfl rfl), (mTp (i := 65) (q := (⟨"LayerBookModel", "lot", "(II)I"⟩, 81)) rfl)⟩
theorem vX10_241 : MWV RX10 241 yX10_paysOff := ⟨(mT7 (i := 112) rfl rfl), (mT7 (i := 114) rfl rfl), (mTp (i := 66) (q := (⟨"LayerBookModel", "paysOff", "(IIII)V"⟩, 81)) rfl)⟩
theorem vX10_245 : MWV RX10 245 yX10_principal := ⟨(mT7 (i := 116) rfl rfl), (mT7 (i := 118) rfl rfl), (mTp (i := 67) (q := (⟨"LayerBookModel", "principal", "(III)I"⟩, 81)) rfl)⟩
theorem vX10_248 : MWV RX10 248 yX10_pool := ⟨(mT7 (i := 78) rfl rfl), (mT7 (i := 80) rfl rfl), (mTp (i := 63) (q := (⟨"LayerBookModel", "pool", "()I"⟩, 81)) rfl)⟩
theorem vX10_258 : MWV RX10 258 yX10_goes := ⟨(mT7 (i := 97) rfl rfl), (mT7 (i := 99) rfl rfl), (mTp (i := 64) (q := (⟨"LayerBookModel", "goes", "(II)V"⟩, 81)) rfl)⟩
theorem vX10_279 : MWV RX10 279 yX10_byteAt := ⟨(mT6 (i := 131) rfl rfl), (mT6 (i := 133) rfl rfl), (mTp (i := 36) (q := (⟨"LayerBookModel", "byteAt", "(I)I"⟩, 81)) rfl)⟩
theorem vX10_312 : MWV RX10 312 yX10_fail := ⟨(mT6 (i := 149) rfl rfl), (mT6 (i := 151) rfl rfl), (mTp (i := 39) (q := (⟨"LayerBookModel", "fail", "()V"⟩, 81)) rfl)⟩
theorem vX10_315 : MWV RX10 315 yX10_next := ⟨(mT6 (i := 127) rfl rfl), (mT6 (i := 129) rfl rfl), (mTp (i := 35) (q := (⟨"LayerBookModel", "next", "()V"⟩, 81)) rfl)⟩
theorem vX10_320 : MWV RX10 320 yX10_isWord := ⟨(mT6 (i := 145) rfl rfl), (mT6 (i := 147) rfl rfl), (mTp (i := 38) (q := (⟨"LayerBookModel", "isWord", "(J)Z"⟩, 81)) rfl)⟩
theorem vX10_352 : MWV RX10 352 yX10_isSign := ⟨(mT6 (i := 182) rfl rfl), (mT6 (i := 184) rfl rfl), (mTp (i := 47) (q := (⟨"LayerBookModel", "isSign", "(I)Z"⟩, 81)) rfl)⟩
theorem vX10_355 : MWV RX10 355 yX10_opens := ⟨(mT6 (i := 166) rfl rfl), (mT6 (i := 168) rfl rfl), (mTp (i := 43) (q := (⟨"LayerBookModel", "opens", "()Z"⟩, 81)) rfl)⟩
theorem vX10_359 : MWV RX10 359 yX10_one := ⟨(mT6 (i := 178) rfl rfl), (mT6 (i := 180) rfl rfl), (mTp (i := 46) (q := (⟨"LayerBookModel", "one", "()I"⟩, 81)) rfl)⟩
theorem vX10_362 : MWV RX10 362 yX10_either := ⟨(mT6 (i := 153) rfl rfl), (mT6 (i := 155) rfl rfl), (mTp (i := 40) (q := (⟨"LayerBookModel", "either", "()I"⟩, 81)) rfl)⟩
theorem vX10_365 : MWV RX10 365 yX10_name := ⟨(mT6 (i := 186) rfl rfl), (mT6 (i := 188) rfl rfl), (mTp (i := 48) (q := (⟨"LayerBookModel", "name", "()I"⟩, 81)) rfl)⟩
theorem vX10_368 : MWV RX10 368 yX10_term := ⟨(mT6 (i := 174) rfl rfl), (mT6 (i := 176) rfl rfl), (mTp (i := 45) (q := (⟨"LayerBookModel", "term", "()I"⟩, 81)) rfl)⟩
theorem vX10_375 : MWV RX10 375 yX10_not := ⟨(mT6 (i := 161) rfl rfl), (mT6 (i := 163) rfl rfl), (mTp (i := 42) (q := (⟨"LayerBookModel", "not", "()I"⟩, 81)) rfl)⟩
theorem vX10_378 : MWV RX10 378 yX10_added := ⟨(mT6 (i := 170) rfl rfl), (mT6 (i := 172) rfl rfl), (mTp (i := 44) (q := (⟨"LayerBookModel", "added", "()I"⟩, 81)) rfl)⟩
theorem vX10_385 : MWV RX10 385 yX10_both := ⟨(mT6 (i := 157) rfl rfl), (mT6 (i := 159) rfl rfl), (mTp (i := 41) (q := (⟨"LayerBookModel", "both", "()I"⟩, 81)) rfl)⟩
theorem vX10_392 : MWV RX10 392 yX10_part := ⟨(mT6 (i := 141) rfl rfl), (mT6 (i := 143) rfl rfl), (mTp (i := 37) (q := (⟨"LayerBookModel", "part", "(J)I"⟩, 81)) rfl)⟩
theorem vX10_403 : MWV RX10 403 yX10_read := ⟨(mT6 (i := 123) rfl rfl), (mT6 (i := 125) rfl rfl), (mTp (i := 34) (q := (⟨"LayerBookModel", "read", "(II)I"⟩, 81)) rfl)⟩
theorem vX10_426 : MWV RX10 426 yX10_paperHere := ⟨(mT6 (i := 229) rfl rfl), (mT6 (i := 231) rfl rfl), (mTp (i := 51) (q := (⟨"LayerBookModel", "paperHere", "()I"⟩, 81)) rfl)⟩
theorem vX10_429 : MWV RX10 429 yX10_numberHere := ⟨(mT6 (i := 234) rfl rfl), (mT6 (i := 236) rfl rfl), (mTp (i := 52) (q := (⟨"LayerBookModel", "numberHere", "()I"⟩, 81)) rfl)⟩
theorem vX10_434 : MWV RX10 434 yX10_fieldHere := ⟨(mT6 (i := 239) rfl rfl), (mT7 (i := 1) rfl rfl), (mTp (i := 53) (q := (⟨"LayerBookModel", "fieldHere", "()I"⟩, 81)) rfl)⟩
theorem vX10_439 : MWV RX10 439 yX10_readStep := ⟨(mT6 (i := 220) rfl rfl), (mT6 (i := 222) rfl rfl), (mTp (i := 50) (q := (⟨"LayerBookModel", "readStep", "(I)V"⟩, 81)) rfl)⟩
theorem vX10_447 : MWV RX10 447 yX10_isPaper := ⟨(mT7 (i := 19) rfl rfl), (mT7 (i := 21) rfl rfl), (mTp (i := 54) (q := (⟨"LayerBookModel", "isPaper", "(I)Z"⟩, 81)) rfl)⟩
theorem vX10_457 : MWV RX10 457 yX10_lostNow := ⟨(mT7 (i := 46) rfl rfl), (mT7 (i := 48) rfl rfl), (mTp (i := 57) (q := (⟨"LayerBookModel", "lostNow", "()J"⟩, 81)) rfl)⟩
theorem vX10_466 : MWV RX10 466 yX10_field := ⟨(mT7 (i := 56) rfl rfl), (mT7 (i := 58) rfl rfl), (mTp (i := 59) (q := (⟨"LayerBookModel", "field", "(II)J"⟩, 81)) rfl)⟩
theorem vX10_478 : MWV RX10 478 yX10_isSo := ⟨(mT7 (i := 52) rfl rfl), (mT7 (i := 54) rfl rfl), (mTp (i := 58) (q := (⟨"LayerBookModel", "isSo", "(II)Z"⟩, 81)) rfl)⟩
theorem vX10_482 : MWV RX10 482 yX10_wish := ⟨(mT7 (i := 62) rfl rfl), (mT7 (i := 64) rfl rfl), (mTp (i := 60) (q := (⟨"LayerBookModel", "wish", "(IIJ)J"⟩, 81)) rfl)⟩
theorem vX10_489 : MWV RX10 489 yX10_anew := ⟨(mT7 (i := 38) rfl rfl), (mT7 (i := 40) rfl rfl), (mTp (i := 55) (q := (⟨"LayerBookModel", "anew", "()V"⟩, 81)) rfl)⟩
theorem vX10_492 : MWV RX10 492 yX10_pay := ⟨(mT7 (i := 42) rfl rfl), (mT7 (i := 44) rfl rfl), (mTp (i := 56) (q := (⟨"LayerBookModel", "pay", "(I)V"⟩, 81)) rfl)⟩
theorem vX10_495 : MWV RX10 495 yX10_collect := ⟨(mT7 (i := 74) rfl rfl), (mT7 (i := 76) rfl rfl), (mTp (i := 62) (q := (⟨"LayerBookModel", "collect", "(I)V"⟩, 81)) rfl)⟩
theorem vX10_498 : MWV RX10 498 yX10_goOn := ⟨(mT7 (i := 70) rfl rfl), (mT7 (i := 72) rfl rfl), (mTp (i := 61) (q := (⟨"LayerBookModel", "goOn", "()V"⟩, 81)) rfl)⟩
theorem vX10_504 : MWV RX10 504 yX10_pass := ⟨(mT7 (i := 136) rfl rfl), (mT7 (i := 138) rfl rfl), (mTp (i := 69) (q := (⟨"LayerBookModel", "pass", "(ZJ)J"⟩, 81)) rfl)⟩
theorem vX10_508 : MWV RX10 508 yX10_turn := ⟨(mT7 (i := 132) rfl rfl), (mT7 (i := 134) rfl rfl), (mTp (i := 68) (q := (⟨"LayerBookModel", "turn", "(Z)V"⟩, 81)) rfl)⟩
theorem vX10_515 : MWV RX10 515 yX10_noRow := ⟨(mT7 (i := 159) rfl rfl), (mT7 (i := 161) rfl rfl), (mTp (i := 70) (q := (⟨"LayerBookModel", "noRow", "(IIII)I"⟩, 81)) rfl)⟩
theorem vX10_518 : MWV RX10 518 yX10_loan := ⟨(mT7 (i := 167) rfl rfl), (mT6 (i := 88) rfl rfl), (mT6 (i := 89) rfl rfl)⟩
theorem vX2_41 : MWV RX2 41 yX2_goesOn := ⟨(mT4 (i := 132) rfl rfl), (mT4 (i := 133) rfl rfl), (mT4 (i := 134) rfl rfl)⟩
theorem vX2_45 : MWV RX2 45 yX2_isLast := ⟨(mT4 (i := 189) rfl rfl), (mT4 (i := 190) rfl rfl), (mT4 (i := 191) rfl rfl)⟩
theorem vX2_51 : MWV RX2 51 yX2_isKind := ⟨(mT4 (i := 140) rfl rfl), (mT4 (i := 141) rfl rfl), (mT4 (i := 142) rfl rfl)⟩
theorem vX2_54 : MWV RX2 54 yX2_interest := ⟨(mT4 (i := 150) rfl rfl), (mT4 (i := 151) rfl rfl), (mT4 (i := 152) rfl rfl)⟩
theorem vX2_67 : MWV RX2 67 yX2_left := ⟨(mT4 (i := 156) rfl rfl), (mT3 (i := 216) rfl rfl), (mT3 (i := 217) rfl rfl)⟩
theorem vX2_71 : MWV RX2 71 yX2_findPay := ⟨(mT4 (i := 146) rfl rfl), (mT4 (i := 148) rfl rfl), (mTp (i := 22) (q := (⟨"LayerBook$Loan", "findPay", "(I)V"⟩, 8)) rfl)⟩
theorem vX2_80 : MWV RX2 80 yX2_wouldEnd := ⟨(mT4 (i := 157) rfl rfl), (mT4 (i := 159) rfl rfl), (mTp (i := 23) (q := (⟨"LayerBook$Loan", "wouldEnd", "(JI)Z"⟩, 8)) rfl)⟩
theorem vX4_16 : MWV RX4 16 yX4_writeRest := ⟨(mT2 (i := 92) rfl rfl), (mT2 (i := 94) rfl rfl), (mTp (i := 0) (q := (⟨"LayerBook$Order", "writeRest", "(I)V"⟩, 2)) rfl)⟩
theorem vX4_20 : MWV RX4 20 yX8_begin := ⟨(mT3 (i := 227) rfl rfl), (mT3 (i := 0) rfl rfl), (mT3 (i := 1) rfl rfl)⟩
theorem vX4_27 : MWV RX4 27 yX8_takesWord := ⟨(mT3 (i := 229) rfl rfl), (mT3 (i := 230) rfl rfl), (mT3 (i := 231) rfl rfl)⟩
theorem vX4_31 : MWV RX4 31 yX8_isEnd := ⟨(mT3 (i := 234) rfl rfl), (mT3 (i := 191) rfl rfl), (mT3 (i := 192) rfl rfl)⟩
theorem vX4_43 : MWV RX4 43 yX8_takesSign := ⟨(mT4 (i := 15) rfl rfl), (mT3 (i := 177) rfl rfl), (mT3 (i := 178) rfl rfl)⟩
theorem vX4_56 : MWV RX4 56 yX8_which := ⟨(mT3 (i := 239) rfl rfl), (mT3 (i := 113) rfl rfl), (mT3 (i := 114) rfl rfl)⟩
theorem vX4_60 : MWV RX4 60 yX8_next := ⟨(mT4 (i := 0) rfl rfl), (mT3 (i := 4) rfl rfl), (mT3 (i := 5) rfl rfl)⟩
theorem vX4_82 : MWV RX4 82 yX8_isNumber := ⟨(mT4 (i := 8) rfl rfl), (mT3 (i := 187) rfl rfl), (mT3 (i := 188) rfl rfl)⟩
theorem vX5_17 : MWV RX5 17 yX5_restart := ⟨(mT2 (i := 198) rfl rfl), (mT2 (i := 199) rfl rfl), (mT2 (i := 200) rfl rfl)⟩
theorem vX6_22 : MWV RX6 22 yX2_copy := ⟨(mT5 (i := 24) rfl rfl), (mT5 (i := 25) rfl rfl), (mT5 (i := 26) rfl rfl)⟩
theorem vX6_44 : MWV RX6 44 yX2_isPooled := ⟨(mT4 (i := 128) rfl rfl), (mT4 (i := 129) rfl rfl), (mT4 (i := 130) rfl rfl)⟩
theorem vX6_54 : MWV RX6 54 yX3_clear := ⟨(mT4 (i := 120) rfl rfl), (mT4 (i := 121) rfl rfl), (mT4 (i := 122) rfl rfl)⟩
theorem vX6_59 : MWV RX6 59 yX6_balances := ⟨(mT4 (i := 124) rfl rfl), (mT4 (i := 125) rfl rfl), (mT4 (i := 126) rfl rfl)⟩
theorem vX6_66 : MWV RX6 66 yX2_begin := ⟨(mT4 (i := 136) rfl rfl), (mT4 (i := 137) rfl rfl), (mT4 (i := 138) rfl rfl)⟩
theorem vX6_70 : MWV RX6 70 yX2_goesOn := ⟨(mT4 (i := 164) rfl rfl), (mT4 (i := 133) rfl rfl), (mT4 (i := 134) rfl rfl)⟩
theorem vX6_73 : MWV RX6 73 yX6_draw := ⟨(mT4 (i := 165) rfl rfl), (mT4 (i := 167) rfl rfl), (mTp (i := 24) (q := (⟨"LayerBook$Pool", "draw", "(ILLayerBook$Loan;ILLayerBook$Month;)V"⟩, 7)) rfl)⟩
theorem vX6_81 : MWV RX6 81 yX2_isSoldIn := ⟨(mT4 (i := 209) rfl rfl), (mT4 (i := 210) rfl rfl), (mT4 (i := 211) rfl rfl)⟩
theorem vX6_85 : MWV RX6 85 yX6_sell := ⟨(mT4 (i := 213) rfl rfl), (mT4 (i := 215) rfl rfl), (mTp (i := 28) (q := (⟨"LayerBook$Pool", "sell", "(LLayerBook$Loan;LLayerBook$Month;)V"⟩, 7)) rfl)⟩
theorem vX6_105 : MWV RX6 105 yX6_late := ⟨(mT4 (i := 219) rfl rfl), (mT4 (i := 221) rfl rfl), (mTp (i := 29) (q := (⟨"LayerBook$Pool", "late", "()I"⟩, 7)) rfl)⟩
theorem vX6_111 : MWV RX6 111 yX6_chance := ⟨(mT4 (i := 169) rfl rfl), (mT4 (i := 171) rfl rfl), (mTp (i := 25) (q := (⟨"LayerBook$Pool", "chance", "(ILLayerBook$Loan;I)I"⟩, 7)) rfl)⟩
theorem vX6_115 : MWV RX6 115 yX6_lot := ⟨(mT4 (i := 176) rfl rfl), (mT4 (i := 178) rfl rfl), (mTp (i := 26) (q := (⟨"LayerBook$Pool", "lot", "(II)I"⟩, 7)) rfl)⟩
theorem vX6_125 : MWV RX6 125 yX2_rests := ⟨(mT4 (i := 185) rfl rfl), (mT4 (i := 186) rfl rfl), (mT4 (i := 187) rfl rfl)⟩
theorem vX6_128 : MWV RX6 128 yX6_fallLate := ⟨(mT4 (i := 193) rfl rfl), (mT4 (i := 195) rfl rfl), (mTp (i := 27) (q := (⟨"LayerBook$Pool", "fallLate", "(LLayerBook$Loan;ILLayerBook$Month;)V"⟩, 7)) rfl)⟩
theorem vX6_132 : MWV RX6 132 yX2_interest := ⟨(mT4 (i := 197) rfl rfl), (mT4 (i := 151) rfl rfl), (mT4 (i := 152) rfl rfl)⟩
theorem vX6_135 : MWV RX6 135 yX2_isLast := ⟨(mT4 (i := 198) rfl rfl), (mT4 (i := 190) rfl rfl), (mT4 (i := 191) rfl rfl)⟩
theorem vX6_141 : MWV RX6 141 yX1_value := ⟨(mT4 (i := 173) rfl rfl), (mT3 (i := 203) rfl rfl), (mT3 (i := 204) rfl rfl)⟩
theorem vX6_164 : MWV RX6 164 yX2_principal := ⟨(mT4 (i := 205) rfl rfl), (mT4 (i := 206) rfl rfl), (mT4 (i := 207) rfl rfl)⟩
theorem vX8_22 : MWV RX8 22 yX8_next := ⟨(mT3 (i := 3) rfl rfl), (mT3 (i := 4) rfl rfl), (mT3 (i := 5) rfl rfl)⟩
theorem vX8_28 : MWV RX8 28 yX8_at := ⟨(mT3 (i := 7) rfl rfl), (mT3 (i := 9) rfl rfl), (mTp (i := 1) (q := (⟨"LayerBook$Tape", "at", "(I)I"⟩, 6)) rfl)⟩
theorem vX8_45 : MWV RX8 45 yX8_readNumber := ⟨(mT3 (i := 20) rfl rfl), (mT3 (i := 22) rfl rfl), (mTp (i := 2) (q := (⟨"LayerBook$Tape", "readNumber", "()V"⟩, 6)) rfl)⟩
theorem vX8_58 : MWV RX8 58 yX8_isSign := ⟨(mT3 (i := 180) rfl rfl), (mT3 (i := 169) rfl rfl), (mT3 (i := 170) rfl rfl)⟩
theorem vX8_62 : MWV RX8 62 yX8_goesOn := ⟨(mT3 (i := 181) rfl rfl), (mT3 (i := 183) rfl rfl), (mTp (i := 10) (q := (⟨"LayerBook$Tape", "goesOn", "(Z)Z"⟩, 6)) rfl)⟩
theorem vX8_66 : MWV RX8 66 yX8_which := ⟨(mT3 (i := 233) rfl rfl), (mT3 (i := 113) rfl rfl), (mT3 (i := 114) rfl rfl)⟩
theorem vX8_78 : MWV RX8 78 yX8_isSame := ⟨(mT3 (i := 137) rfl rfl), (mT3 (i := 139) rfl rfl), (mTp (i := 3) (q := (⟨"LayerBook$Tape", "isSame", "(Ljava/lang/String;II)Z"⟩, 6)) rfl)⟩
theorem vX9_98 : MWV RX9 98 yX2_open := ⟨(mT2 (i := 181) rfl rfl), (mT2 (i := 182) rfl rfl), (mT2 (i := 183) rfl rfl)⟩
theorem vX9_131 : MWV RX9 131 yX5_open := ⟨(mT2 (i := 194) rfl rfl), (mT2 (i := 195) rfl rfl), (mT2 (i := 196) rfl rfl)⟩
theorem vX9_181 : MWV RX9 181 yX8_append := ⟨(mT2 (i := 227) rfl rfl), (mT2 (i := 228) rfl rfl), (mT2 (i := 229) rfl rfl)⟩
theorem vX9_185 : MWV RX9 185 yX1_read := ⟨(mT2 (i := 235) rfl rfl), (mT2 (i := 236) rfl rfl), (mT2 (i := 237) rfl rfl)⟩
theorem vX9_192 : MWV RX9 192 yX1_value := ⟨(mT3 (i := 202) rfl rfl), (mT3 (i := 203) rfl rfl), (mT3 (i := 204) rfl rfl)⟩
theorem vX9_196 : MWV RX9 196 yX4_read := ⟨(mT3 (i := 223) rfl rfl), (mT3 (i := 224) rfl rfl), (mT3 (i := 225) rfl rfl)⟩
theorem vX9_202 : MWV RX9 202 yX0_restart := ⟨(mT4 (i := 24) rfl rfl), (mT4 (i := 25) rfl rfl), (mT4 (i := 26) rfl rfl)⟩
theorem vX9_205 : MWV RX9 205 yX9_orderIn := ⟨(mT4 (i := 29) rfl rfl), (mT4 (i := 31) rfl rfl), (mTp (i := 11) (q := (⟨"LayerBook", "orderIn", "(I)LLayerBook$Order;"⟩, 15)) rfl)⟩
theorem vX9_209 : MWV RX9 209 yX0_pour := ⟨(mT4 (i := 33) rfl rfl), (mT4 (i := 34) rfl rfl), (mT4 (i := 35) rfl rfl)⟩
theorem vX9_213 : MWV RX9 213 yX6_collect := ⟨(mT4 (i := 116) rfl rfl), (mT4 (i := 117) rfl rfl), (mT4 (i := 118) rfl rfl)⟩
theorem vX9_217 : MWV RX9 217 yX3_fact := ⟨(mT4 (i := 227) rfl rfl), (mT4 (i := 228) rfl rfl), (mT4 (i := 229) rfl rfl)⟩
theorem vX9_225 : MWV RX9 225 yX2_goesOn := ⟨(mT4 (i := 239) rfl rfl), (mT4 (i := 133) rfl rfl), (mT4 (i := 134) rfl rfl)⟩
theorem vX9_229 : MWV RX9 229 yX9_refusalOf := ⟨(mT5 (i := 4) rfl rfl), (mT5 (i := 6) rfl rfl), (mTp (i := 30) (q := (⟨"LayerBook", "refusalOf", "(III)I"⟩, 15)) rfl)⟩
theorem vX9_233 : MWV RX9 233 yX7_holds := ⟨(mT5 (i := 8) rfl rfl), (mT5 (i := 9) rfl rfl), (mT5 (i := 10) rfl rfl)⟩
theorem vX9_240 : MWV RX9 240 yX9_firstUnlike := ⟨(mT5 (i := 12) rfl rfl), (mT5 (i := 14) rfl rfl), (mTp (i := 31) (q := (⟨"LayerBook", "firstUnlike", "([IIII)I"⟩, 15)) rfl)⟩
theorem vX9_244 : MWV RX9 244 yX6_copy := ⟨(mT5 (i := 20) rfl rfl), (mT5 (i := 21) rfl rfl), (mT5 (i := 22) rfl rfl)⟩
theorem vX9_248 : MWV RX9 248 yX0_copy := ⟨(mT5 (i := 28) rfl rfl), (mT5 (i := 29) rfl rfl), (mT5 (i := 30) rfl rfl)⟩
theorem vX9_260 : MWV RX9 260 yX5_got := ⟨(mT5 (i := 36) rfl rfl), (mT5 (i := 37) rfl rfl), (mT5 (i := 38) rfl rfl)⟩
theorem vX9_264 : MWV RX9 264 yX6_balances := ⟨(mT5 (i := 44) rfl rfl), (mT4 (i := 125) rfl rfl), (mT4 (i := 126) rfl rfl)⟩
theorem vX9_282 : MWV RX9 282 yX7_lay := ⟨(mT5 (i := 49) rfl rfl), (mT5 (i := 50) rfl rfl), (mT5 (i := 51) rfl rfl)⟩
theorem vX9_287 : MWV RX9 287 yX9_loan := ⟨(mT5 (i := 62) rfl rfl), (mT2 (i := 174) rfl rfl), (mT2 (i := 175) rfl rfl)⟩
theorem vX9_291 : MWV RX9 291 yX2_isKind := ⟨(mT5 (i := 67) rfl rfl), (mT4 (i := 141) rfl rfl), (mT4 (i := 142) rfl rfl)⟩
theorem kX10_190 : Cond.constant RX10 190 (999999) ∈ ALL := (mT6 (i := 97) rfl rfl)
theorem kX10_213 : Cond.constant RX10 213 (99999) ∈ ALL := (mT6 (i := 110) rfl rfl)
theorem kX9_87 : Cond.constant RX9 87 (999999) ∈ ALL := (mT2 (i := 180) rfl rfl)
theorem kX9_125 : Cond.constant RX9 125 (9999999) ∈ ALL := (mT2 (i := 193) rfl rfl)
theorem kX9_161 : Cond.constant RX9 161 (99999) ∈ ALL := (mT2 (i := 218) rfl rfl)
theorem kL_44 : Cond.constantLong RL 44 (4294967295) ∈ ALL := (mT7 (i := 175) rfl rfl)
theorem kX0_95 : Cond.constantLong RX0 95 (1000) ∈ ALL := (mT4 (i := 45) rfl rfl)
theorem kX0_140 : Cond.constantLong RX0 140 (9999) ∈ ALL := (mT4 (i := 71) rfl rfl)
theorem kX0_142 : Cond.constantLong RX0 142 (100) ∈ ALL := (mT4 (i := 72) rfl rfl)
theorem kX0_148 : Cond.constantLong RX0 148 (10000) ∈ ALL := (mT4 (i := 84) rfl rfl)
theorem kX10_163 : Cond.constantLong RX10 163 (7377293577726992443) ∈ ALL := (mT5 (i := 74) rfl rfl)
theorem kX10_169 : Cond.constantLong RX10 169 (2336349459239153696) ∈ ALL := (mT5 (i := 80) rfl rfl)
theorem kX10_171 : Cond.constantLong RX10 171 (4260516716698433824) ∈ ALL := (mT5 (i := 81) rfl rfl)
theorem kX10_173 : Cond.constantLong RX10 173 (3467836722239250464) ∈ ALL := (mT5 (i := 82) rfl rfl)
theorem kX10_181 : Cond.constantLong RX10 181 (255) ∈ ALL := (mT5 (i := 79) rfl rfl)
theorem kX10_220 : Cond.constantLong RX10 220 (7919) ∈ ALL := (mT7 (i := 108) rfl rfl)
theorem kX10_222 : Cond.constantLong RX10 222 (104729) ∈ ALL := (mT7 (i := 109) rfl rfl)
theorem kX10_224 : Cond.constantLong RX10 224 (48271) ∈ ALL := (mT7 (i := 110) rfl rfl)
theorem kX10_226 : Cond.constantLong RX10 226 (2147483647) ∈ ALL := (mT7 (i := 111) rfl rfl)
theorem kX10_228 : Cond.constantLong RX10 228 (1000) ∈ ALL := (mT7 (i := 50) rfl rfl)
theorem kX10_262 : Cond.constantLong RX10 262 (100) ∈ ALL := (mT7 (i := 61) rfl rfl)
theorem kX10_292 : Cond.constantLong RX10 292 (27) ∈ ALL := (mT6 (i := 135) rfl rfl)
theorem kX10_294 : Cond.constantLong RX10 294 (96) ∈ ALL := (mT6 (i := 136) rfl rfl)
theorem kX10_296 : Cond.constantLong RX10 296 (-1) ∈ ALL := (mT6 (i := 137) rfl rfl)
theorem kX10_298 : Cond.constantLong RX10 298 (10) ∈ ALL := (mT6 (i := 138) rfl rfl)
theorem kX10_300 : Cond.constantLong RX10 300 (48) ∈ ALL := (mT6 (i := 139) rfl rfl)
theorem kX10_318 : Cond.constantLong RX10 318 (7214732) ∈ ALL := (mT6 (i := 190) rfl rfl)
theorem kX10_327 : Cond.constantLong RX10 327 (355568) ∈ ALL := (mT6 (i := 191) rfl rfl)
theorem kX10_332 : Cond.constantLong RX10 332 (240023) ∈ ALL := (mT6 (i := 192) rfl rfl)
theorem kX10_337 : Cond.constantLong RX10 337 (312151) ∈ ALL := (mT6 (i := 193) rfl rfl)
theorem kX10_342 : Cond.constantLong RX10 342 (795597152) ∈ ALL := (mT6 (i := 194) rfl rfl)
theorem kX10_347 : Cond.constantLong RX10 347 (223456) ∈ ALL := (mT6 (i := 195) rfl rfl)
theorem kX10_371 : Cond.constantLong RX10 371 (43) ∈ ALL := (mT6 (i := 196) rfl rfl)
theorem kX10_373 : Cond.constantLong RX10 373 (10631) ∈ ALL := (mT6 (i := 165) rfl rfl)
theorem kX10_381 : Cond.constantLong RX10 381 (60) ∈ ALL := (mT6 (i := 197) rfl rfl)
theorem kX10_383 : Cond.constantLong RX10 383 (1111) ∈ ALL := (mT6 (i := 198) rfl rfl)
theorem kX10_388 : Cond.constantLong RX10 388 (423) ∈ ALL := (mT6 (i := 199) rfl rfl)
theorem kX10_390 : Cond.constantLong RX10 390 (119082) ∈ ALL := (mT6 (i := 140) rfl rfl)
theorem kX10_396 : Cond.constantLong RX10 396 (237470) ∈ ALL := (mT6 (i := 200) rfl rfl)
theorem kX10_398 : Cond.constantLong RX10 398 (2690359) ∈ ALL := (mT6 (i := 201) rfl rfl)
theorem kX10_406 : Cond.constantLong RX10 406 (-4611686018427387904) ∈ ALL := (mT6 (i := 214) rfl rfl)
theorem kX10_408 : Cond.constantLong RX10 408 (5) ∈ ALL := (mT6 (i := 233) rfl rfl)
theorem kX10_410 : Cond.constantLong RX10 410 (247664) ∈ ALL := (mT7 (i := 3) rfl rfl)
theorem kX10_412 : Cond.constantLong RX10 412 (1905759) ∈ ALL := (mT7 (i := 4) rfl rfl)
theorem kX10_414 : Cond.constantLong RX10 414 (407041) ∈ ALL := (mT7 (i := 5) rfl rfl)
theorem kX10_416 : Cond.constantLong RX10 416 (4514) ∈ ALL := (mT6 (i := 224) rfl rfl)
theorem kX10_418 : Cond.constantLong RX10 418 (11716) ∈ ALL := (mT6 (i := 225) rfl rfl)
theorem kX10_420 : Cond.constantLong RX10 420 (11570) ∈ ALL := (mT6 (i := 226) rfl rfl)
theorem kX10_422 : Cond.constantLong RX10 422 (316163) ∈ ALL := (mT6 (i := 227) rfl rfl)
theorem kX10_424 : Cond.constantLong RX10 424 (220309) ∈ ALL := (mT6 (i := 228) rfl rfl)
theorem kX10_432 : Cond.constantLong RX10 432 (249) ∈ ALL := (mT6 (i := 238) rfl rfl)
theorem kX10_437 : Cond.constantLong RX10 437 (358472) ∈ ALL := (mT6 (i := 219) rfl rfl)
theorem kX10_461 : Cond.constantLong RX10 461 (9999) ∈ ALL := (mT7 (i := 60) rfl rfl)
theorem kX10_470 : Cond.constantLong RX10 470 (10000) ∈ ALL := (mT7 (i := 51) rfl rfl)
theorem kX2_49 : Cond.constantLong RX2 49 (10000) ∈ ALL := (mT4 (i := 154) rfl rfl)
theorem kX2_78 : Cond.constantLong RX2 78 (2) ∈ ALL := (mT4 (i := 155) rfl rfl)
theorem kX5_41 : Cond.constantLong RX5 41 (10000) ∈ ALL := (mT4 (i := 50) rfl rfl)
theorem kX6_151 : Cond.constantLong RX6 151 (7919) ∈ ALL := (mT4 (i := 180) rfl rfl)
theorem kX6_153 : Cond.constantLong RX6 153 (104729) ∈ ALL := (mT4 (i := 181) rfl rfl)
theorem kX6_155 : Cond.constantLong RX6 155 (48271) ∈ ALL := (mT4 (i := 182) rfl rfl)
theorem kX6_157 : Cond.constantLong RX6 157 (2147483647) ∈ ALL := (mT4 (i := 183) rfl rfl)
theorem kX6_159 : Cond.constantLong RX6 159 (1000) ∈ ALL := (mT4 (i := 184) rfl rfl)
theorem kX6_171 : Cond.constantLong RX6 171 (100) ∈ ALL := (mT4 (i := 217) rfl rfl)
theorem kX9_152 : Cond.constantLong RX9 152 (-4611686018427387904) ∈ ALL := (mT2 (i := 210) rfl rfl)
theorem kX9_285 : Cond.constantLong RX9 285 (3) ∈ ALL := (mT5 (i := 61) rfl rfl)
theorem kX10_443 : Cond.constant RX10 443 (9999999) ∈ ALL := (mT7 (i := 14) rfl rfl)
theorem fX0_67 : FW RX0 67 3 11 .boolean false := ⟨RX3, TX3, 13, CF3, (mT1 (i := 232) rfl rfl), by decide, rfl, rfl⟩
theorem fX0_91 : FW RX0 91 3 10 .long false := ⟨RX3, TX3, 13, CF3, (mT1 (i := 231) rfl rfl), by decide, rfl, rfl⟩
theorem fX3_9 : FW RX3 9 3 12 (.array .long) true := ⟨RX3, TX3, 13, CF3, (mT1 (i := 234) rfl rfl), by decide, rfl, rfl⟩
theorem fX4_51 : FW RX4 51 4 1 .int false := ⟨RX4, TX4, 2, CF4, (mT2 (i := 102) rfl rfl), by decide, rfl, rfl⟩
theorem fX6_63 : FW RX6 63 3 6 .long false := ⟨RX3, TX3, 13, CF3, (mT1 (i := 219) rfl rfl), by decide, rfl, rfl⟩
theorem fX6_102 : FW RX6 102 3 7 .long false := ⟨RX3, TX3, 13, CF3, (mT1 (i := 222) rfl rfl), by decide, rfl, rfl⟩
theorem fX6_109 : FW RX6 109 3 9 .int false := ⟨RX3, TX3, 13, CF3, (mT1 (i := 228) rfl rfl), by decide, rfl, rfl⟩
theorem fX6_119 : FW RX6 119 2 7 .int false := ⟨RX2, TX2, 8, CF2, (mT1 (i := 62) rfl rfl), by decide, rfl, rfl⟩
theorem fX7_15 : FW RX7 15 7 1 .int false := ⟨RX7, TX7, 3, CF7, (mT2 (i := 117) rfl rfl), by decide, rfl, rfl⟩
theorem fX9_172 : FW RX9 172 0 2 .int false := ⟨RX0, TX0, 10, CF0, (mT1 (i := 164) rfl rfl), by decide, rfl, rfl⟩
theorem fX9_175 : FW RX9 175 0 3 .int false := ⟨RX0, TX0, 10, CF0, (mT1 (i := 166) rfl rfl), by decide, rfl, rfl⟩
theorem mX9_init : MW yX9_init cX9_init 2 none 0 := ⟨(mT1 (i := 1) rfl rfl), (mT1 (i := 22) rfl rfl), by decide +kernel, by decide +kernel, by decide +kernel⟩
theorem mX9_amend : MW yX9_amend cX9_amend 4 (some .int) 2 := ⟨(mT1 (i := 1) rfl rfl), (mT4 (i := 23) rfl rfl), by decide +kernel, by decide +kernel, by decide +kernel⟩
theorem mX9_beside : MW yX9_beside cX9_beside 7 (some .long) 3 := ⟨(mT1 (i := 1) rfl rfl), (mT5 (i := 19) rfl rfl), by decide +kernel, by decide +kernel, by decide +kernel⟩
theorem mX9_buy : MW yX9_buy cX9_buy 3 (some .int) 1 := ⟨(mT1 (i := 1) rfl rfl), (mT4 (i := 238) rfl rfl), by decide +kernel, by decide +kernel, by decide +kernel⟩
theorem mX9_cell : MW yX9_cell cX9_cell 5 (some .int) 3 := ⟨(mT1 (i := 1) rfl rfl), (mT5 (i := 56) rfl rfl), by decide +kernel, by decide +kernel, by decide +kernel⟩
theorem mX9_commonDivisor : MW yX9_commonDivisor cX9_commonDivisor 7 (some .long) 2 := ⟨(mT1 (i := 1) rfl rfl), (mT2 (i := 213) rfl rfl), by decide +kernel, by decide +kernel, by decide +kernel⟩
theorem mX9_count : MW yX9_count cX9_count 2 (some .int) 1 := ⟨(mT1 (i := 1) rfl rfl), (mT5 (i := 43) rfl rfl), by decide +kernel, by decide +kernel, by decide +kernel⟩
theorem mX9_feed : MW yX9_feed cX9_feed 4 (some .int) 2 := ⟨(mT1 (i := 1) rfl rfl), (mT2 (i := 226) rfl rfl), by decide +kernel, by decide +kernel, by decide +kernel⟩
theorem mX9_firstUnlike : MW yX9_firstUnlike cX9_firstUnlike 9 (some .int) 4 := ⟨(mT1 (i := 1) rfl rfl), (mT5 (i := 15) rfl rfl), by decide +kernel, by decide +kernel, by decide +kernel⟩
theorem mX9_force : MW yX9_force cX9_force 3 (some .int) 1 := ⟨(mT1 (i := 1) rfl rfl), (mT3 (i := 197) rfl rfl), by decide +kernel, by decide +kernel, by decide +kernel⟩
theorem mX9_life : MW yX9_life cX9_life 6 (some .long) 2 := ⟨(mT1 (i := 1) rfl rfl), (mT2 (i := 209) rfl rfl), by decide +kernel, by decide +kernel, by decide +kernel⟩
theorem mX9_loan : MW yX9_loan cX9_loan 5 (some .int) 4 := ⟨(mT1 (i := 1) rfl rfl), (mT2 (i := 176) rfl rfl), by decide +kernel, by decide +kernel, by decide +kernel⟩
theorem mX9_loanTold : MW yX9_loanTold cX9_loanTold 4 (some .int) 2 := ⟨(mT1 (i := 1) rfl rfl), (mT2 (i := 188) rfl rfl), by decide +kernel, by decide +kernel, by decide +kernel⟩
theorem mX9_loans : MW yX9_loans cX9_loans 12 (some .int) 4 := ⟨(mT1 (i := 1) rfl rfl), (mT5 (i := 60) rfl rfl), by decide +kernel, by decide +kernel, by decide +kernel⟩
theorem mX9_month : MW yX9_month cX9_month 3 (some .int) 2 := ⟨(mT1 (i := 1) rfl rfl), (mT4 (i := 226) rfl rfl), by decide +kernel, by decide +kernel, by decide +kernel⟩
theorem mX9_order : MW yX9_order cX9_order 2 (some .int) 0 := ⟨(mT1 (i := 1) rfl rfl), (mT3 (i := 222) rfl rfl), by decide +kernel, by decide +kernel, by decide +kernel⟩
theorem mX9_orderIn : MW yX9_orderIn cX9_orderIn 3 (some (.object "LayerBook$Order")) 1 := ⟨(mT1 (i := 1) rfl rfl), (mT4 (i := 32) rfl rfl), by decide +kernel, by decide +kernel, by decide +kernel⟩
theorem mX9_paid : MW yX9_paid cX9_paid 3 (some .int) 2 := ⟨(mT1 (i := 1) rfl rfl), (mT4 (i := 234) rfl rfl), by decide +kernel, by decide +kernel, by decide +kernel⟩
theorem mX9_paper : MW yX9_paper cX9_paper 3 (some .int) 2 := ⟨(mT1 (i := 1) rfl rfl), (mT2 (i := 192) rfl rfl), by decide +kernel, by decide +kernel, by decide +kernel⟩
theorem mX9_paperTold : MW yX9_paperTold cX9_paperTold 4 (some .int) 2 := ⟨(mT1 (i := 1) rfl rfl), (mT2 (i := 205) rfl rfl), by decide +kernel, by decide +kernel, by decide +kernel⟩
theorem mX9_refusalOf : MW yX9_refusalOf cX9_refusalOf 4 (some .int) 3 := ⟨(mT1 (i := 1) rfl rfl), (mT5 (i := 7) rfl rfl), by decide +kernel, by decide +kernel, by decide +kernel⟩
theorem mX9_report : MW yX9_report cX9_report 7 (some .int) 5 := ⟨(mT1 (i := 1) rfl rfl), (mT5 (i := 3) rfl rfl), by decide +kernel, by decide +kernel, by decide +kernel⟩
theorem mX9_run : MW yX9_run cX9_run 3 (some .int) 1 := ⟨(mT1 (i := 1) rfl rfl), (mT4 (i := 115) rfl rfl), by decide +kernel, by decide +kernel, by decide +kernel⟩
theorem mX9_says : MW yX9_says cX9_says 3 (some .long) 2 := ⟨(mT1 (i := 1) rfl rfl), (mT3 (i := 201) rfl rfl), by decide +kernel, by decide +kernel, by decide +kernel⟩
theorem mX9_sheet : MW yX9_sheet cX9_sheet 4 (some .int) 3 := ⟨(mT1 (i := 1) rfl rfl), (mT5 (i := 48) rfl rfl), by decide +kernel, by decide +kernel, by decide +kernel⟩
theorem mX9_step : MW yX9_step cX9_step 5 (some .int) 3 := ⟨(mT1 (i := 1) rfl rfl), (mT4 (i := 19) rfl rfl), by decide +kernel, by decide +kernel, by decide +kernel⟩
theorem mX9_taken : MW yX9_taken cX9_taken 4 (some .int) 2 := ⟨(mT1 (i := 1) rfl rfl), (mT5 (i := 66) rfl rfl), by decide +kernel, by decide +kernel, by decide +kernel⟩
theorem mX9_tell : MW yX9_tell cX9_tell 4 (some .int) 2 := ⟨(mT1 (i := 1) rfl rfl), (mT2 (i := 217) rfl rfl), by decide +kernel, by decide +kernel, by decide +kernel⟩
theorem mX9_text : MW yX9_text cX9_text 2 (some .int) 0 := ⟨(mT1 (i := 1) rfl rfl), (mT2 (i := 234) rfl rfl), by decide +kernel, by decide +kernel, by decide +kernel⟩
theorem mX9_trip : MW yX9_trip cX9_trip 3 (some .int) 2 := ⟨(mT1 (i := 1) rfl rfl), (mT2 (i := 222) rfl rfl), by decide +kernel, by decide +kernel, by decide +kernel⟩
theorem mX9_within : MW yX9_within cX9_within 3 (some .boolean) 3 := ⟨(mT1 (i := 1) rfl rfl), (mT2 (i := 179) rfl rfl), by decide +kernel, by decide +kernel, by decide +kernel⟩
theorem mX0_init : MW yX0_init cX0_init 2 none 0 := ⟨(mT1 (i := 4) rfl rfl), (mT1 (i := 113) rfl rfl), by decide +kernel, by decide +kernel, by decide +kernel⟩
theorem mX0_copy : MW yX0_copy cX0_copy 3 none 1 := ⟨(mT1 (i := 4) rfl rfl), (mT5 (i := 31) rfl rfl), by decide +kernel, by decide +kernel, by decide +kernel⟩
theorem mX0_cover : MW yX0_cover cX0_cover 5 (some .long) 1 := ⟨(mT1 (i := 4) rfl rfl), (mT4 (i := 70) rfl rfl), by decide +kernel, by decide +kernel, by decide +kernel⟩
theorem mX0_field : MW yX0_field cX0_field 4 (some .long) 3 := ⟨(mT1 (i := 4) rfl rfl), (mT4 (i := 66) rfl rfl), by decide +kernel, by decide +kernel, by decide +kernel⟩
theorem mX0_give : MW yX0_give cX0_give 6 none 3 := ⟨(mT1 (i := 4) rfl rfl), (mT4 (i := 91) rfl rfl), by decide +kernel, by decide +kernel, by decide +kernel⟩
theorem mX0_lostShare : MW yX0_lostShare cX0_lostShare 1 (some .long) 0 := ⟨(mT1 (i := 4) rfl rfl), (mT4 (i := 44) rfl rfl), by decide +kernel, by decide +kernel, by decide +kernel⟩
theorem mX0_paperOf : MW yX0_paperOf cX0_paperOf 3 (some (.object "LayerBook$Paper")) 1 := ⟨(mT1 (i := 4) rfl rfl), (mT4 (i := 83) rfl rfl), by decide +kernel, by decide +kernel, by decide +kernel⟩
theorem mX0_passes : MW yX0_passes cX0_passes 8 (some .boolean) 3 := ⟨(mT1 (i := 4) rfl rfl), (mT4 (i := 62) rfl rfl), by decide +kernel, by decide +kernel, by decide +kernel⟩
theorem mX0_pour : MW yX0_pour cX0_pour 5 none 3 := ⟨(mT1 (i := 4) rfl rfl), (mT4 (i := 36) rfl rfl), by decide +kernel, by decide +kernel, by decide +kernel⟩
theorem mX0_restart : MW yX0_restart cX0_restart 2 none 0 := ⟨(mT1 (i := 4) rfl rfl), (mT4 (i := 27) rfl rfl), by decide +kernel, by decide +kernel, by decide +kernel⟩
theorem mX0_takeSteps : MW yX0_takeSteps cX0_takeSteps 9 none 3 := ⟨(mT1 (i := 4) rfl rfl), (mT4 (i := 58) rfl rfl), by decide +kernel, by decide +kernel, by decide +kernel⟩
theorem mX0_turnTrip : MW yX0_turnTrip cX0_turnTrip 3 none 1 := ⟨(mT1 (i := 4) rfl rfl), (mT4 (i := 40) rfl rfl), by decide +kernel, by decide +kernel, by decide +kernel⟩
theorem mX0_wish : MW yX0_wish cX0_wish 7 (some .long) 3 := ⟨(mT1 (i := 4) rfl rfl), (mT4 (i := 79) rfl rfl), by decide +kernel, by decide +kernel, by decide +kernel⟩
theorem mX0_writeDown : MW yX0_writeDown cX0_writeDown 8 none 1 := ⟨(mT1 (i := 4) rfl rfl), (mT4 (i := 107) rfl rfl), by decide +kernel, by decide +kernel, by decide +kernel⟩
theorem mX1_init : MW yX1_init cX1_init 1 none 0 := ⟨(mT1 (i := 8) rfl rfl), (mT2 (i := 67) rfl rfl), by decide +kernel, by decide +kernel, by decide +kernel⟩
theorem mX1_closes : MW yX1_closes cX1_closes 1 (some .boolean) 0 := ⟨(mT1 (i := 8) rfl rfl), (mT3 (i := 158) rfl rfl), by decide +kernel, by decide +kernel, by decide +kernel⟩
theorem mX1_joined : MW yX1_joined cX1_joined 3 (some .int) 3 := ⟨(mT1 (i := 8) rfl rfl), (mT3 (i := 211) rfl rfl), by decide +kernel, by decide +kernel, by decide +kernel⟩
theorem mX1_named : MW yX1_named cX1_named 3 (some .int) 3 := ⟨(mT1 (i := 8) rfl rfl), (mT3 (i := 214) rfl rfl), by decide +kernel, by decide +kernel, by decide +kernel⟩
theorem mX1_opens : MW yX1_opens cX1_opens 2 (some .boolean) 1 := ⟨(mT1 (i := 8) rfl rfl), (mT3 (i := 154) rfl rfl), by decide +kernel, by decide +kernel, by decide +kernel⟩
theorem mX1_read : MW yX1_read cX1_read 3 (some .int) 1 := ⟨(mT1 (i := 8) rfl rfl), (mT2 (i := 238) rfl rfl), by decide +kernel, by decide +kernel, by decide +kernel⟩
theorem mX1_readChain : MW yX1_readChain cX1_readChain 6 (some .boolean) 2 := ⟨(mT1 (i := 8) rfl rfl), (mT3 (i := 145) rfl rfl), by decide +kernel, by decide +kernel, by decide +kernel⟩
theorem mX1_readCompared : MW yX1_readCompared cX1_readCompared 3 (some .boolean) 1 := ⟨(mT1 (i := 8) rfl rfl), (mT3 (i := 149) rfl rfl), by decide +kernel, by decide +kernel, by decide +kernel⟩
theorem mX1_readOne : MW yX1_readOne cX1_readOne 4 (some .boolean) 1 := ⟨(mT1 (i := 8) rfl rfl), (mT3 (i := 175) rfl rfl), by decide +kernel, by decide +kernel, by decide +kernel⟩
theorem mX1_signOf : MW yX1_signOf cX1_signOf 2 (some .int) 2 := ⟨(mT1 (i := 8) rfl rfl), (mT3 (i := 165) rfl rfl), by decide +kernel, by decide +kernel, by decide +kernel⟩
theorem mX1_truth : MW yX1_truth cX1_truth 1 (some .int) 1 := ⟨(mT1 (i := 8) rfl rfl), (mT3 (i := 208) rfl rfl), by decide +kernel, by decide +kernel, by decide +kernel⟩
theorem mX1_value : MW yX1_value cX1_value 7 (some .int) 3 := ⟨(mT1 (i := 8) rfl rfl), (mT3 (i := 205) rfl rfl), by decide +kernel, by decide +kernel, by decide +kernel⟩
theorem mX1_write : MW yX1_write cX1_write 2 (some .boolean) 1 := ⟨(mT1 (i := 8) rfl rfl), (mT3 (i := 162) rfl rfl), by decide +kernel, by decide +kernel, by decide +kernel⟩
theorem mX2_init : MW yX2_init cX2_init 1 none 0 := ⟨(mT1 (i := 3) rfl rfl), (mT1 (i := 37) rfl rfl), by decide +kernel, by decide +kernel, by decide +kernel⟩
theorem mX2_begin : MW yX2_begin cX2_begin 2 none 1 := ⟨(mT1 (i := 3) rfl rfl), (mT4 (i := 139) rfl rfl), by decide +kernel, by decide +kernel, by decide +kernel⟩
theorem mX2_copy : MW yX2_copy cX2_copy 2 none 1 := ⟨(mT1 (i := 3) rfl rfl), (mT5 (i := 27) rfl rfl), by decide +kernel, by decide +kernel, by decide +kernel⟩
theorem mX2_findPay : MW yX2_findPay cX2_findPay 9 none 1 := ⟨(mT1 (i := 3) rfl rfl), (mT4 (i := 149) rfl rfl), by decide +kernel, by decide +kernel, by decide +kernel⟩
theorem mX2_goesOn : MW yX2_goesOn cX2_goesOn 1 (some .boolean) 0 := ⟨(mT1 (i := 3) rfl rfl), (mT4 (i := 135) rfl rfl), by decide +kernel, by decide +kernel, by decide +kernel⟩
theorem mX2_interest : MW yX2_interest cX2_interest 1 (some .long) 0 := ⟨(mT1 (i := 3) rfl rfl), (mT4 (i := 153) rfl rfl), by decide +kernel, by decide +kernel, by decide +kernel⟩
theorem mX2_isKind : MW yX2_isKind cX2_isKind 4 (some .boolean) 1 := ⟨(mT1 (i := 3) rfl rfl), (mT4 (i := 143) rfl rfl), by decide +kernel, by decide +kernel, by decide +kernel⟩
theorem mX2_isLast : MW yX2_isLast cX2_isLast 2 (some .boolean) 1 := ⟨(mT1 (i := 3) rfl rfl), (mT4 (i := 192) rfl rfl), by decide +kernel, by decide +kernel, by decide +kernel⟩
theorem mX2_isPooled : MW yX2_isPooled cX2_isPooled 1 (some .boolean) 0 := ⟨(mT1 (i := 3) rfl rfl), (mT4 (i := 131) rfl rfl), by decide +kernel, by decide +kernel, by decide +kernel⟩
theorem mX2_isSoldIn : MW yX2_isSoldIn cX2_isSoldIn 2 (some .boolean) 1 := ⟨(mT1 (i := 3) rfl rfl), (mT4 (i := 212) rfl rfl), by decide +kernel, by decide +kernel, by decide +kernel⟩
theorem mX2_left : MW yX2_left cX2_left 2 (some .int) 1 := ⟨(mT1 (i := 3) rfl rfl), (mT3 (i := 218) rfl rfl), by decide +kernel, by decide +kernel, by decide +kernel⟩
theorem mX2_open : MW yX2_open cX2_open 5 none 4 := ⟨(mT1 (i := 3) rfl rfl), (mT2 (i := 184) rfl rfl), by decide +kernel, by decide +kernel, by decide +kernel⟩
theorem mX2_principal : MW yX2_principal cX2_principal 4 (some .long) 1 := ⟨(mT1 (i := 3) rfl rfl), (mT4 (i := 208) rfl rfl), by decide +kernel, by decide +kernel, by decide +kernel⟩
theorem mX2_rests : MW yX2_rests cX2_rests 2 (some .boolean) 1 := ⟨(mT1 (i := 3) rfl rfl), (mT4 (i := 188) rfl rfl), by decide +kernel, by decide +kernel, by decide +kernel⟩
theorem mX2_wouldEnd : MW yX2_wouldEnd cX2_wouldEnd 7 (some .boolean) 2 := ⟨(mT1 (i := 3) rfl rfl), (mT4 (i := 160) rfl rfl), by decide +kernel, by decide +kernel, by decide +kernel⟩
theorem mX3_init : MW yX3_init cX3_init 1 none 0 := ⟨(mT1 (i := 6) rfl rfl), (mT1 (i := 201) rfl rfl), by decide +kernel, by decide +kernel, by decide +kernel⟩
theorem mX3_clear : MW yX3_clear cX3_clear 1 none 0 := ⟨(mT1 (i := 6) rfl rfl), (mT4 (i := 123) rfl rfl), by decide +kernel, by decide +kernel, by decide +kernel⟩
theorem mX3_collected : MW yX3_collected cX3_collected 1 (some .long) 0 := ⟨(mT1 (i := 6) rfl rfl), (mT4 (i := 54) rfl rfl), by decide +kernel, by decide +kernel, by decide +kernel⟩
theorem mX3_fact : MW yX3_fact cX3_fact 2 (some .int) 1 := ⟨(mT1 (i := 6) rfl rfl), (mT4 (i := 230) rfl rfl), by decide +kernel, by decide +kernel, by decide +kernel⟩
theorem mX4_init : MW yX4_init cX4_init 1 none 0 := ⟨(mT1 (i := 9) rfl rfl), (mT2 (i := 88) rfl rfl), by decide +kernel, by decide +kernel, by decide +kernel⟩
theorem mX4_clear : MW yX4_clear cX4_clear 1 none 1 := ⟨(mT1 (i := 9) rfl rfl), (mT2 (i := 98) rfl rfl), by decide +kernel, by decide +kernel, by decide +kernel⟩
theorem mX4_read : MW yX4_read cX4_read 4 (some .int) 1 := ⟨(mT1 (i := 9) rfl rfl), (mT3 (i := 226) rfl rfl), by decide +kernel, by decide +kernel, by decide +kernel⟩
theorem mX4_readNumber : MW yX4_readNumber cX4_readNumber 3 (some .boolean) 3 := ⟨(mT1 (i := 9) rfl rfl), (mT4 (i := 7) rfl rfl), by decide +kernel, by decide +kernel, by decide +kernel⟩
theorem mX4_readStep : MW yX4_readStep cX4_readStep 5 (some .boolean) 2 := ⟨(mT1 (i := 9) rfl rfl), (mT3 (i := 237) rfl rfl), by decide +kernel, by decide +kernel, by decide +kernel⟩
theorem mX4_readTest : MW yX4_readTest cX4_readTest 4 (some .boolean) 2 := ⟨(mT1 (i := 9) rfl rfl), (mT4 (i := 12) rfl rfl), by decide +kernel, by decide +kernel, by decide +kernel⟩
theorem mX4_readWord : MW yX4_readWord cX4_readWord 5 (some .boolean) 4 := ⟨(mT1 (i := 9) rfl rfl), (mT4 (i := 4) rfl rfl), by decide +kernel, by decide +kernel, by decide +kernel⟩
theorem mX4_writeRest : MW yX4_writeRest cX4_writeRest 2 none 1 := ⟨(mT1 (i := 9) rfl rfl), (mT2 (i := 95) rfl rfl), by decide +kernel, by decide +kernel, by decide +kernel⟩
theorem mX5_init : MW yX5_init cX5_init 1 none 0 := ⟨(mT1 (i := 5) rfl rfl), (mT1 (i := 120) rfl rfl), by decide +kernel, by decide +kernel, by decide +kernel⟩
theorem mX5_begin : MW yX5_begin cX5_begin 1 none 0 := ⟨(mT1 (i := 5) rfl rfl), (mT4 (i := 49) rfl rfl), by decide +kernel, by decide +kernel, by decide +kernel⟩
theorem mX5_copy : MW yX5_copy cX5_copy 2 none 1 := ⟨(mT1 (i := 5) rfl rfl), (mT5 (i := 35) rfl rfl), by decide +kernel, by decide +kernel, by decide +kernel⟩
theorem mX5_end : MW yX5_end cX5_end 1 none 0 := ⟨(mT1 (i := 5) rfl rfl), (mT4 (i := 103) rfl rfl), by decide +kernel, by decide +kernel, by decide +kernel⟩
theorem mX5_got : MW yX5_got cX5_got 1 (some .long) 0 := ⟨(mT1 (i := 5) rfl rfl), (mT5 (i := 39) rfl rfl), by decide +kernel, by decide +kernel, by decide +kernel⟩
theorem mX5_open : MW yX5_open cX5_open 3 none 2 := ⟨(mT1 (i := 5) rfl rfl), (mT2 (i := 197) rfl rfl), by decide +kernel, by decide +kernel, by decide +kernel⟩
theorem mX5_payInterest : MW yX5_payInterest cX5_payInterest 3 none 1 := ⟨(mT1 (i := 5) rfl rfl), (mT4 (i := 95) rfl rfl), by decide +kernel, by decide +kernel, by decide +kernel⟩
theorem mX5_payPrincipal : MW yX5_payPrincipal cX5_payPrincipal 4 none 2 := ⟨(mT1 (i := 5) rfl rfl), (mT4 (i := 99) rfl rfl), by decide +kernel, by decide +kernel, by decide +kernel⟩
theorem mX5_restart : MW yX5_restart cX5_restart 1 none 0 := ⟨(mT1 (i := 5) rfl rfl), (mT2 (i := 201) rfl rfl), by decide +kernel, by decide +kernel, by decide +kernel⟩
theorem mX5_writeDown : MW yX5_writeDown cX5_writeDown 3 none 1 := ⟨(mT1 (i := 5) rfl rfl), (mT4 (i := 111) rfl rfl), by decide +kernel, by decide +kernel, by decide +kernel⟩
theorem mX6_init : MW yX6_init cX6_init 2 none 0 := ⟨(mT1 (i := 2) rfl rfl), (mT1 (i := 30) rfl rfl), by decide +kernel, by decide +kernel, by decide +kernel⟩
theorem mX6_balances : MW yX6_balances cX6_balances 4 (some .long) 0 := ⟨(mT1 (i := 2) rfl rfl), (mT4 (i := 127) rfl rfl), by decide +kernel, by decide +kernel, by decide +kernel⟩
theorem mX6_chance : MW yX6_chance cX6_chance 4 (some .int) 3 := ⟨(mT1 (i := 2) rfl rfl), (mT4 (i := 172) rfl rfl), by decide +kernel, by decide +kernel, by decide +kernel⟩
theorem mX6_collect : MW yX6_collect cX6_collect 5 none 2 := ⟨(mT1 (i := 2) rfl rfl), (mT4 (i := 119) rfl rfl), by decide +kernel, by decide +kernel, by decide +kernel⟩
theorem mX6_copy : MW yX6_copy cX6_copy 3 none 1 := ⟨(mT1 (i := 2) rfl rfl), (mT5 (i := 23) rfl rfl), by decide +kernel, by decide +kernel, by decide +kernel⟩
theorem mX6_draw : MW yX6_draw cX6_draw 9 none 4 := ⟨(mT1 (i := 2) rfl rfl), (mT4 (i := 168) rfl rfl), by decide +kernel, by decide +kernel, by decide +kernel⟩
theorem mX6_fallLate : MW yX6_fallLate cX6_fallLate 6 none 3 := ⟨(mT1 (i := 2) rfl rfl), (mT4 (i := 196) rfl rfl), by decide +kernel, by decide +kernel, by decide +kernel⟩
theorem mX6_late : MW yX6_late cX6_late 3 (some .int) 0 := ⟨(mT1 (i := 2) rfl rfl), (mT4 (i := 222) rfl rfl), by decide +kernel, by decide +kernel, by decide +kernel⟩
theorem mX6_lot : MW yX6_lot cX6_lot 5 (some .int) 2 := ⟨(mT1 (i := 2) rfl rfl), (mT4 (i := 179) rfl rfl), by decide +kernel, by decide +kernel, by decide +kernel⟩
theorem mX6_payAll : MW yX6_payAll cX6_payAll 5 none 4 := ⟨(mT1 (i := 2) rfl rfl), (mT4 (i := 201) rfl rfl), by decide +kernel, by decide +kernel, by decide +kernel⟩
theorem mX6_payMonth : MW yX6_payMonth cX6_payMonth 7 none 3 := ⟨(mT1 (i := 2) rfl rfl), (mT4 (i := 204) rfl rfl), by decide +kernel, by decide +kernel, by decide +kernel⟩
theorem mX6_sell : MW yX6_sell cX6_sell 5 none 2 := ⟨(mT1 (i := 2) rfl rfl), (mT4 (i := 216) rfl rfl), by decide +kernel, by decide +kernel, by decide +kernel⟩
theorem mX7_init : MW yX7_init cX7_init 1 none 0 := ⟨(mT1 (i := 10) rfl rfl), (mT2 (i := 113) rfl rfl), by decide +kernel, by decide +kernel, by decide +kernel⟩
theorem mX7_holds : MW yX7_holds cX7_holds 3 (some .boolean) 1 := ⟨(mT1 (i := 10) rfl rfl), (mT5 (i := 11) rfl rfl), by decide +kernel, by decide +kernel, by decide +kernel⟩
theorem mX7_lay : MW yX7_lay cX7_lay 4 none 2 := ⟨(mT1 (i := 10) rfl rfl), (mT5 (i := 52) rfl rfl), by decide +kernel, by decide +kernel, by decide +kernel⟩
theorem mX8_init : MW yX8_init cX8_init 1 none 0 := ⟨(mT1 (i := 7) rfl rfl), (mT2 (i := 30) rfl rfl), by decide +kernel, by decide +kernel, by decide +kernel⟩
theorem mX8_append : MW yX8_append cX8_append 5 none 2 := ⟨(mT1 (i := 7) rfl rfl), (mT2 (i := 230) rfl rfl), by decide +kernel, by decide +kernel, by decide +kernel⟩
theorem mX8_at : MW yX8_at cX8_at 2 (some .int) 1 := ⟨(mT1 (i := 7) rfl rfl), (mT3 (i := 10) rfl rfl), by decide +kernel, by decide +kernel, by decide +kernel⟩
theorem mX8_begin : MW yX8_begin cX8_begin 1 none 0 := ⟨(mT1 (i := 7) rfl rfl), (mT3 (i := 2) rfl rfl), by decide +kernel, by decide +kernel, by decide +kernel⟩
theorem mX8_goesOn : MW yX8_goesOn cX8_goesOn 2 (some .boolean) 1 := ⟨(mT1 (i := 7) rfl rfl), (mT3 (i := 184) rfl rfl), by decide +kernel, by decide +kernel, by decide +kernel⟩
theorem mX8_isBlank : MW yX8_isBlank cX8_isBlank 1 (some .boolean) 1 := ⟨(mT1 (i := 7) rfl rfl), (mT3 (i := 13) rfl rfl), by decide +kernel, by decide +kernel, by decide +kernel⟩
theorem mX8_isDigit : MW yX8_isDigit cX8_isDigit 1 (some .boolean) 1 := ⟨(mT1 (i := 7) rfl rfl), (mT3 (i := 19) rfl rfl), by decide +kernel, by decide +kernel, by decide +kernel⟩
theorem mX8_isEnd : MW yX8_isEnd cX8_isEnd 1 (some .boolean) 0 := ⟨(mT1 (i := 7) rfl rfl), (mT3 (i := 193) rfl rfl), by decide +kernel, by decide +kernel, by decide +kernel⟩
theorem mX8_isLetter : MW yX8_isLetter cX8_isLetter 1 (some .boolean) 1 := ⟨(mT1 (i := 7) rfl rfl), (mT3 (i := 16) rfl rfl), by decide +kernel, by decide +kernel, by decide +kernel⟩
theorem mX8_isNumber : MW yX8_isNumber cX8_isNumber 1 (some .boolean) 0 := ⟨(mT1 (i := 7) rfl rfl), (mT3 (i := 189) rfl rfl), by decide +kernel, by decide +kernel, by decide +kernel⟩
theorem mX8_isSame : MW yX8_isSame cX8_isSame 5 (some .boolean) 3 := ⟨(mT1 (i := 7) rfl rfl), (mT3 (i := 140) rfl rfl), by decide +kernel, by decide +kernel, by decide +kernel⟩
theorem mX8_isSign : MW yX8_isSign cX8_isSign 2 (some .boolean) 1 := ⟨(mT1 (i := 7) rfl rfl), (mT3 (i := 171) rfl rfl), by decide +kernel, by decide +kernel, by decide +kernel⟩
theorem mX8_next : MW yX8_next cX8_next 2 none 0 := ⟨(mT1 (i := 7) rfl rfl), (mT3 (i := 6) rfl rfl), by decide +kernel, by decide +kernel, by decide +kernel⟩
theorem mX8_readNumber : MW yX8_readNumber cX8_readNumber 1 none 0 := ⟨(mT1 (i := 7) rfl rfl), (mT3 (i := 23) rfl rfl), by decide +kernel, by decide +kernel, by decide +kernel⟩
theorem mX8_takesSign : MW yX8_takesSign cX8_takesSign 2 (some .boolean) 1 := ⟨(mT1 (i := 7) rfl rfl), (mT3 (i := 179) rfl rfl), by decide +kernel, by decide +kernel, by decide +kernel⟩
theorem mX8_takesWord : MW yX8_takesWord cX8_takesWord 2 (some .boolean) 1 := ⟨(mT1 (i := 7) rfl rfl), (mT3 (i := 232) rfl rfl), by decide +kernel, by decide +kernel, by decide +kernel⟩
theorem mX8_which : MW yX8_which cX8_which 5 (some .int) 1 := ⟨(mT1 (i := 7) rfl rfl), (mT3 (i := 115) rfl rfl), by decide +kernel, by decide +kernel, by decide +kernel⟩
theorem mX10_init : MW yX10_init cX10_init 1 none 0 := ⟨(mT1 (i := 11) rfl rfl), (mT5 (i := 72) rfl rfl), by decide +kernel, by decide +kernel, by decide +kernel⟩
theorem mX10_added : MW yX10_added cX10_added 4 (some .int) 0 := ⟨(mT1 (i := 11) rfl rfl), (mT6 (i := 173) rfl rfl), by decide +kernel, by decide +kernel, by decide +kernel⟩
theorem mX10_amend : MW yX10_amend cX10_amend 4 (some .int) 2 := ⟨(mT1 (i := 11) rfl rfl), (mT7 (i := 37) rfl rfl), by decide +kernel, by decide +kernel, by decide +kernel⟩
theorem mX10_anew : MW yX10_anew cX10_anew 2 none 0 := ⟨(mT1 (i := 11) rfl rfl), (mT7 (i := 41) rfl rfl), by decide +kernel, by decide +kernel, by decide +kernel⟩
theorem mX10_beside : MW yX10_beside cX10_beside 10 (some .long) 3 := ⟨(mT1 (i := 11) rfl rfl), (mT7 (i := 131) rfl rfl), by decide +kernel, by decide +kernel, by decide +kernel⟩
theorem mX10_both : MW yX10_both cX10_both 3 (some .int) 0 := ⟨(mT1 (i := 11) rfl rfl), (mT6 (i := 160) rfl rfl), by decide +kernel, by decide +kernel, by decide +kernel⟩
theorem mX10_buy : MW yX10_buy cX10_buy 2 (some .int) 1 := ⟨(mT1 (i := 11) rfl rfl), (mT6 (i := 114) rfl rfl), by decide +kernel, by decide +kernel, by decide +kernel⟩
theorem mX10_byteAt : MW yX10_byteAt cX10_byteAt 2 (some .int) 1 := ⟨(mT1 (i := 11) rfl rfl), (mT6 (i := 134) rfl rfl), by decide +kernel, by decide +kernel, by decide +kernel⟩
theorem mX10_cell : MW yX10_cell cX10_cell 4 (some .int) 3 := ⟨(mT1 (i := 11) rfl rfl), (mT7 (i := 154) rfl rfl), by decide +kernel, by decide +kernel, by decide +kernel⟩
theorem mX10_collect : MW yX10_collect cX10_collect 4 none 1 := ⟨(mT1 (i := 11) rfl rfl), (mT7 (i := 77) rfl rfl), by decide +kernel, by decide +kernel, by decide +kernel⟩
theorem mX10_count : MW yX10_count cX10_count 2 (some .int) 1 := ⟨(mT1 (i := 11) rfl rfl), (mT7 (i := 143) rfl rfl), by decide +kernel, by decide +kernel, by decide +kernel⟩
theorem mX10_divisor : MW yX10_divisor cX10_divisor 10 (some .long) 2 := ⟨(mT1 (i := 11) rfl rfl), (mT7 (i := 29) rfl rfl), by decide +kernel, by decide +kernel, by decide +kernel⟩
theorem mX10_either : MW yX10_either cX10_either 3 (some .int) 0 := ⟨(mT1 (i := 11) rfl rfl), (mT6 (i := 156) rfl rfl), by decide +kernel, by decide +kernel, by decide +kernel⟩
theorem mX10_fail : MW yX10_fail cX10_fail 1 none 0 := ⟨(mT1 (i := 11) rfl rfl), (mT6 (i := 152) rfl rfl), by decide +kernel, by decide +kernel, by decide +kernel⟩
theorem mX10_feed : MW yX10_feed cX10_feed 5 (some .int) 2 := ⟨(mT1 (i := 11) rfl rfl), (mT6 (i := 118) rfl rfl), by decide +kernel, by decide +kernel, by decide +kernel⟩
theorem mX10_field : MW yX10_field cX10_field 5 (some .long) 2 := ⟨(mT1 (i := 11) rfl rfl), (mT7 (i := 59) rfl rfl), by decide +kernel, by decide +kernel, by decide +kernel⟩
theorem mX10_fieldHere : MW yX10_fieldHere cX10_fieldHere 2 (some .int) 0 := ⟨(mT1 (i := 11) rfl rfl), (mT7 (i := 2) rfl rfl), by decide +kernel, by decide +kernel, by decide +kernel⟩
theorem mX10_force : MW yX10_force cX10_force 3 (some .int) 1 := ⟨(mT1 (i := 11) rfl rfl), (mT6 (i := 205) rfl rfl), by decide +kernel, by decide +kernel, by decide +kernel⟩
theorem mX10_goOn : MW yX10_goOn cX10_goOn 1 none 0 := ⟨(mT1 (i := 11) rfl rfl), (mT7 (i := 73) rfl rfl), by decide +kernel, by decide +kernel, by decide +kernel⟩
theorem mX10_goes : MW yX10_goes cX10_goes 11 none 2 := ⟨(mT1 (i := 11) rfl rfl), (mT7 (i := 100) rfl rfl), by decide +kernel, by decide +kernel, by decide +kernel⟩
theorem mX10_in : MW yX10_in cX10_in 3 (some .boolean) 3 := ⟨(mT1 (i := 11) rfl rfl), (mT6 (i := 96) rfl rfl), by decide +kernel, by decide +kernel, by decide +kernel⟩
theorem mX10_interest : MW yX10_interest cX10_interest 2 (some .int) 2 := ⟨(mT1 (i := 11) rfl rfl), (mT7 (i := 93) rfl rfl), by decide +kernel, by decide +kernel, by decide +kernel⟩
theorem mX10_isFixed : MW yX10_isFixed cX10_isFixed 1 (some .boolean) 1 := ⟨(mT1 (i := 11) rfl rfl), (mT7 (i := 87) rfl rfl), by decide +kernel, by decide +kernel, by decide +kernel⟩
theorem mX10_isLoan : MW yX10_isLoan cX10_isLoan 2 (some .boolean) 1 := ⟨(mT1 (i := 11) rfl rfl), (mT6 (i := 105) rfl rfl), by decide +kernel, by decide +kernel, by decide +kernel⟩
theorem mX10_isPaper : MW yX10_isPaper cX10_isPaper 2 (some .boolean) 1 := ⟨(mT1 (i := 11) rfl rfl), (mT7 (i := 22) rfl rfl), by decide +kernel, by decide +kernel, by decide +kernel⟩
theorem mX10_isReset : MW yX10_isReset cX10_isReset 1 (some .boolean) 1 := ⟨(mT1 (i := 11) rfl rfl), (mT7 (i := 84) rfl rfl), by decide +kernel, by decide +kernel, by decide +kernel⟩
theorem mX10_isSheet : MW yX10_isSheet cX10_isSheet 1 (some .boolean) 1 := ⟨(mT1 (i := 11) rfl rfl), (mT7 (i := 150) rfl rfl), by decide +kernel, by decide +kernel, by decide +kernel⟩
theorem mX10_isSign : MW yX10_isSign cX10_isSign 2 (some .boolean) 1 := ⟨(mT1 (i := 11) rfl rfl), (mT6 (i := 185) rfl rfl), by decide +kernel, by decide +kernel, by decide +kernel⟩
theorem mX10_isSo : MW yX10_isSo cX10_isSo 7 (some .boolean) 2 := ⟨(mT1 (i := 11) rfl rfl), (mT7 (i := 55) rfl rfl), by decide +kernel, by decide +kernel, by decide +kernel⟩
theorem mX10_isTold : MW yX10_isTold cX10_isTold 4 (some .boolean) 4 := ⟨(mT1 (i := 11) rfl rfl), (mT6 (i := 93) rfl rfl), by decide +kernel, by decide +kernel, by decide +kernel⟩
theorem mX10_isWord : MW yX10_isWord cX10_isWord 3 (some .boolean) 1 := ⟨(mT1 (i := 11) rfl rfl), (mT6 (i := 148) rfl rfl), by decide +kernel, by decide +kernel, by decide +kernel⟩
theorem mX10_leftBy : MW yX10_leftBy cX10_leftBy 7 (some .int) 4 := ⟨(mT1 (i := 11) rfl rfl), (mT7 (i := 96) rfl rfl), by decide +kernel, by decide +kernel, by decide +kernel⟩
theorem mX10_life : MW yX10_life cX10_life 5 (some .long) 2 := ⟨(mT1 (i := 11) rfl rfl), (mT7 (i := 26) rfl rfl), by decide +kernel, by decide +kernel, by decide +kernel⟩
theorem mX10_loan : MW yX10_loan cX10_loan 5 (some .int) 4 := ⟨(mT1 (i := 11) rfl rfl), (mT6 (i := 90) rfl rfl), by decide +kernel, by decide +kernel, by decide +kernel⟩
theorem mX10_loanTold : MW yX10_loanTold cX10_loanTold 3 (some .int) 2 := ⟨(mT1 (i := 11) rfl rfl), (mT6 (i := 101) rfl rfl), by decide +kernel, by decide +kernel, by decide +kernel⟩
theorem mX10_loans : MW yX10_loans cX10_loans 9 (some .int) 4 := ⟨(mT1 (i := 11) rfl rfl), (mT7 (i := 166) rfl rfl), by decide +kernel, by decide +kernel, by decide +kernel⟩
theorem mX10_lostNow : MW yX10_lostNow cX10_lostNow 1 (some .long) 0 := ⟨(mT1 (i := 11) rfl rfl), (mT7 (i := 49) rfl rfl), by decide +kernel, by decide +kernel, by decide +kernel⟩
theorem mX10_lot : MW yX10_lot cX10_lot 3 (some .int) 2 := ⟨(mT1 (i := 11) rfl rfl), (mT7 (i := 107) rfl rfl), by decide +kernel, by decide +kernel, by decide +kernel⟩
theorem mX10_month : MW yX10_month cX10_month 3 (some .int) 2 := ⟨(mT1 (i := 11) rfl rfl), (mT7 (i := 123) rfl rfl), by decide +kernel, by decide +kernel, by decide +kernel⟩
theorem mX10_name : MW yX10_name cX10_name 1 (some .int) 0 := ⟨(mT1 (i := 11) rfl rfl), (mT6 (i := 189) rfl rfl), by decide +kernel, by decide +kernel, by decide +kernel⟩
theorem mX10_next : MW yX10_next cX10_next 3 none 0 := ⟨(mT1 (i := 11) rfl rfl), (mT6 (i := 130) rfl rfl), by decide +kernel, by decide +kernel, by decide +kernel⟩
theorem mX10_noRow : MW yX10_noRow cX10_noRow 5 (some .int) 4 := ⟨(mT1 (i := 11) rfl rfl), (mT7 (i := 162) rfl rfl), by decide +kernel, by decide +kernel, by decide +kernel⟩
theorem mX10_not : MW yX10_not cX10_not 4 (some .int) 0 := ⟨(mT1 (i := 11) rfl rfl), (mT6 (i := 164) rfl rfl), by decide +kernel, by decide +kernel, by decide +kernel⟩
theorem mX10_numberHere : MW yX10_numberHere cX10_numberHere 2 (some .int) 0 := ⟨(mT1 (i := 11) rfl rfl), (mT6 (i := 237) rfl rfl), by decide +kernel, by decide +kernel, by decide +kernel⟩
theorem mX10_one : MW yX10_one cX10_one 2 (some .int) 0 := ⟨(mT1 (i := 11) rfl rfl), (mT6 (i := 181) rfl rfl), by decide +kernel, by decide +kernel, by decide +kernel⟩
theorem mX10_opens : MW yX10_opens cX10_opens 1 (some .boolean) 0 := ⟨(mT1 (i := 11) rfl rfl), (mT6 (i := 169) rfl rfl), by decide +kernel, by decide +kernel, by decide +kernel⟩
theorem mX10_order : MW yX10_order cX10_order 3 (some .int) 0 := ⟨(mT1 (i := 11) rfl rfl), (mT6 (i := 218) rfl rfl), by decide +kernel, by decide +kernel, by decide +kernel⟩
theorem mX10_over : MW yX10_over cX10_over 1 (some .int) 1 := ⟨(mT1 (i := 11) rfl rfl), (mT7 (i := 174) rfl rfl), by decide +kernel, by decide +kernel, by decide +kernel⟩
theorem mX10_paid : MW yX10_paid cX10_paid 3 (some .int) 2 := ⟨(mT1 (i := 11) rfl rfl), (mT7 (i := 127) rfl rfl), by decide +kernel, by decide +kernel, by decide +kernel⟩
theorem mX10_paper : MW yX10_paper cX10_paper 3 (some .int) 2 := ⟨(mT1 (i := 11) rfl rfl), (mT7 (i := 13) rfl rfl), by decide +kernel, by decide +kernel, by decide +kernel⟩
theorem mX10_paperHere : MW yX10_paperHere cX10_paperHere 2 (some .int) 0 := ⟨(mT1 (i := 11) rfl rfl), (mT6 (i := 232) rfl rfl), by decide +kernel, by decide +kernel, by decide +kernel⟩
theorem mX10_paperTold : MW yX10_paperTold cX10_paperTold 3 (some .int) 2 := ⟨(mT1 (i := 11) rfl rfl), (mT7 (i := 18) rfl rfl), by decide +kernel, by decide +kernel, by decide +kernel⟩
theorem mX10_part : MW yX10_part cX10_part 4 (some .int) 1 := ⟨(mT1 (i := 11) rfl rfl), (mT6 (i := 144) rfl rfl), by decide +kernel, by decide +kernel, by decide +kernel⟩
theorem mX10_pass : MW yX10_pass cX10_pass 4 (some .long) 2 := ⟨(mT1 (i := 11) rfl rfl), (mT7 (i := 139) rfl rfl), by decide +kernel, by decide +kernel, by decide +kernel⟩
theorem mX10_pay : MW yX10_pay cX10_pay 10 none 1 := ⟨(mT1 (i := 11) rfl rfl), (mT7 (i := 45) rfl rfl), by decide +kernel, by decide +kernel, by decide +kernel⟩
theorem mX10_payFor : MW yX10_payFor cX10_payFor 6 (some .int) 3 := ⟨(mT1 (i := 11) rfl rfl), (mT7 (i := 90) rfl rfl), by decide +kernel, by decide +kernel, by decide +kernel⟩
theorem mX10_paysOff : MW yX10_paysOff cX10_paysOff 5 none 4 := ⟨(mT1 (i := 11) rfl rfl), (mT7 (i := 115) rfl rfl), by decide +kernel, by decide +kernel, by decide +kernel⟩
theorem mX10_pool : MW yX10_pool cX10_pool 3 (some .int) 0 := ⟨(mT1 (i := 11) rfl rfl), (mT7 (i := 81) rfl rfl), by decide +kernel, by decide +kernel, by decide +kernel⟩
theorem mX10_principal : MW yX10_principal cX10_principal 7 (some .int) 3 := ⟨(mT1 (i := 11) rfl rfl), (mT7 (i := 119) rfl rfl), by decide +kernel, by decide +kernel, by decide +kernel⟩
theorem mX10_read : MW yX10_read cX10_read 6 (some .int) 2 := ⟨(mT1 (i := 11) rfl rfl), (mT6 (i := 126) rfl rfl), by decide +kernel, by decide +kernel, by decide +kernel⟩
theorem mX10_readStep : MW yX10_readStep cX10_readStep 5 none 1 := ⟨(mT1 (i := 11) rfl rfl), (mT6 (i := 223) rfl rfl), by decide +kernel, by decide +kernel, by decide +kernel⟩
theorem mX10_report : MW yX10_report cX10_report 8 (some .int) 5 := ⟨(mT1 (i := 11) rfl rfl), (mT7 (i := 158) rfl rfl), by decide +kernel, by decide +kernel, by decide +kernel⟩
theorem mX10_run : MW yX10_run cX10_run 3 (some .int) 1 := ⟨(mT1 (i := 11) rfl rfl), (mT7 (i := 69) rfl rfl), by decide +kernel, by decide +kernel, by decide +kernel⟩
theorem mX10_says : MW yX10_says cX10_says 3 (some .long) 2 := ⟨(mT1 (i := 11) rfl rfl), (mT6 (i := 209) rfl rfl), by decide +kernel, by decide +kernel, by decide +kernel⟩
theorem mX10_saysOf : MW yX10_saysOf cX10_saysOf 4 (some .int) 3 := ⟨(mT1 (i := 11) rfl rfl), (mT6 (i := 213) rfl rfl), by decide +kernel, by decide +kernel, by decide +kernel⟩
theorem mX10_sheet : MW yX10_sheet cX10_sheet 5 (some .int) 3 := ⟨(mT1 (i := 11) rfl rfl), (mT7 (i := 147) rfl rfl), by decide +kernel, by decide +kernel, by decide +kernel⟩
theorem mX10_spell : MW yX10_spell cX10_spell 5 none 2 := ⟨(mT1 (i := 11) rfl rfl), (mT5 (i := 78) rfl rfl), by decide +kernel, by decide +kernel, by decide +kernel⟩
theorem mX10_step : MW yX10_step cX10_step 5 (some .int) 3 := ⟨(mT1 (i := 11) rfl rfl), (mT7 (i := 9) rfl rfl), by decide +kernel, by decide +kernel, by decide +kernel⟩
theorem mX10_taken : MW yX10_taken cX10_taken 4 (some .int) 2 := ⟨(mT1 (i := 11) rfl rfl), (mT7 (i := 171) rfl rfl), by decide +kernel, by decide +kernel, by decide +kernel⟩
theorem mX10_tell : MW yX10_tell cX10_tell 4 (some .int) 2 := ⟨(mT1 (i := 11) rfl rfl), (mT6 (i := 109) rfl rfl), by decide +kernel, by decide +kernel, by decide +kernel⟩
theorem mX10_term : MW yX10_term cX10_term 2 (some .int) 0 := ⟨(mT1 (i := 11) rfl rfl), (mT6 (i := 177) rfl rfl), by decide +kernel, by decide +kernel, by decide +kernel⟩
theorem mX10_text : MW yX10_text cX10_text 2 (some .int) 0 := ⟨(mT1 (i := 11) rfl rfl), (mT6 (i := 122) rfl rfl), by decide +kernel, by decide +kernel, by decide +kernel⟩
theorem mX10_trip : MW yX10_trip cX10_trip 3 (some .int) 2 := ⟨(mT1 (i := 11) rfl rfl), (mT7 (i := 33) rfl rfl), by decide +kernel, by decide +kernel, by decide +kernel⟩
theorem mX10_turn : MW yX10_turn cX10_turn 3 none 1 := ⟨(mT1 (i := 11) rfl rfl), (mT7 (i := 135) rfl rfl), by decide +kernel, by decide +kernel, by decide +kernel⟩
theorem mX10_wish : MW yX10_wish cX10_wish 9 (some .long) 3 := ⟨(mT1 (i := 11) rfl rfl), (mT7 (i := 65) rfl rfl), by decide +kernel, by decide +kernel, by decide +kernel⟩
theorem mX10_within : MW yX10_within cX10_within 1 (some .int) 1 := ⟨(mT1 (i := 11) rfl rfl), (mT7 (i := 103) rfl rfl), by decide +kernel, by decide +kernel, by decide +kernel⟩
end
section
theorem dX0_init_0 : decode cX0_init 0 = .ok (.aload_n 0, 1) := by decide +kernel
theorem dX0_init_1 : decode cX0_init 1 = .ok (.invokespecial 3, 3) := by decide +kernel
theorem dX0_init_4 : decode cX0_init 4 = .ok (.aload_n 0, 1) := by decide +kernel
theorem dX0_init_5 : decode cX0_init 5 = .ok (.iconst 5, 1) := by decide +kernel
theorem dX0_init_6 : decode cX0_init 6 = .ok (.anewarray 9, 3) := by decide +kernel
theorem dX0_init_9 : decode cX0_init 9 = .ok (.putfield 11, 3) := by decide +kernel
theorem dX0_init_12 : decode cX0_init 12 = .ok (.aload_n 0, 1) := by decide +kernel
theorem dX0_init_13 : decode cX0_init 13 = .ok (.sipush 1000, 3) := by decide +kernel
theorem dX0_init_16 : decode cX0_init 16 = .ok (.putfield 17, 3) := by decide +kernel
theorem dX0_init_19 : decode cX0_init 19 = .ok (.aload_n 0, 1) := by decide +kernel
theorem dX0_init_20 : decode cX0_init 20 = .ok (.iconst 1, 1) := by decide +kernel
theorem dX0_init_21 : decode cX0_init 21 = .ok (.putfield 21, 3) := by decide +kernel
theorem dX0_init_24 : decode cX0_init 24 = .ok (.iconst 0, 1) := by decide +kernel
theorem dX0_init_25 : decode cX0_init 25 = .ok (.istore_n 1, 1) := by decide +kernel
theorem dX0_init_26 : decode cX0_init 26 = .ok (.iload_n 1, 1) := by decide +kernel
theorem dX0_init_27 : decode cX0_init 27 = .ok (.aload_n 0, 1) := by decide +kernel
theorem dX0_init_28 : decode cX0_init 28 = .ok (.getfield 11, 3) := by decide +kernel
theorem dX0_init_31 : decode cX0_init 31 = .ok (.arraylength, 1) := by decide +kernel
theorem dX0_init_32 : decode cX0_init 32 = .ok (.if_icmp .ge 22, 3) := by decide +kernel
theorem dX0_init_35 : decode cX0_init 35 = .ok (.aload_n 0, 1) := by decide +kernel
theorem dX0_init_36 : decode cX0_init 36 = .ok (.getfield 11, 3) := by decide +kernel
theorem dX0_init_39 : decode cX0_init 39 = .ok (.iload_n 1, 1) := by decide +kernel
theorem dX0_init_40 : decode cX0_init 40 = .ok (.new 9, 3) := by decide +kernel
theorem dX0_init_43 : decode cX0_init 43 = .ok (.dup, 1) := by decide +kernel
theorem dX0_init_44 : decode cX0_init 44 = .ok (.invokespecial 24, 3) := by decide +kernel
theorem dX0_init_47 : decode cX0_init 47 = .ok (.aastore, 1) := by decide +kernel
theorem dX0_init_48 : decode cX0_init 48 = .ok (.iinc 1 1, 3) := by decide +kernel
theorem dX0_init_51 : decode cX0_init 51 = .ok (.goto (-25), 3) := by decide +kernel
theorem dX0_init_54 : decode cX0_init 54 = .ok (.return_, 1) := by decide +kernel
theorem dX0_restart_0 : decode cX0_restart 0 = .ok (.iconst 0, 1) := by decide +kernel
theorem dX0_restart_1 : decode cX0_restart 1 = .ok (.istore_n 1, 1) := by decide +kernel
theorem dX0_restart_2 : decode cX0_restart 2 = .ok (.iload_n 1, 1) := by decide +kernel
theorem dX0_restart_3 : decode cX0_restart 3 = .ok (.aload_n 0, 1) := by decide +kernel
theorem dX0_restart_4 : decode cX0_restart 4 = .ok (.getfield 11, 3) := by decide +kernel
theorem dX0_restart_7 : decode cX0_restart 7 = .ok (.arraylength, 1) := by decide +kernel
theorem dX0_restart_8 : decode cX0_restart 8 = .ok (.if_icmp .ge 18, 3) := by decide +kernel
theorem dX0_restart_11 : decode cX0_restart 11 = .ok (.aload_n 0, 1) := by decide +kernel
theorem dX0_restart_12 : decode cX0_restart 12 = .ok (.getfield 11, 3) := by decide +kernel
theorem dX0_restart_15 : decode cX0_restart 15 = .ok (.iload_n 1, 1) := by decide +kernel
theorem dX0_restart_16 : decode cX0_restart 16 = .ok (.aaload, 1) := by decide +kernel
theorem dX0_restart_17 : decode cX0_restart 17 = .ok (.invokevirtual 25, 3) := by decide +kernel
theorem dX0_restart_20 : decode cX0_restart 20 = .ok (.iinc 1 1, 3) := by decide +kernel
theorem dX0_restart_23 : decode cX0_restart 23 = .ok (.goto (-21), 3) := by decide +kernel
theorem dX0_restart_26 : decode cX0_restart 26 = .ok (.aload_n 0, 1) := by decide +kernel
theorem dX0_restart_27 : decode cX0_restart 27 = .ok (.lconst 0, 1) := by decide +kernel
theorem dX0_restart_28 : decode cX0_restart 28 = .ok (.putfield 28, 3) := by decide +kernel
theorem dX0_restart_31 : decode cX0_restart 31 = .ok (.aload_n 0, 1) := by decide +kernel
theorem dX0_restart_32 : decode cX0_restart 32 = .ok (.iconst 0, 1) := by decide +kernel
theorem dX0_restart_33 : decode cX0_restart 33 = .ok (.putfield 32, 3) := by decide +kernel
theorem dX0_restart_36 : decode cX0_restart 36 = .ok (.aload_n 0, 1) := by decide +kernel
theorem dX0_restart_37 : decode cX0_restart 37 = .ok (.iconst 0, 1) := by decide +kernel
theorem dX0_restart_38 : decode cX0_restart 38 = .ok (.putfield 36, 3) := by decide +kernel
theorem dX0_restart_41 : decode cX0_restart 41 = .ok (.aload_n 0, 1) := by decide +kernel
theorem dX0_restart_42 : decode cX0_restart 42 = .ok (.lconst 0, 1) := by decide +kernel
theorem dX0_restart_43 : decode cX0_restart 43 = .ok (.putfield 39, 3) := by decide +kernel
theorem dX0_restart_46 : decode cX0_restart 46 = .ok (.aload_n 0, 1) := by decide +kernel
theorem dX0_restart_47 : decode cX0_restart 47 = .ok (.lconst 0, 1) := by decide +kernel
theorem dX0_restart_48 : decode cX0_restart 48 = .ok (.putfield 42, 3) := by decide +kernel
theorem dX0_restart_51 : decode cX0_restart 51 = .ok (.aload_n 0, 1) := by decide +kernel
theorem dX0_restart_52 : decode cX0_restart 52 = .ok (.lconst 0, 1) := by decide +kernel
theorem dX0_restart_53 : decode cX0_restart 53 = .ok (.putfield 45, 3) := by decide +kernel
theorem dX0_restart_56 : decode cX0_restart 56 = .ok (.return_, 1) := by decide +kernel
theorem dX0_copy_0 : decode cX0_copy 0 = .ok (.iconst 0, 1) := by decide +kernel
theorem dX0_copy_1 : decode cX0_copy 1 = .ok (.istore_n 2, 1) := by decide +kernel
theorem dX0_copy_2 : decode cX0_copy 2 = .ok (.iload_n 2, 1) := by decide +kernel
theorem dX0_copy_3 : decode cX0_copy 3 = .ok (.aload_n 0, 1) := by decide +kernel
theorem dX0_copy_4 : decode cX0_copy 4 = .ok (.getfield 11, 3) := by decide +kernel
theorem dX0_copy_7 : decode cX0_copy 7 = .ok (.arraylength, 1) := by decide +kernel
theorem dX0_copy_8 : decode cX0_copy 8 = .ok (.if_icmp .ge 24, 3) := by decide +kernel
theorem dX0_copy_11 : decode cX0_copy 11 = .ok (.aload_n 0, 1) := by decide +kernel
theorem dX0_copy_12 : decode cX0_copy 12 = .ok (.getfield 11, 3) := by decide +kernel
theorem dX0_copy_15 : decode cX0_copy 15 = .ok (.iload_n 2, 1) := by decide +kernel
theorem dX0_copy_16 : decode cX0_copy 16 = .ok (.aaload, 1) := by decide +kernel
theorem dX0_copy_17 : decode cX0_copy 17 = .ok (.aload_n 1, 1) := by decide +kernel
theorem dX0_copy_18 : decode cX0_copy 18 = .ok (.getfield 11, 3) := by decide +kernel
theorem dX0_copy_21 : decode cX0_copy 21 = .ok (.iload_n 2, 1) := by decide +kernel
theorem dX0_copy_22 : decode cX0_copy 22 = .ok (.aaload, 1) := by decide +kernel
theorem dX0_copy_23 : decode cX0_copy 23 = .ok (.invokevirtual 48, 3) := by decide +kernel
theorem dX0_copy_26 : decode cX0_copy 26 = .ok (.iinc 2 1, 3) := by decide +kernel
theorem dX0_copy_29 : decode cX0_copy 29 = .ok (.goto (-27), 3) := by decide +kernel
theorem dX0_copy_32 : decode cX0_copy 32 = .ok (.aload_n 0, 1) := by decide +kernel
theorem dX0_copy_33 : decode cX0_copy 33 = .ok (.aload_n 1, 1) := by decide +kernel
theorem dX0_copy_34 : decode cX0_copy 34 = .ok (.getfield 52, 3) := by decide +kernel
theorem dX0_copy_37 : decode cX0_copy 37 = .ok (.putfield 52, 3) := by decide +kernel
theorem dX0_copy_40 : decode cX0_copy 40 = .ok (.aload_n 0, 1) := by decide +kernel
theorem dX0_copy_41 : decode cX0_copy 41 = .ok (.aload_n 1, 1) := by decide +kernel
theorem dX0_copy_42 : decode cX0_copy 42 = .ok (.getfield 17, 3) := by decide +kernel
theorem dX0_copy_45 : decode cX0_copy 45 = .ok (.putfield 17, 3) := by decide +kernel
theorem dX0_copy_48 : decode cX0_copy 48 = .ok (.aload_n 0, 1) := by decide +kernel
theorem dX0_copy_49 : decode cX0_copy 49 = .ok (.aload_n 1, 1) := by decide +kernel
theorem dX0_copy_50 : decode cX0_copy 50 = .ok (.getfield 21, 3) := by decide +kernel
theorem dX0_copy_53 : decode cX0_copy 53 = .ok (.putfield 21, 3) := by decide +kernel
theorem dX0_copy_56 : decode cX0_copy 56 = .ok (.aload_n 0, 1) := by decide +kernel
theorem dX0_copy_57 : decode cX0_copy 57 = .ok (.aload_n 1, 1) := by decide +kernel
theorem dX0_copy_58 : decode cX0_copy 58 = .ok (.getfield 28, 3) := by decide +kernel
theorem dX0_copy_61 : decode cX0_copy 61 = .ok (.putfield 28, 3) := by decide +kernel
theorem dX0_copy_64 : decode cX0_copy 64 = .ok (.aload_n 0, 1) := by decide +kernel
theorem dX0_copy_65 : decode cX0_copy 65 = .ok (.aload_n 1, 1) := by decide +kernel
theorem dX0_copy_66 : decode cX0_copy 66 = .ok (.getfield 32, 3) := by decide +kernel
theorem dX0_copy_69 : decode cX0_copy 69 = .ok (.putfield 32, 3) := by decide +kernel
theorem dX0_copy_72 : decode cX0_copy 72 = .ok (.aload_n 0, 1) := by decide +kernel
theorem dX0_copy_73 : decode cX0_copy 73 = .ok (.aload_n 1, 1) := by decide +kernel
theorem dX0_copy_74 : decode cX0_copy 74 = .ok (.getfield 36, 3) := by decide +kernel
theorem dX0_copy_77 : decode cX0_copy 77 = .ok (.putfield 36, 3) := by decide +kernel
theorem dX0_copy_80 : decode cX0_copy 80 = .ok (.aload_n 0, 1) := by decide +kernel
theorem dX0_copy_81 : decode cX0_copy 81 = .ok (.aload_n 1, 1) := by decide +kernel
theorem dX0_copy_82 : decode cX0_copy 82 = .ok (.getfield 39, 3) := by decide +kernel
theorem dX0_copy_85 : decode cX0_copy 85 = .ok (.putfield 39, 3) := by decide +kernel
theorem dX0_copy_88 : decode cX0_copy 88 = .ok (.aload_n 0, 1) := by decide +kernel
theorem dX0_copy_89 : decode cX0_copy 89 = .ok (.aload_n 1, 1) := by decide +kernel
theorem dX0_copy_90 : decode cX0_copy 90 = .ok (.getfield 42, 3) := by decide +kernel
theorem dX0_copy_93 : decode cX0_copy 93 = .ok (.putfield 42, 3) := by decide +kernel
theorem dX0_copy_96 : decode cX0_copy 96 = .ok (.aload_n 0, 1) := by decide +kernel
theorem dX0_copy_97 : decode cX0_copy 97 = .ok (.aload_n 1, 1) := by decide +kernel
theorem dX0_copy_98 : decode cX0_copy 98 = .ok (.getfield 45, 3) := by decide +kernel
theorem dX0_copy_101 : decode cX0_copy 101 = .ok (.putfield 45, 3) := by decide +kernel
theorem dX0_copy_104 : decode cX0_copy 104 = .ok (.return_, 1) := by decide +kernel
theorem dX0_pour_0 : decode cX0_pour 0 = .ok (.iload_n 1, 1) := by decide +kernel
theorem dX0_pour_1 : decode cX0_pour 1 = .ok (.iconst 1, 1) := by decide +kernel
theorem dX0_pour_2 : decode cX0_pour 2 = .ok (.if_icmp .ne 11, 3) := by decide +kernel
theorem dX0_pour_5 : decode cX0_pour 5 = .ok (.aload_n 0, 1) := by decide +kernel
theorem dX0_pour_6 : decode cX0_pour 6 = .ok (.aload_n 2, 1) := by decide +kernel
theorem dX0_pour_7 : decode cX0_pour 7 = .ok (.getfield 55, 3) := by decide +kernel
theorem dX0_pour_10 : decode cX0_pour 10 = .ok (.putfield 42, 3) := by decide +kernel
theorem dX0_pour_13 : decode cX0_pour 13 = .ok (.aload_n 0, 1) := by decide +kernel
theorem dX0_pour_14 : decode cX0_pour 14 = .ok (.dup, 1) := by decide +kernel
theorem dX0_pour_15 : decode cX0_pour 15 = .ok (.getfield 39, 3) := by decide +kernel
theorem dX0_pour_18 : decode cX0_pour 18 = .ok (.aload_n 2, 1) := by decide +kernel
theorem dX0_pour_19 : decode cX0_pour 19 = .ok (.getfield 60, 3) := by decide +kernel
theorem dX0_pour_22 : decode cX0_pour 22 = .ok (.ladd, 1) := by decide +kernel
theorem dX0_pour_23 : decode cX0_pour 23 = .ok (.putfield 39, 3) := by decide +kernel
theorem dX0_pour_26 : decode cX0_pour 26 = .ok (.aload_n 0, 1) := by decide +kernel
theorem dX0_pour_27 : decode cX0_pour 27 = .ok (.aload_n 2, 1) := by decide +kernel
theorem dX0_pour_28 : decode cX0_pour 28 = .ok (.getfield 60, 3) := by decide +kernel
theorem dX0_pour_31 : decode cX0_pour 31 = .ok (.invokevirtual 63, 3) := by decide +kernel
theorem dX0_pour_34 : decode cX0_pour 34 = .ok (.aload_n 2, 1) := by decide +kernel
theorem dX0_pour_35 : decode cX0_pour 35 = .ok (.aload_n 0, 1) := by decide +kernel
theorem dX0_pour_36 : decode cX0_pour 36 = .ok (.getfield 32, 3) := by decide +kernel
theorem dX0_pour_39 : decode cX0_pour 39 = .ok (.putfield 67, 3) := by decide +kernel
theorem dX0_pour_42 : decode cX0_pour 42 = .ok (.iconst 0, 1) := by decide +kernel
theorem dX0_pour_43 : decode cX0_pour 43 = .ok (.istore 4, 2) := by decide +kernel
theorem dX0_pour_45 : decode cX0_pour 45 = .ok (.iload 4, 2) := by decide +kernel
theorem dX0_pour_47 : decode cX0_pour 47 = .ok (.aload_n 0, 1) := by decide +kernel
theorem dX0_pour_48 : decode cX0_pour 48 = .ok (.getfield 52, 3) := by decide +kernel
theorem dX0_pour_51 : decode cX0_pour 51 = .ok (.if_icmp .ge 19, 3) := by decide +kernel
theorem dX0_pour_54 : decode cX0_pour 54 = .ok (.aload_n 0, 1) := by decide +kernel
theorem dX0_pour_55 : decode cX0_pour 55 = .ok (.getfield 11, 3) := by decide +kernel
theorem dX0_pour_58 : decode cX0_pour 58 = .ok (.iload 4, 2) := by decide +kernel
theorem dX0_pour_60 : decode cX0_pour 60 = .ok (.aaload, 1) := by decide +kernel
theorem dX0_pour_61 : decode cX0_pour 61 = .ok (.invokevirtual 68, 3) := by decide +kernel
theorem dX0_pour_64 : decode cX0_pour 64 = .ok (.iinc 4 1, 3) := by decide +kernel
theorem dX0_pour_67 : decode cX0_pour 67 = .ok (.goto (-22), 3) := by decide +kernel
theorem dX0_pour_70 : decode cX0_pour 70 = .ok (.aload_n 2, 1) := by decide +kernel
theorem dX0_pour_71 : decode cX0_pour 71 = .ok (.aload_n 2, 1) := by decide +kernel
theorem dX0_pour_72 : decode cX0_pour 72 = .ok (.invokevirtual 71, 3) := by decide +kernel
theorem dX0_pour_75 : decode cX0_pour 75 = .ok (.aload_n 0, 1) := by decide +kernel
theorem dX0_pour_76 : decode cX0_pour 76 = .ok (.getfield 28, 3) := by decide +kernel
theorem dX0_pour_79 : decode cX0_pour 79 = .ok (.ladd, 1) := by decide +kernel
theorem dX0_pour_80 : decode cX0_pour 80 = .ok (.putfield 75, 3) := by decide +kernel
theorem dX0_pour_83 : decode cX0_pour 83 = .ok (.aload_n 0, 1) := by decide +kernel
theorem dX0_pour_84 : decode cX0_pour 84 = .ok (.lconst 0, 1) := by decide +kernel
theorem dX0_pour_85 : decode cX0_pour 85 = .ok (.putfield 28, 3) := by decide +kernel
theorem dX0_pour_88 : decode cX0_pour 88 = .ok (.aload_n 0, 1) := by decide +kernel
theorem dX0_pour_89 : decode cX0_pour 89 = .ok (.iload_n 1, 1) := by decide +kernel
theorem dX0_pour_90 : decode cX0_pour 90 = .ok (.aload_n 2, 1) := by decide +kernel
theorem dX0_pour_91 : decode cX0_pour 91 = .ok (.aload_n 3, 1) := by decide +kernel
theorem dX0_pour_92 : decode cX0_pour 92 = .ok (.invokevirtual 78, 3) := by decide +kernel
theorem dX0_pour_95 : decode cX0_pour 95 = .ok (.iconst 0, 1) := by decide +kernel
theorem dX0_pour_96 : decode cX0_pour 96 = .ok (.istore 4, 2) := by decide +kernel
theorem dX0_pour_98 : decode cX0_pour 98 = .ok (.iload 4, 2) := by decide +kernel
theorem dX0_pour_100 : decode cX0_pour 100 = .ok (.aload_n 0, 1) := by decide +kernel
theorem dX0_pour_101 : decode cX0_pour 101 = .ok (.getfield 52, 3) := by decide +kernel
theorem dX0_pour_104 : decode cX0_pour 104 = .ok (.if_icmp .ge 19, 3) := by decide +kernel
theorem dX0_pour_107 : decode cX0_pour 107 = .ok (.aload_n 0, 1) := by decide +kernel
theorem dX0_pour_108 : decode cX0_pour 108 = .ok (.getfield 11, 3) := by decide +kernel
theorem dX0_pour_111 : decode cX0_pour 111 = .ok (.iload 4, 2) := by decide +kernel
theorem dX0_pour_113 : decode cX0_pour 113 = .ok (.aaload, 1) := by decide +kernel
theorem dX0_pour_114 : decode cX0_pour 114 = .ok (.invokevirtual 82, 3) := by decide +kernel
theorem dX0_pour_117 : decode cX0_pour 117 = .ok (.iinc 4 1, 3) := by decide +kernel
theorem dX0_pour_120 : decode cX0_pour 120 = .ok (.goto (-22), 3) := by decide +kernel
theorem dX0_pour_123 : decode cX0_pour 123 = .ok (.aload_n 0, 1) := by decide +kernel
theorem dX0_pour_124 : decode cX0_pour 124 = .ok (.aload_n 2, 1) := by decide +kernel
theorem dX0_pour_125 : decode cX0_pour 125 = .ok (.getfield 85, 3) := by decide +kernel
theorem dX0_pour_128 : decode cX0_pour 128 = .ok (.invokevirtual 88, 3) := by decide +kernel
theorem dX0_pour_131 : decode cX0_pour 131 = .ok (.aload_n 2, 1) := by decide +kernel
theorem dX0_pour_132 : decode cX0_pour 132 = .ok (.aload_n 0, 1) := by decide +kernel
theorem dX0_pour_133 : decode cX0_pour 133 = .ok (.getfield 28, 3) := by decide +kernel
theorem dX0_pour_136 : decode cX0_pour 136 = .ok (.putfield 91, 3) := by decide +kernel
theorem dX0_pour_139 : decode cX0_pour 139 = .ok (.return_, 1) := by decide +kernel
theorem dX0_turnTrip_0 : decode cX0_turnTrip 0 = .ok (.aload_n 0, 1) := by decide +kernel
theorem dX0_turnTrip_1 : decode cX0_turnTrip 1 = .ok (.lload_n 1, 1) := by decide +kernel
theorem dX0_turnTrip_2 : decode cX0_turnTrip 2 = .ok (.lconst 0, 1) := by decide +kernel
theorem dX0_turnTrip_3 : decode cX0_turnTrip 3 = .ok (.lcmp, 1) := by decide +kernel
theorem dX0_turnTrip_4 : decode cX0_turnTrip 4 = .ok (.ifCond .le 7, 3) := by decide +kernel
theorem dX0_turnTrip_7 : decode cX0_turnTrip 7 = .ok (.iconst 0, 1) := by decide +kernel
theorem dX0_turnTrip_8 : decode cX0_turnTrip 8 = .ok (.goto 9, 3) := by decide +kernel
theorem dX0_turnTrip_11 : decode cX0_turnTrip 11 = .ok (.aload_n 0, 1) := by decide +kernel
theorem dX0_turnTrip_12 : decode cX0_turnTrip 12 = .ok (.getfield 36, 3) := by decide +kernel
theorem dX0_turnTrip_15 : decode cX0_turnTrip 15 = .ok (.iconst 1, 1) := by decide +kernel
theorem dX0_turnTrip_16 : decode cX0_turnTrip 16 = .ok (.iadd, 1) := by decide +kernel
theorem dX0_turnTrip_17 : decode cX0_turnTrip 17 = .ok (.putfield 36, 3) := by decide +kernel
theorem dX0_turnTrip_20 : decode cX0_turnTrip 20 = .ok (.aload_n 0, 1) := by decide +kernel
theorem dX0_turnTrip_21 : decode cX0_turnTrip 21 = .ok (.getfield 32, 3) := by decide +kernel
theorem dX0_turnTrip_24 : decode cX0_turnTrip 24 = .ok (.ifCond .eq 26, 3) := by decide +kernel
theorem dX0_turnTrip_27 : decode cX0_turnTrip 27 = .ok (.aload_n 0, 1) := by decide +kernel
theorem dX0_turnTrip_28 : decode cX0_turnTrip 28 = .ok (.aload_n 0, 1) := by decide +kernel
theorem dX0_turnTrip_29 : decode cX0_turnTrip 29 = .ok (.getfield 36, 3) := by decide +kernel
theorem dX0_turnTrip_32 : decode cX0_turnTrip 32 = .ok (.aload_n 0, 1) := by decide +kernel
theorem dX0_turnTrip_33 : decode cX0_turnTrip 33 = .ok (.getfield 21, 3) := by decide +kernel
theorem dX0_turnTrip_36 : decode cX0_turnTrip 36 = .ok (.if_icmp .ge 7, 3) := by decide +kernel
theorem dX0_turnTrip_39 : decode cX0_turnTrip 39 = .ok (.iconst 1, 1) := by decide +kernel
theorem dX0_turnTrip_40 : decode cX0_turnTrip 40 = .ok (.goto 4, 3) := by decide +kernel
theorem dX0_turnTrip_43 : decode cX0_turnTrip 43 = .ok (.iconst 0, 1) := by decide +kernel
theorem dX0_turnTrip_44 : decode cX0_turnTrip 44 = .ok (.putfield 32, 3) := by decide +kernel
theorem dX0_turnTrip_47 : decode cX0_turnTrip 47 = .ok (.goto 31, 3) := by decide +kernel
theorem dX0_turnTrip_50 : decode cX0_turnTrip 50 = .ok (.aload_n 0, 1) := by decide +kernel
theorem dX0_turnTrip_51 : decode cX0_turnTrip 51 = .ok (.lload_n 1, 1) := by decide +kernel
theorem dX0_turnTrip_52 : decode cX0_turnTrip 52 = .ok (.lconst 0, 1) := by decide +kernel
theorem dX0_turnTrip_53 : decode cX0_turnTrip 53 = .ok (.lcmp, 1) := by decide +kernel
theorem dX0_turnTrip_54 : decode cX0_turnTrip 54 = .ok (.ifCond .le 20, 3) := by decide +kernel
theorem dX0_turnTrip_57 : decode cX0_turnTrip 57 = .ok (.aload_n 0, 1) := by decide +kernel
theorem dX0_turnTrip_58 : decode cX0_turnTrip 58 = .ok (.invokevirtual 92, 3) := by decide +kernel
theorem dX0_turnTrip_61 : decode cX0_turnTrip 61 = .ok (.aload_n 0, 1) := by decide +kernel
theorem dX0_turnTrip_62 : decode cX0_turnTrip 62 = .ok (.getfield 17, 3) := by decide +kernel
theorem dX0_turnTrip_65 : decode cX0_turnTrip 65 = .ok (.i2l, 1) := by decide +kernel
theorem dX0_turnTrip_66 : decode cX0_turnTrip 66 = .ok (.lcmp, 1) := by decide +kernel
theorem dX0_turnTrip_67 : decode cX0_turnTrip 67 = .ok (.ifCond .le 7, 3) := by decide +kernel
theorem dX0_turnTrip_70 : decode cX0_turnTrip 70 = .ok (.iconst 1, 1) := by decide +kernel
theorem dX0_turnTrip_71 : decode cX0_turnTrip 71 = .ok (.goto 4, 3) := by decide +kernel
theorem dX0_turnTrip_74 : decode cX0_turnTrip 74 = .ok (.iconst 0, 1) := by decide +kernel
theorem dX0_turnTrip_75 : decode cX0_turnTrip 75 = .ok (.putfield 32, 3) := by decide +kernel
theorem dX0_turnTrip_78 : decode cX0_turnTrip 78 = .ok (.return_, 1) := by decide +kernel
theorem dX0_lostShare_0 : decode cX0_lostShare 0 = .ok (.aload_n 0, 1) := by decide +kernel
theorem dX0_lostShare_1 : decode cX0_lostShare 1 = .ok (.getfield 42, 3) := by decide +kernel
theorem dX0_lostShare_4 : decode cX0_lostShare 4 = .ok (.lconst 0, 1) := by decide +kernel
theorem dX0_lostShare_5 : decode cX0_lostShare 5 = .ok (.lcmp, 1) := by decide +kernel
theorem dX0_lostShare_6 : decode cX0_lostShare 6 = .ok (.ifCond .le 19, 3) := by decide +kernel
theorem dX0_lostShare_9 : decode cX0_lostShare 9 = .ok (.aload_n 0, 1) := by decide +kernel
theorem dX0_lostShare_10 : decode cX0_lostShare 10 = .ok (.getfield 39, 3) := by decide +kernel
theorem dX0_lostShare_13 : decode cX0_lostShare 13 = .ok (.ldc2_w 95, 3) := by decide +kernel
theorem dX0_lostShare_16 : decode cX0_lostShare 16 = .ok (.lmul, 1) := by decide +kernel
theorem dX0_lostShare_17 : decode cX0_lostShare 17 = .ok (.aload_n 0, 1) := by decide +kernel
theorem dX0_lostShare_18 : decode cX0_lostShare 18 = .ok (.getfield 42, 3) := by decide +kernel
theorem dX0_lostShare_21 : decode cX0_lostShare 21 = .ok (.ldiv, 1) := by decide +kernel
theorem dX0_lostShare_22 : decode cX0_lostShare 22 = .ok (.goto 4, 3) := by decide +kernel
theorem dX0_lostShare_25 : decode cX0_lostShare 25 = .ok (.lconst 0, 1) := by decide +kernel
theorem dX0_lostShare_26 : decode cX0_lostShare 26 = .ok (.lreturn, 1) := by decide +kernel
theorem dX0_takeSteps_0 : decode cX0_takeSteps 0 = .ok (.aload_n 2, 1) := by decide +kernel
theorem dX0_takeSteps_1 : decode cX0_takeSteps 1 = .ok (.getfield 75, 3) := by decide +kernel
theorem dX0_takeSteps_4 : decode cX0_takeSteps 4 = .ok (.lstore 4, 2) := by decide +kernel
theorem dX0_takeSteps_6 : decode cX0_takeSteps 6 = .ok (.iconst 0, 1) := by decide +kernel
theorem dX0_takeSteps_7 : decode cX0_takeSteps 7 = .ok (.istore 6, 2) := by decide +kernel
theorem dX0_takeSteps_9 : decode cX0_takeSteps 9 = .ok (.iload 6, 2) := by decide +kernel
theorem dX0_takeSteps_11 : decode cX0_takeSteps 11 = .ok (.bipush 10, 2) := by decide +kernel
theorem dX0_takeSteps_13 : decode cX0_takeSteps 13 = .ok (.if_icmp .ge 93, 3) := by decide +kernel
theorem dX0_takeSteps_16 : decode cX0_takeSteps 16 = .ok (.aload_n 2, 1) := by decide +kernel
theorem dX0_takeSteps_17 : decode cX0_takeSteps 17 = .ok (.getfield 97, 3) := by decide +kernel
theorem dX0_takeSteps_20 : decode cX0_takeSteps 20 = .ok (.iload 6, 2) := by decide +kernel
theorem dX0_takeSteps_22 : decode cX0_takeSteps 22 = .ok (.lconst 0, 1) := by decide +kernel
theorem dX0_takeSteps_23 : decode cX0_takeSteps 23 = .ok (.lastore, 1) := by decide +kernel
theorem dX0_takeSteps_24 : decode cX0_takeSteps 24 = .ok (.iload 6, 2) := by decide +kernel
theorem dX0_takeSteps_26 : decode cX0_takeSteps 26 = .ok (.aload_n 3, 1) := by decide +kernel
theorem dX0_takeSteps_27 : decode cX0_takeSteps 27 = .ok (.getfield 101, 3) := by decide +kernel
theorem dX0_takeSteps_30 : decode cX0_takeSteps 30 = .ok (.if_icmp .ge 70, 3) := by decide +kernel
theorem dX0_takeSteps_33 : decode cX0_takeSteps 33 = .ok (.aload_n 0, 1) := by decide +kernel
theorem dX0_takeSteps_34 : decode cX0_takeSteps 34 = .ok (.aload_n 3, 1) := by decide +kernel
theorem dX0_takeSteps_35 : decode cX0_takeSteps 35 = .ok (.getfield 104, 3) := by decide +kernel
theorem dX0_takeSteps_38 : decode cX0_takeSteps 38 = .ok (.iload 6, 2) := by decide +kernel
theorem dX0_takeSteps_40 : decode cX0_takeSteps 40 = .ok (.aaload, 1) := by decide +kernel
theorem dX0_takeSteps_41 : decode cX0_takeSteps 41 = .ok (.iload_n 1, 1) := by decide +kernel
theorem dX0_takeSteps_42 : decode cX0_takeSteps 42 = .ok (.aload_n 2, 1) := by decide +kernel
theorem dX0_takeSteps_43 : decode cX0_takeSteps 43 = .ok (.invokevirtual 108, 3) := by decide +kernel
theorem dX0_takeSteps_46 : decode cX0_takeSteps 46 = .ok (.ifCond .eq 54, 3) := by decide +kernel
theorem dX0_takeSteps_49 : decode cX0_takeSteps 49 = .ok (.lload 4, 2) := by decide +kernel
theorem dX0_takeSteps_51 : decode cX0_takeSteps 51 = .ok (.aload_n 0, 1) := by decide +kernel
theorem dX0_takeSteps_52 : decode cX0_takeSteps 52 = .ok (.aload_n 3, 1) := by decide +kernel
theorem dX0_takeSteps_53 : decode cX0_takeSteps 53 = .ok (.getfield 104, 3) := by decide +kernel
theorem dX0_takeSteps_56 : decode cX0_takeSteps 56 = .ok (.iload 6, 2) := by decide +kernel
theorem dX0_takeSteps_58 : decode cX0_takeSteps 58 = .ok (.aaload, 1) := by decide +kernel
theorem dX0_takeSteps_59 : decode cX0_takeSteps 59 = .ok (.aload_n 2, 1) := by decide +kernel
theorem dX0_takeSteps_60 : decode cX0_takeSteps 60 = .ok (.lload 4, 2) := by decide +kernel
theorem dX0_takeSteps_62 : decode cX0_takeSteps 62 = .ok (.invokevirtual 112, 3) := by decide +kernel
theorem dX0_takeSteps_65 : decode cX0_takeSteps 65 = .ok (.invokestatic 116, 3) := by decide +kernel
theorem dX0_takeSteps_68 : decode cX0_takeSteps 68 = .ok (.lstore 7, 2) := by decide +kernel
theorem dX0_takeSteps_70 : decode cX0_takeSteps 70 = .ok (.aload_n 0, 1) := by decide +kernel
theorem dX0_takeSteps_71 : decode cX0_takeSteps 71 = .ok (.aload_n 3, 1) := by decide +kernel
theorem dX0_takeSteps_72 : decode cX0_takeSteps 72 = .ok (.getfield 104, 3) := by decide +kernel
theorem dX0_takeSteps_75 : decode cX0_takeSteps 75 = .ok (.iload 6, 2) := by decide +kernel
theorem dX0_takeSteps_77 : decode cX0_takeSteps 77 = .ok (.aaload, 1) := by decide +kernel
theorem dX0_takeSteps_78 : decode cX0_takeSteps 78 = .ok (.lload 7, 2) := by decide +kernel
theorem dX0_takeSteps_80 : decode cX0_takeSteps 80 = .ok (.iload_n 1, 1) := by decide +kernel
theorem dX0_takeSteps_81 : decode cX0_takeSteps 81 = .ok (.invokevirtual 122, 3) := by decide +kernel
theorem dX0_takeSteps_84 : decode cX0_takeSteps 84 = .ok (.aload_n 2, 1) := by decide +kernel
theorem dX0_takeSteps_85 : decode cX0_takeSteps 85 = .ok (.getfield 97, 3) := by decide +kernel
theorem dX0_takeSteps_88 : decode cX0_takeSteps 88 = .ok (.iload 6, 2) := by decide +kernel
theorem dX0_takeSteps_90 : decode cX0_takeSteps 90 = .ok (.lload 7, 2) := by decide +kernel
theorem dX0_takeSteps_92 : decode cX0_takeSteps 92 = .ok (.lastore, 1) := by decide +kernel
theorem dX0_takeSteps_93 : decode cX0_takeSteps 93 = .ok (.lload 4, 2) := by decide +kernel
theorem dX0_takeSteps_95 : decode cX0_takeSteps 95 = .ok (.lload 7, 2) := by decide +kernel
theorem dX0_takeSteps_97 : decode cX0_takeSteps 97 = .ok (.lsub, 1) := by decide +kernel
theorem dX0_takeSteps_98 : decode cX0_takeSteps 98 = .ok (.lstore 4, 2) := by decide +kernel
theorem dX0_takeSteps_100 : decode cX0_takeSteps 100 = .ok (.iinc 6 1, 3) := by decide +kernel
theorem dX0_takeSteps_103 : decode cX0_takeSteps 103 = .ok (.goto (-94), 3) := by decide +kernel
theorem dX0_takeSteps_106 : decode cX0_takeSteps 106 = .ok (.return_, 1) := by decide +kernel
theorem dX0_passes_0 : decode cX0_passes 0 = .ok (.aload_n 1, 1) := by decide +kernel
theorem dX0_passes_1 : decode cX0_passes 1 = .ok (.iconst 3, 1) := by decide +kernel
theorem dX0_passes_2 : decode cX0_passes 2 = .ok (.iaload, 1) := by decide +kernel
theorem dX0_passes_3 : decode cX0_passes 3 = .ok (.istore 4, 2) := by decide +kernel
theorem dX0_passes_5 : decode cX0_passes 5 = .ok (.iload 4, 2) := by decide +kernel
theorem dX0_passes_7 : decode cX0_passes 7 = .ok (.ifCond .ne 5, 3) := by decide +kernel
theorem dX0_passes_10 : decode cX0_passes 10 = .ok (.iconst 1, 1) := by decide +kernel
theorem dX0_passes_11 : decode cX0_passes 11 = .ok (.ireturn, 1) := by decide +kernel
theorem dX0_passes_12 : decode cX0_passes 12 = .ok (.aload_n 0, 1) := by decide +kernel
theorem dX0_passes_13 : decode cX0_passes 13 = .ok (.aload_n 1, 1) := by decide +kernel
theorem dX0_passes_14 : decode cX0_passes 14 = .ok (.iconst 4, 1) := by decide +kernel
theorem dX0_passes_15 : decode cX0_passes 15 = .ok (.iaload, 1) := by decide +kernel
theorem dX0_passes_16 : decode cX0_passes 16 = .ok (.iload_n 2, 1) := by decide +kernel
theorem dX0_passes_17 : decode cX0_passes 17 = .ok (.aload_n 3, 1) := by decide +kernel
theorem dX0_passes_18 : decode cX0_passes 18 = .ok (.invokevirtual 126, 3) := by decide +kernel
theorem dX0_passes_21 : decode cX0_passes 21 = .ok (.lstore 5, 2) := by decide +kernel
theorem dX0_passes_23 : decode cX0_passes 23 = .ok (.aload_n 1, 1) := by decide +kernel
theorem dX0_passes_24 : decode cX0_passes 24 = .ok (.iconst 5, 1) := by decide +kernel
theorem dX0_passes_25 : decode cX0_passes 25 = .ok (.iaload, 1) := by decide +kernel
theorem dX0_passes_26 : decode cX0_passes 26 = .ok (.istore 7, 2) := by decide +kernel
theorem dX0_passes_28 : decode cX0_passes 28 = .ok (.iload 4, 2) := by decide +kernel
theorem dX0_passes_30 : decode cX0_passes 30 = .ok (.tableswitch 71 1 3 #[26, 41, 56], 26) := by decide +kernel
theorem dX0_passes_56 : decode cX0_passes 56 = .ok (.lload 5, 2) := by decide +kernel
theorem dX0_passes_58 : decode cX0_passes 58 = .ok (.iload 7, 2) := by decide +kernel
theorem dX0_passes_60 : decode cX0_passes 60 = .ok (.i2l, 1) := by decide +kernel
theorem dX0_passes_61 : decode cX0_passes 61 = .ok (.lcmp, 1) := by decide +kernel
theorem dX0_passes_62 : decode cX0_passes 62 = .ok (.ifCond .ge 7, 3) := by decide +kernel
theorem dX0_passes_65 : decode cX0_passes 65 = .ok (.iconst 1, 1) := by decide +kernel
theorem dX0_passes_66 : decode cX0_passes 66 = .ok (.goto 4, 3) := by decide +kernel
theorem dX0_passes_69 : decode cX0_passes 69 = .ok (.iconst 0, 1) := by decide +kernel
theorem dX0_passes_70 : decode cX0_passes 70 = .ok (.ireturn, 1) := by decide +kernel
theorem dX0_passes_71 : decode cX0_passes 71 = .ok (.lload 5, 2) := by decide +kernel
theorem dX0_passes_73 : decode cX0_passes 73 = .ok (.iload 7, 2) := by decide +kernel
theorem dX0_passes_75 : decode cX0_passes 75 = .ok (.i2l, 1) := by decide +kernel
theorem dX0_passes_76 : decode cX0_passes 76 = .ok (.lcmp, 1) := by decide +kernel
theorem dX0_passes_77 : decode cX0_passes 77 = .ok (.ifCond .ne 7, 3) := by decide +kernel
theorem dX0_passes_80 : decode cX0_passes 80 = .ok (.iconst 1, 1) := by decide +kernel
theorem dX0_passes_81 : decode cX0_passes 81 = .ok (.goto 4, 3) := by decide +kernel
theorem dX0_passes_84 : decode cX0_passes 84 = .ok (.iconst 0, 1) := by decide +kernel
theorem dX0_passes_85 : decode cX0_passes 85 = .ok (.ireturn, 1) := by decide +kernel
theorem dX0_passes_86 : decode cX0_passes 86 = .ok (.lload 5, 2) := by decide +kernel
theorem dX0_passes_88 : decode cX0_passes 88 = .ok (.iload 7, 2) := by decide +kernel
theorem dX0_passes_90 : decode cX0_passes 90 = .ok (.i2l, 1) := by decide +kernel
theorem dX0_passes_91 : decode cX0_passes 91 = .ok (.lcmp, 1) := by decide +kernel
theorem dX0_passes_92 : decode cX0_passes 92 = .ok (.ifCond .lt 7, 3) := by decide +kernel
theorem dX0_passes_95 : decode cX0_passes 95 = .ok (.iconst 1, 1) := by decide +kernel
theorem dX0_passes_96 : decode cX0_passes 96 = .ok (.goto 4, 3) := by decide +kernel
theorem dX0_passes_99 : decode cX0_passes 99 = .ok (.iconst 0, 1) := by decide +kernel
theorem dX0_passes_100 : decode cX0_passes 100 = .ok (.ireturn, 1) := by decide +kernel
theorem dX0_passes_101 : decode cX0_passes 101 = .ok (.lload 5, 2) := by decide +kernel
theorem dX0_passes_103 : decode cX0_passes 103 = .ok (.iload 7, 2) := by decide +kernel
theorem dX0_passes_105 : decode cX0_passes 105 = .ok (.i2l, 1) := by decide +kernel
theorem dX0_passes_106 : decode cX0_passes 106 = .ok (.lcmp, 1) := by decide +kernel
theorem dX0_passes_107 : decode cX0_passes 107 = .ok (.ifCond .eq 7, 3) := by decide +kernel
theorem dX0_passes_110 : decode cX0_passes 110 = .ok (.iconst 1, 1) := by decide +kernel
theorem dX0_passes_111 : decode cX0_passes 111 = .ok (.goto 4, 3) := by decide +kernel
theorem dX0_passes_114 : decode cX0_passes 114 = .ok (.iconst 0, 1) := by decide +kernel
theorem dX0_passes_115 : decode cX0_passes 115 = .ok (.ireturn, 1) := by decide +kernel
theorem dX0_field_0 : decode cX0_field 0 = .ok (.iload_n 1, 1) := by decide +kernel
theorem dX0_field_1 : decode cX0_field 1 = .ok (.tableswitch 54 0 3 #[31, 34, 40, 45], 31) := by decide +kernel
theorem dX0_field_32 : decode cX0_field 32 = .ok (.iload_n 2, 1) := by decide +kernel
theorem dX0_field_33 : decode cX0_field 33 = .ok (.i2l, 1) := by decide +kernel
theorem dX0_field_34 : decode cX0_field 34 = .ok (.lreturn, 1) := by decide +kernel
theorem dX0_field_35 : decode cX0_field 35 = .ok (.aload_n 3, 1) := by decide +kernel
theorem dX0_field_36 : decode cX0_field 36 = .ok (.getfield 130, 3) := by decide +kernel
theorem dX0_field_39 : decode cX0_field 39 = .ok (.i2l, 1) := by decide +kernel
theorem dX0_field_40 : decode cX0_field 40 = .ok (.lreturn, 1) := by decide +kernel
theorem dX0_field_41 : decode cX0_field 41 = .ok (.aload_n 0, 1) := by decide +kernel
theorem dX0_field_42 : decode cX0_field 42 = .ok (.invokevirtual 92, 3) := by decide +kernel
theorem dX0_field_45 : decode cX0_field 45 = .ok (.lreturn, 1) := by decide +kernel
theorem dX0_field_46 : decode cX0_field 46 = .ok (.aload_n 0, 1) := by decide +kernel
theorem dX0_field_47 : decode cX0_field 47 = .ok (.aload_n 3, 1) := by decide +kernel
theorem dX0_field_48 : decode cX0_field 48 = .ok (.getfield 85, 3) := by decide +kernel
theorem dX0_field_51 : decode cX0_field 51 = .ok (.invokevirtual 133, 3) := by decide +kernel
theorem dX0_field_54 : decode cX0_field 54 = .ok (.lreturn, 1) := by decide +kernel
theorem dX0_field_55 : decode cX0_field 55 = .ok (.aload_n 0, 1) := by decide +kernel
theorem dX0_field_56 : decode cX0_field 56 = .ok (.getfield 32, 3) := by decide +kernel
theorem dX0_field_59 : decode cX0_field 59 = .ok (.ifCond .eq 7, 3) := by decide +kernel
theorem dX0_field_62 : decode cX0_field 62 = .ok (.lconst 1, 1) := by decide +kernel
theorem dX0_field_63 : decode cX0_field 63 = .ok (.goto 4, 3) := by decide +kernel
theorem dX0_field_66 : decode cX0_field 66 = .ok (.lconst 0, 1) := by decide +kernel
theorem dX0_field_67 : decode cX0_field 67 = .ok (.lreturn, 1) := by decide +kernel
theorem dX0_cover_0 : decode cX0_cover 0 = .ok (.aload_n 0, 1) := by decide +kernel
theorem dX0_cover_1 : decode cX0_cover 1 = .ok (.getfield 52, 3) := by decide +kernel
theorem dX0_cover_4 : decode cX0_cover 4 = .ok (.ifCond .le 15, 3) := by decide +kernel
theorem dX0_cover_7 : decode cX0_cover 7 = .ok (.aload_n 0, 1) := by decide +kernel
theorem dX0_cover_8 : decode cX0_cover 8 = .ok (.getfield 11, 3) := by decide +kernel
theorem dX0_cover_11 : decode cX0_cover 11 = .ok (.iconst 0, 1) := by decide +kernel
theorem dX0_cover_12 : decode cX0_cover 12 = .ok (.aaload, 1) := by decide +kernel
theorem dX0_cover_13 : decode cX0_cover 13 = .ok (.getfield 137, 3) := by decide +kernel
theorem dX0_cover_16 : decode cX0_cover 16 = .ok (.goto 4, 3) := by decide +kernel
theorem dX0_cover_19 : decode cX0_cover 19 = .ok (.lconst 0, 1) := by decide +kernel
theorem dX0_cover_20 : decode cX0_cover 20 = .ok (.lstore_n 3, 1) := by decide +kernel
theorem dX0_cover_21 : decode cX0_cover 21 = .ok (.lload_n 3, 1) := by decide +kernel
theorem dX0_cover_22 : decode cX0_cover 22 = .ok (.lconst 0, 1) := by decide +kernel
theorem dX0_cover_23 : decode cX0_cover 23 = .ok (.lcmp, 1) := by decide +kernel
theorem dX0_cover_24 : decode cX0_cover 24 = .ok (.ifCond .le 19, 3) := by decide +kernel
theorem dX0_cover_27 : decode cX0_cover 27 = .ok (.ldc2_w 140, 3) := by decide +kernel
theorem dX0_cover_30 : decode cX0_cover 30 = .ok (.ldc2_w 142, 3) := by decide +kernel
theorem dX0_cover_33 : decode cX0_cover 33 = .ok (.lload_n 1, 1) := by decide +kernel
theorem dX0_cover_34 : decode cX0_cover 34 = .ok (.lmul, 1) := by decide +kernel
theorem dX0_cover_35 : decode cX0_cover 35 = .ok (.lload_n 3, 1) := by decide +kernel
theorem dX0_cover_36 : decode cX0_cover 36 = .ok (.ldiv, 1) := by decide +kernel
theorem dX0_cover_37 : decode cX0_cover 37 = .ok (.invokestatic 116, 3) := by decide +kernel
theorem dX0_cover_40 : decode cX0_cover 40 = .ok (.goto 6, 3) := by decide +kernel
theorem dX0_cover_43 : decode cX0_cover 43 = .ok (.ldc2_w 140, 3) := by decide +kernel
theorem dX0_cover_46 : decode cX0_cover 46 = .ok (.lreturn, 1) := by decide +kernel
theorem dX0_wish_0 : decode cX0_wish 0 = .ok (.aload_n 1, 1) := by decide +kernel
theorem dX0_wish_1 : decode cX0_wish 1 = .ok (.iconst 2, 1) := by decide +kernel
theorem dX0_wish_2 : decode cX0_wish 2 = .ok (.iaload, 1) := by decide +kernel
theorem dX0_wish_3 : decode cX0_wish 3 = .ok (.istore 5, 2) := by decide +kernel
theorem dX0_wish_5 : decode cX0_wish 5 = .ok (.aload_n 0, 1) := by decide +kernel
theorem dX0_wish_6 : decode cX0_wish 6 = .ok (.aload_n 1, 1) := by decide +kernel
theorem dX0_wish_7 : decode cX0_wish 7 = .ok (.invokevirtual 144, 3) := by decide +kernel
theorem dX0_wish_10 : decode cX0_wish 10 = .ok (.astore 6, 2) := by decide +kernel
theorem dX0_wish_12 : decode cX0_wish 12 = .ok (.aload_n 1, 1) := by decide +kernel
theorem dX0_wish_13 : decode cX0_wish 13 = .ok (.iconst 0, 1) := by decide +kernel
theorem dX0_wish_14 : decode cX0_wish 14 = .ok (.iaload, 1) := by decide +kernel
theorem dX0_wish_15 : decode cX0_wish 15 = .ok (.tableswitch 119 0 4 #[33, 46, 61, 76, 106], 33) := by decide +kernel
theorem dX0_wish_48 : decode cX0_wish 48 = .ok (.aload_n 2, 1) := by decide +kernel
theorem dX0_wish_49 : decode cX0_wish 49 = .ok (.getfield 55, 3) := by decide +kernel
theorem dX0_wish_52 : decode cX0_wish 52 = .ok (.iload 5, 2) := by decide +kernel
theorem dX0_wish_54 : decode cX0_wish 54 = .ok (.i2l, 1) := by decide +kernel
theorem dX0_wish_55 : decode cX0_wish 55 = .ok (.lmul, 1) := by decide +kernel
theorem dX0_wish_56 : decode cX0_wish 56 = .ok (.ldc2_w 148, 3) := by decide +kernel
theorem dX0_wish_59 : decode cX0_wish 59 = .ok (.ldiv, 1) := by decide +kernel
theorem dX0_wish_60 : decode cX0_wish 60 = .ok (.lreturn, 1) := by decide +kernel
theorem dX0_wish_61 : decode cX0_wish 61 = .ok (.aload 6, 2) := by decide +kernel
theorem dX0_wish_63 : decode cX0_wish 63 = .ok (.ifnonnull 7, 3) := by decide +kernel
theorem dX0_wish_66 : decode cX0_wish 66 = .ok (.lconst 0, 1) := by decide +kernel
theorem dX0_wish_67 : decode cX0_wish 67 = .ok (.goto 8, 3) := by decide +kernel
theorem dX0_wish_70 : decode cX0_wish 70 = .ok (.aload 6, 2) := by decide +kernel
theorem dX0_wish_72 : decode cX0_wish 72 = .ok (.getfield 150, 3) := by decide +kernel
theorem dX0_wish_75 : decode cX0_wish 75 = .ok (.lreturn, 1) := by decide +kernel
theorem dX0_wish_76 : decode cX0_wish 76 = .ok (.aload 6, 2) := by decide +kernel
theorem dX0_wish_78 : decode cX0_wish 78 = .ok (.ifnonnull 7, 3) := by decide +kernel
theorem dX0_wish_81 : decode cX0_wish 81 = .ok (.lconst 0, 1) := by decide +kernel
theorem dX0_wish_82 : decode cX0_wish 82 = .ok (.goto 8, 3) := by decide +kernel
theorem dX0_wish_85 : decode cX0_wish 85 = .ok (.aload 6, 2) := by decide +kernel
theorem dX0_wish_87 : decode cX0_wish 87 = .ok (.getfield 137, 3) := by decide +kernel
theorem dX0_wish_90 : decode cX0_wish 90 = .ok (.lreturn, 1) := by decide +kernel
theorem dX0_wish_91 : decode cX0_wish 91 = .ok (.aload 6, 2) := by decide +kernel
theorem dX0_wish_93 : decode cX0_wish 93 = .ok (.ifnonnull 7, 3) := by decide +kernel
theorem dX0_wish_96 : decode cX0_wish 96 = .ok (.lconst 0, 1) := by decide +kernel
theorem dX0_wish_97 : decode cX0_wish 97 = .ok (.goto 23, 3) := by decide +kernel
theorem dX0_wish_100 : decode cX0_wish 100 = .ok (.aload 6, 2) := by decide +kernel
theorem dX0_wish_102 : decode cX0_wish 102 = .ok (.getfield 137, 3) := by decide +kernel
theorem dX0_wish_105 : decode cX0_wish 105 = .ok (.aload_n 2, 1) := by decide +kernel
theorem dX0_wish_106 : decode cX0_wish 106 = .ok (.getfield 153, 3) := by decide +kernel
theorem dX0_wish_109 : decode cX0_wish 109 = .ok (.iload 5, 2) := by decide +kernel
theorem dX0_wish_111 : decode cX0_wish 111 = .ok (.i2l, 1) := by decide +kernel
theorem dX0_wish_112 : decode cX0_wish 112 = .ok (.lmul, 1) := by decide +kernel
theorem dX0_wish_113 : decode cX0_wish 113 = .ok (.ldc2_w 142, 3) := by decide +kernel
theorem dX0_wish_116 : decode cX0_wish 116 = .ok (.ldiv, 1) := by decide +kernel
theorem dX0_wish_117 : decode cX0_wish 117 = .ok (.invokestatic 116, 3) := by decide +kernel
theorem dX0_wish_120 : decode cX0_wish 120 = .ok (.lreturn, 1) := by decide +kernel
theorem dX0_wish_121 : decode cX0_wish 121 = .ok (.lconst 0, 1) := by decide +kernel
theorem dX0_wish_122 : decode cX0_wish 122 = .ok (.iload 5, 2) := by decide +kernel
theorem dX0_wish_124 : decode cX0_wish 124 = .ok (.i2l, 1) := by decide +kernel
theorem dX0_wish_125 : decode cX0_wish 125 = .ok (.aload_n 0, 1) := by decide +kernel
theorem dX0_wish_126 : decode cX0_wish 126 = .ok (.getfield 28, 3) := by decide +kernel
theorem dX0_wish_129 : decode cX0_wish 129 = .ok (.lsub, 1) := by decide +kernel
theorem dX0_wish_130 : decode cX0_wish 130 = .ok (.invokestatic 156, 3) := by decide +kernel
theorem dX0_wish_133 : decode cX0_wish 133 = .ok (.lreturn, 1) := by decide +kernel
theorem dX0_wish_134 : decode cX0_wish 134 = .ok (.lload_n 3, 1) := by decide +kernel
theorem dX0_wish_135 : decode cX0_wish 135 = .ok (.lreturn, 1) := by decide +kernel
theorem dX0_give_0 : decode cX0_give 0 = .ok (.aload_n 0, 1) := by decide +kernel
theorem dX0_give_1 : decode cX0_give 1 = .ok (.aload_n 1, 1) := by decide +kernel
theorem dX0_give_2 : decode cX0_give 2 = .ok (.invokevirtual 144, 3) := by decide +kernel
theorem dX0_give_5 : decode cX0_give 5 = .ok (.astore 5, 2) := by decide +kernel
theorem dX0_give_7 : decode cX0_give 7 = .ok (.aload_n 1, 1) := by decide +kernel
theorem dX0_give_8 : decode cX0_give 8 = .ok (.iconst 0, 1) := by decide +kernel
theorem dX0_give_9 : decode cX0_give 9 = .ok (.iaload, 1) := by decide +kernel
theorem dX0_give_10 : decode cX0_give 10 = .ok (.tableswitch 90 1 5 #[60, 74, 74, 34, 47], 34) := by decide +kernel
theorem dX0_give_44 : decode cX0_give 44 = .ok (.aload_n 0, 1) := by decide +kernel
theorem dX0_give_45 : decode cX0_give 45 = .ok (.dup, 1) := by decide +kernel
theorem dX0_give_46 : decode cX0_give 46 = .ok (.getfield 28, 3) := by decide +kernel
theorem dX0_give_49 : decode cX0_give 49 = .ok (.lload_n 2, 1) := by decide +kernel
theorem dX0_give_50 : decode cX0_give 50 = .ok (.ladd, 1) := by decide +kernel
theorem dX0_give_51 : decode cX0_give 51 = .ok (.putfield 28, 3) := by decide +kernel
theorem dX0_give_54 : decode cX0_give 54 = .ok (.goto 46, 3) := by decide +kernel
theorem dX0_give_57 : decode cX0_give 57 = .ok (.aload_n 0, 1) := by decide +kernel
theorem dX0_give_58 : decode cX0_give 58 = .ok (.dup, 1) := by decide +kernel
theorem dX0_give_59 : decode cX0_give 59 = .ok (.getfield 45, 3) := by decide +kernel
theorem dX0_give_62 : decode cX0_give 62 = .ok (.lload_n 2, 1) := by decide +kernel
theorem dX0_give_63 : decode cX0_give 63 = .ok (.ladd, 1) := by decide +kernel
theorem dX0_give_64 : decode cX0_give 64 = .ok (.putfield 45, 3) := by decide +kernel
theorem dX0_give_67 : decode cX0_give 67 = .ok (.goto 33, 3) := by decide +kernel
theorem dX0_give_70 : decode cX0_give 70 = .ok (.aload 5, 2) := by decide +kernel
theorem dX0_give_72 : decode cX0_give 72 = .ok (.ifnull 28, 3) := by decide +kernel
theorem dX0_give_75 : decode cX0_give 75 = .ok (.aload 5, 2) := by decide +kernel
theorem dX0_give_77 : decode cX0_give 77 = .ok (.lload_n 2, 1) := by decide +kernel
theorem dX0_give_78 : decode cX0_give 78 = .ok (.invokevirtual 159, 3) := by decide +kernel
theorem dX0_give_81 : decode cX0_give 81 = .ok (.goto 19, 3) := by decide +kernel
theorem dX0_give_84 : decode cX0_give 84 = .ok (.aload 5, 2) := by decide +kernel
theorem dX0_give_86 : decode cX0_give 86 = .ok (.ifnull 14, 3) := by decide +kernel
theorem dX0_give_89 : decode cX0_give 89 = .ok (.aload 5, 2) := by decide +kernel
theorem dX0_give_91 : decode cX0_give 91 = .ok (.lload_n 2, 1) := by decide +kernel
theorem dX0_give_92 : decode cX0_give 92 = .ok (.iload 4, 2) := by decide +kernel
theorem dX0_give_94 : decode cX0_give 94 = .ok (.invokevirtual 162, 3) := by decide +kernel
theorem dX0_give_97 : decode cX0_give 97 = .ok (.goto 3, 3) := by decide +kernel
theorem dX0_give_100 : decode cX0_give 100 = .ok (.return_, 1) := by decide +kernel
theorem dX0_paperOf_0 : decode cX0_paperOf 0 = .ok (.aload_n 1, 1) := by decide +kernel
theorem dX0_paperOf_1 : decode cX0_paperOf 1 = .ok (.iconst 1, 1) := by decide +kernel
theorem dX0_paperOf_2 : decode cX0_paperOf 2 = .ok (.iaload, 1) := by decide +kernel
theorem dX0_paperOf_3 : decode cX0_paperOf 3 = .ok (.istore_n 2, 1) := by decide +kernel
theorem dX0_paperOf_4 : decode cX0_paperOf 4 = .ok (.iload_n 2, 1) := by decide +kernel
theorem dX0_paperOf_5 : decode cX0_paperOf 5 = .ok (.ifCond .lt 20, 3) := by decide +kernel
theorem dX0_paperOf_8 : decode cX0_paperOf 8 = .ok (.iload_n 2, 1) := by decide +kernel
theorem dX0_paperOf_9 : decode cX0_paperOf 9 = .ok (.aload_n 0, 1) := by decide +kernel
theorem dX0_paperOf_10 : decode cX0_paperOf 10 = .ok (.getfield 52, 3) := by decide +kernel
theorem dX0_paperOf_13 : decode cX0_paperOf 13 = .ok (.if_icmp .ge 12, 3) := by decide +kernel
theorem dX0_paperOf_16 : decode cX0_paperOf 16 = .ok (.aload_n 0, 1) := by decide +kernel
theorem dX0_paperOf_17 : decode cX0_paperOf 17 = .ok (.getfield 11, 3) := by decide +kernel
theorem dX0_paperOf_20 : decode cX0_paperOf 20 = .ok (.iload_n 2, 1) := by decide +kernel
theorem dX0_paperOf_21 : decode cX0_paperOf 21 = .ok (.aaload, 1) := by decide +kernel
theorem dX0_paperOf_22 : decode cX0_paperOf 22 = .ok (.goto 4, 3) := by decide +kernel
theorem dX0_paperOf_25 : decode cX0_paperOf 25 = .ok (.aconst_null, 1) := by decide +kernel
theorem dX0_paperOf_26 : decode cX0_paperOf 26 = .ok (.areturn, 1) := by decide +kernel
theorem dX0_writeDown_0 : decode cX0_writeDown 0 = .ok (.lload_n 1, 1) := by decide +kernel
theorem dX0_writeDown_1 : decode cX0_writeDown 1 = .ok (.lneg, 1) := by decide +kernel
theorem dX0_writeDown_2 : decode cX0_writeDown 2 = .ok (.aload_n 0, 1) := by decide +kernel
theorem dX0_writeDown_3 : decode cX0_writeDown 3 = .ok (.getfield 28, 3) := by decide +kernel
theorem dX0_writeDown_6 : decode cX0_writeDown 6 = .ok (.lsub, 1) := by decide +kernel
theorem dX0_writeDown_7 : decode cX0_writeDown 7 = .ok (.lstore_n 3, 1) := by decide +kernel
theorem dX0_writeDown_8 : decode cX0_writeDown 8 = .ok (.iconst 0, 1) := by decide +kernel
theorem dX0_writeDown_9 : decode cX0_writeDown 9 = .ok (.istore 5, 2) := by decide +kernel
theorem dX0_writeDown_11 : decode cX0_writeDown 11 = .ok (.iload 5, 2) := by decide +kernel
theorem dX0_writeDown_13 : decode cX0_writeDown 13 = .ok (.aload_n 0, 1) := by decide +kernel
theorem dX0_writeDown_14 : decode cX0_writeDown 14 = .ok (.getfield 52, 3) := by decide +kernel
theorem dX0_writeDown_17 : decode cX0_writeDown 17 = .ok (.if_icmp .ge 22, 3) := by decide +kernel
theorem dX0_writeDown_20 : decode cX0_writeDown 20 = .ok (.lload_n 3, 1) := by decide +kernel
theorem dX0_writeDown_21 : decode cX0_writeDown 21 = .ok (.aload_n 0, 1) := by decide +kernel
theorem dX0_writeDown_22 : decode cX0_writeDown 22 = .ok (.getfield 11, 3) := by decide +kernel
theorem dX0_writeDown_25 : decode cX0_writeDown 25 = .ok (.iload 5, 2) := by decide +kernel
theorem dX0_writeDown_27 : decode cX0_writeDown 27 = .ok (.aaload, 1) := by decide +kernel
theorem dX0_writeDown_28 : decode cX0_writeDown 28 = .ok (.getfield 137, 3) := by decide +kernel
theorem dX0_writeDown_31 : decode cX0_writeDown 31 = .ok (.ladd, 1) := by decide +kernel
theorem dX0_writeDown_32 : decode cX0_writeDown 32 = .ok (.lstore_n 3, 1) := by decide +kernel
theorem dX0_writeDown_33 : decode cX0_writeDown 33 = .ok (.iinc 5 1, 3) := by decide +kernel
theorem dX0_writeDown_36 : decode cX0_writeDown 36 = .ok (.goto (-25), 3) := by decide +kernel
theorem dX0_writeDown_39 : decode cX0_writeDown 39 = .ok (.aload_n 0, 1) := by decide +kernel
theorem dX0_writeDown_40 : decode cX0_writeDown 40 = .ok (.getfield 52, 3) := by decide +kernel
theorem dX0_writeDown_43 : decode cX0_writeDown 43 = .ok (.iconst 1, 1) := by decide +kernel
theorem dX0_writeDown_44 : decode cX0_writeDown 44 = .ok (.isub, 1) := by decide +kernel
theorem dX0_writeDown_45 : decode cX0_writeDown 45 = .ok (.istore 5, 2) := by decide +kernel
theorem dX0_writeDown_47 : decode cX0_writeDown 47 = .ok (.iload 5, 2) := by decide +kernel
theorem dX0_writeDown_49 : decode cX0_writeDown 49 = .ok (.ifCond .lt 48, 3) := by decide +kernel
theorem dX0_writeDown_52 : decode cX0_writeDown 52 = .ok (.lload_n 3, 1) := by decide +kernel
theorem dX0_writeDown_53 : decode cX0_writeDown 53 = .ok (.lconst 0, 1) := by decide +kernel
theorem dX0_writeDown_54 : decode cX0_writeDown 54 = .ok (.lcmp, 1) := by decide +kernel
theorem dX0_writeDown_55 : decode cX0_writeDown 55 = .ok (.ifCond .le 42, 3) := by decide +kernel
theorem dX0_writeDown_58 : decode cX0_writeDown 58 = .ok (.lload_n 3, 1) := by decide +kernel
theorem dX0_writeDown_59 : decode cX0_writeDown 59 = .ok (.aload_n 0, 1) := by decide +kernel
theorem dX0_writeDown_60 : decode cX0_writeDown 60 = .ok (.getfield 11, 3) := by decide +kernel
theorem dX0_writeDown_63 : decode cX0_writeDown 63 = .ok (.iload 5, 2) := by decide +kernel
theorem dX0_writeDown_65 : decode cX0_writeDown 65 = .ok (.aaload, 1) := by decide +kernel
theorem dX0_writeDown_66 : decode cX0_writeDown 66 = .ok (.getfield 137, 3) := by decide +kernel
theorem dX0_writeDown_69 : decode cX0_writeDown 69 = .ok (.invokestatic 116, 3) := by decide +kernel
theorem dX0_writeDown_72 : decode cX0_writeDown 72 = .ok (.lstore 6, 2) := by decide +kernel
theorem dX0_writeDown_74 : decode cX0_writeDown 74 = .ok (.aload_n 0, 1) := by decide +kernel
theorem dX0_writeDown_75 : decode cX0_writeDown 75 = .ok (.getfield 11, 3) := by decide +kernel
theorem dX0_writeDown_78 : decode cX0_writeDown 78 = .ok (.iload 5, 2) := by decide +kernel
theorem dX0_writeDown_80 : decode cX0_writeDown 80 = .ok (.aaload, 1) := by decide +kernel
theorem dX0_writeDown_81 : decode cX0_writeDown 81 = .ok (.lload 6, 2) := by decide +kernel
theorem dX0_writeDown_83 : decode cX0_writeDown 83 = .ok (.invokevirtual 166, 3) := by decide +kernel
theorem dX0_writeDown_86 : decode cX0_writeDown 86 = .ok (.lload_n 3, 1) := by decide +kernel
theorem dX0_writeDown_87 : decode cX0_writeDown 87 = .ok (.lload 6, 2) := by decide +kernel
theorem dX0_writeDown_89 : decode cX0_writeDown 89 = .ok (.lsub, 1) := by decide +kernel
theorem dX0_writeDown_90 : decode cX0_writeDown 90 = .ok (.lstore_n 3, 1) := by decide +kernel
theorem dX0_writeDown_91 : decode cX0_writeDown 91 = .ok (.iinc 5 (-1), 3) := by decide +kernel
theorem dX0_writeDown_94 : decode cX0_writeDown 94 = .ok (.goto (-47), 3) := by decide +kernel
theorem dX0_writeDown_97 : decode cX0_writeDown 97 = .ok (.return_, 1) := by decide +kernel
theorem dX1_init_0 : decode cX1_init 0 = .ok (.aload_n 0, 1) := by decide +kernel
theorem dX1_init_1 : decode cX1_init 1 = .ok (.invokespecial 3, 3) := by decide +kernel
theorem dX1_init_4 : decode cX1_init 4 = .ok (.aload_n 0, 1) := by decide +kernel
theorem dX1_init_5 : decode cX1_init 5 = .ok (.sipush 160, 3) := by decide +kernel
theorem dX1_init_8 : decode cX1_init 8 = .ok (.newarray .int, 2) := by decide +kernel
theorem dX1_init_10 : decode cX1_init 10 = .ok (.putfield 9, 3) := by decide +kernel
theorem dX1_init_13 : decode cX1_init 13 = .ok (.aload_n 0, 1) := by decide +kernel
theorem dX1_init_14 : decode cX1_init 14 = .ok (.iconst 4, 1) := by decide +kernel
theorem dX1_init_15 : decode cX1_init 15 = .ok (.newarray .int, 2) := by decide +kernel
theorem dX1_init_17 : decode cX1_init 17 = .ok (.dup, 1) := by decide +kernel
theorem dX1_init_18 : decode cX1_init 18 = .ok (.iconst 0, 1) := by decide +kernel
theorem dX1_init_19 : decode cX1_init 19 = .ok (.iconst 0, 1) := by decide +kernel
theorem dX1_init_20 : decode cX1_init 20 = .ok (.iastore, 1) := by decide +kernel
theorem dX1_init_21 : decode cX1_init 21 = .ok (.dup, 1) := by decide +kernel
theorem dX1_init_22 : decode cX1_init 22 = .ok (.iconst 1, 1) := by decide +kernel
theorem dX1_init_23 : decode cX1_init 23 = .ok (.iconst 1, 1) := by decide +kernel
theorem dX1_init_24 : decode cX1_init 24 = .ok (.iastore, 1) := by decide +kernel
theorem dX1_init_25 : decode cX1_init 25 = .ok (.dup, 1) := by decide +kernel
theorem dX1_init_26 : decode cX1_init 26 = .ok (.iconst 2, 1) := by decide +kernel
theorem dX1_init_27 : decode cX1_init 27 = .ok (.iconst 2, 1) := by decide +kernel
theorem dX1_init_28 : decode cX1_init 28 = .ok (.iastore, 1) := by decide +kernel
theorem dX1_init_29 : decode cX1_init 29 = .ok (.dup, 1) := by decide +kernel
theorem dX1_init_30 : decode cX1_init 30 = .ok (.iconst 3, 1) := by decide +kernel
theorem dX1_init_31 : decode cX1_init 31 = .ok (.iconst 3, 1) := by decide +kernel
theorem dX1_init_32 : decode cX1_init 32 = .ok (.iastore, 1) := by decide +kernel
theorem dX1_init_33 : decode cX1_init 33 = .ok (.putfield 15, 3) := by decide +kernel
theorem dX1_init_36 : decode cX1_init 36 = .ok (.aload_n 0, 1) := by decide +kernel
theorem dX1_init_37 : decode cX1_init 37 = .ok (.bipush 40, 2) := by decide +kernel
theorem dX1_init_39 : decode cX1_init 39 = .ok (.newarray .int, 2) := by decide +kernel
theorem dX1_init_41 : decode cX1_init 41 = .ok (.putfield 18, 3) := by decide +kernel
theorem dX1_init_44 : decode cX1_init 44 = .ok (.aload_n 0, 1) := by decide +kernel
theorem dX1_init_45 : decode cX1_init 45 = .ok (.iconst 3, 1) := by decide +kernel
theorem dX1_init_46 : decode cX1_init 46 = .ok (.putfield 21, 3) := by decide +kernel
theorem dX1_init_49 : decode cX1_init 49 = .ok (.return_, 1) := by decide +kernel
theorem dX1_read_0 : decode cX1_read 0 = .ok (.aload_n 0, 1) := by decide +kernel
theorem dX1_read_1 : decode cX1_read 1 = .ok (.iconst 0, 1) := by decide +kernel
theorem dX1_read_2 : decode cX1_read 2 = .ok (.putfield 21, 3) := by decide +kernel
theorem dX1_read_5 : decode cX1_read 5 = .ok (.aload_n 0, 1) := by decide +kernel
theorem dX1_read_6 : decode cX1_read 6 = .ok (.iconst 0, 1) := by decide +kernel
theorem dX1_read_7 : decode cX1_read 7 = .ok (.putfield 25, 3) := by decide +kernel
theorem dX1_read_10 : decode cX1_read 10 = .ok (.aload_n 1, 1) := by decide +kernel
theorem dX1_read_11 : decode cX1_read 11 = .ok (.invokevirtual 28, 3) := by decide +kernel
theorem dX1_read_14 : decode cX1_read 14 = .ok (.iconst 0, 1) := by decide +kernel
theorem dX1_read_15 : decode cX1_read 15 = .ok (.istore_n 2, 1) := by decide +kernel
theorem dX1_read_16 : decode cX1_read 16 = .ok (.iload_n 2, 1) := by decide +kernel
theorem dX1_read_17 : decode cX1_read 17 = .ok (.iconst 3, 1) := by decide +kernel
theorem dX1_read_18 : decode cX1_read 18 = .ok (.if_icmp .ge 61, 3) := by decide +kernel
theorem dX1_read_21 : decode cX1_read 21 = .ok (.aload_n 0, 1) := by decide +kernel
theorem dX1_read_22 : decode cX1_read 22 = .ok (.getfield 15, 3) := by decide +kernel
theorem dX1_read_25 : decode cX1_read 25 = .ok (.iload_n 2, 1) := by decide +kernel
theorem dX1_read_26 : decode cX1_read 26 = .ok (.aload_n 0, 1) := by decide +kernel
theorem dX1_read_27 : decode cX1_read 27 = .ok (.getfield 21, 3) := by decide +kernel
theorem dX1_read_30 : decode cX1_read 30 = .ok (.iastore, 1) := by decide +kernel
theorem dX1_read_31 : decode cX1_read 31 = .ok (.aload_n 1, 1) := by decide +kernel
theorem dX1_read_32 : decode cX1_read 32 = .ok (.ldc 33, 2) := by decide +kernel
theorem dX1_read_34 : decode cX1_read 34 = .ok (.invokevirtual 35, 3) := by decide +kernel
theorem dX1_read_37 : decode cX1_read 37 = .ok (.iload_n 2, 1) := by decide +kernel
theorem dX1_read_38 : decode cX1_read 38 = .ok (.if_icmp .eq 8, 3) := by decide +kernel
theorem dX1_read_41 : decode cX1_read 41 = .ok (.aload_n 1, 1) := by decide +kernel
theorem dX1_read_42 : decode cX1_read 42 = .ok (.getfield 39, 3) := by decide +kernel
theorem dX1_read_45 : decode cX1_read 45 = .ok (.ireturn, 1) := by decide +kernel
theorem dX1_read_46 : decode cX1_read 46 = .ok (.aload_n 1, 1) := by decide +kernel
theorem dX1_read_47 : decode cX1_read 47 = .ok (.invokevirtual 42, 3) := by decide +kernel
theorem dX1_read_50 : decode cX1_read 50 = .ok (.aload_n 0, 1) := by decide +kernel
theorem dX1_read_51 : decode cX1_read 51 = .ok (.aload_n 1, 1) := by decide +kernel
theorem dX1_read_52 : decode cX1_read 52 = .ok (.iconst 0, 1) := by decide +kernel
theorem dX1_read_53 : decode cX1_read 53 = .ok (.invokevirtual 45, 3) := by decide +kernel
theorem dX1_read_56 : decode cX1_read 56 = .ok (.ifCond .eq 12, 3) := by decide +kernel
theorem dX1_read_59 : decode cX1_read 59 = .ok (.aload_n 1, 1) := by decide +kernel
theorem dX1_read_60 : decode cX1_read 60 = .ok (.bipush 59, 2) := by decide +kernel
theorem dX1_read_62 : decode cX1_read 62 = .ok (.invokevirtual 49, 3) := by decide +kernel
theorem dX1_read_65 : decode cX1_read 65 = .ok (.ifCond .ne 8, 3) := by decide +kernel
theorem dX1_read_68 : decode cX1_read 68 = .ok (.aload_n 1, 1) := by decide +kernel
theorem dX1_read_69 : decode cX1_read 69 = .ok (.getfield 39, 3) := by decide +kernel
theorem dX1_read_72 : decode cX1_read 72 = .ok (.ireturn, 1) := by decide +kernel
theorem dX1_read_73 : decode cX1_read 73 = .ok (.iinc 2 1, 3) := by decide +kernel
theorem dX1_read_76 : decode cX1_read 76 = .ok (.goto (-60), 3) := by decide +kernel
theorem dX1_read_79 : decode cX1_read 79 = .ok (.aload_n 0, 1) := by decide +kernel
theorem dX1_read_80 : decode cX1_read 80 = .ok (.getfield 15, 3) := by decide +kernel
theorem dX1_read_83 : decode cX1_read 83 = .ok (.iconst 3, 1) := by decide +kernel
theorem dX1_read_84 : decode cX1_read 84 = .ok (.aload_n 0, 1) := by decide +kernel
theorem dX1_read_85 : decode cX1_read 85 = .ok (.getfield 21, 3) := by decide +kernel
theorem dX1_read_88 : decode cX1_read 88 = .ok (.iastore, 1) := by decide +kernel
theorem dX1_read_89 : decode cX1_read 89 = .ok (.aload_n 1, 1) := by decide +kernel
theorem dX1_read_90 : decode cX1_read 90 = .ok (.invokevirtual 53, 3) := by decide +kernel
theorem dX1_read_93 : decode cX1_read 93 = .ok (.ifCond .eq 7, 3) := by decide +kernel
theorem dX1_read_96 : decode cX1_read 96 = .ok (.iconst (-1), 1) := by decide +kernel
theorem dX1_read_97 : decode cX1_read 97 = .ok (.goto 7, 3) := by decide +kernel
theorem dX1_read_100 : decode cX1_read 100 = .ok (.aload_n 1, 1) := by decide +kernel
theorem dX1_read_101 : decode cX1_read 101 = .ok (.getfield 39, 3) := by decide +kernel
theorem dX1_read_104 : decode cX1_read 104 = .ok (.ireturn, 1) := by decide +kernel
theorem dX1_readChain_0 : decode cX1_readChain 0 = .ok (.iload_n 2, 1) := by decide +kernel
theorem dX1_readChain_1 : decode cX1_readChain 1 = .ok (.iconst 2, 1) := by decide +kernel
theorem dX1_readChain_2 : decode cX1_readChain 2 = .ok (.if_icmp .ne 9, 3) := by decide +kernel
theorem dX1_readChain_5 : decode cX1_readChain 5 = .ok (.aload_n 0, 1) := by decide +kernel
theorem dX1_readChain_6 : decode cX1_readChain 6 = .ok (.aload_n 1, 1) := by decide +kernel
theorem dX1_readChain_7 : decode cX1_readChain 7 = .ok (.invokevirtual 57, 3) := by decide +kernel
theorem dX1_readChain_10 : decode cX1_readChain 10 = .ok (.ireturn, 1) := by decide +kernel
theorem dX1_readChain_11 : decode cX1_readChain 11 = .ok (.iload_n 2, 1) := by decide +kernel
theorem dX1_readChain_12 : decode cX1_readChain 12 = .ok (.iconst 5, 1) := by decide +kernel
theorem dX1_readChain_13 : decode cX1_readChain 13 = .ok (.if_icmp .lt 9, 3) := by decide +kernel
theorem dX1_readChain_16 : decode cX1_readChain 16 = .ok (.aload_n 0, 1) := by decide +kernel
theorem dX1_readChain_17 : decode cX1_readChain 17 = .ok (.aload_n 1, 1) := by decide +kernel
theorem dX1_readChain_18 : decode cX1_readChain 18 = .ok (.invokevirtual 61, 3) := by decide +kernel
theorem dX1_readChain_21 : decode cX1_readChain 21 = .ok (.ireturn, 1) := by decide +kernel
theorem dX1_readChain_22 : decode cX1_readChain 22 = .ok (.aload_n 0, 1) := by decide +kernel
theorem dX1_readChain_23 : decode cX1_readChain 23 = .ok (.aload_n 1, 1) := by decide +kernel
theorem dX1_readChain_24 : decode cX1_readChain 24 = .ok (.iload_n 2, 1) := by decide +kernel
theorem dX1_readChain_25 : decode cX1_readChain 25 = .ok (.iconst 1, 1) := by decide +kernel
theorem dX1_readChain_26 : decode cX1_readChain 26 = .ok (.iadd, 1) := by decide +kernel
theorem dX1_readChain_27 : decode cX1_readChain 27 = .ok (.invokevirtual 45, 3) := by decide +kernel
theorem dX1_readChain_30 : decode cX1_readChain 30 = .ok (.istore_n 3, 1) := by decide +kernel
theorem dX1_readChain_31 : decode cX1_readChain 31 = .ok (.iload_n 3, 1) := by decide +kernel
theorem dX1_readChain_32 : decode cX1_readChain 32 = .ok (.ifCond .eq 11, 3) := by decide +kernel
theorem dX1_readChain_35 : decode cX1_readChain 35 = .ok (.aload_n 1, 1) := by decide +kernel
theorem dX1_readChain_36 : decode cX1_readChain 36 = .ok (.iload_n 2, 1) := by decide +kernel
theorem dX1_readChain_37 : decode cX1_readChain 37 = .ok (.invokestatic 64, 3) := by decide +kernel
theorem dX1_readChain_40 : decode cX1_readChain 40 = .ok (.goto 4, 3) := by decide +kernel
theorem dX1_readChain_43 : decode cX1_readChain 43 = .ok (.iconst (-1), 1) := by decide +kernel
theorem dX1_readChain_44 : decode cX1_readChain 44 = .ok (.istore 4, 2) := by decide +kernel
theorem dX1_readChain_46 : decode cX1_readChain 46 = .ok (.iconst 0, 1) := by decide +kernel
theorem dX1_readChain_47 : decode cX1_readChain 47 = .ok (.istore 5, 2) := by decide +kernel
theorem dX1_readChain_49 : decode cX1_readChain 49 = .ok (.iload 5, 2) := by decide +kernel
theorem dX1_readChain_51 : decode cX1_readChain 51 = .ok (.sipush 160, 3) := by decide +kernel
theorem dX1_readChain_54 : decode cX1_readChain 54 = .ok (.if_icmp .ge 60, 3) := by decide +kernel
theorem dX1_readChain_57 : decode cX1_readChain 57 = .ok (.iload 4, 2) := by decide +kernel
theorem dX1_readChain_59 : decode cX1_readChain 59 = .ok (.iconst (-1), 1) := by decide +kernel
theorem dX1_readChain_60 : decode cX1_readChain 60 = .ok (.if_icmp .eq 54, 3) := by decide +kernel
theorem dX1_readChain_63 : decode cX1_readChain 63 = .ok (.aload_n 1, 1) := by decide +kernel
theorem dX1_readChain_64 : decode cX1_readChain 64 = .ok (.invokevirtual 42, 3) := by decide +kernel
theorem dX1_readChain_67 : decode cX1_readChain 67 = .ok (.aload_n 0, 1) := by decide +kernel
theorem dX1_readChain_68 : decode cX1_readChain 68 = .ok (.aload_n 1, 1) := by decide +kernel
theorem dX1_readChain_69 : decode cX1_readChain 69 = .ok (.iload_n 2, 1) := by decide +kernel
theorem dX1_readChain_70 : decode cX1_readChain 70 = .ok (.iconst 1, 1) := by decide +kernel
theorem dX1_readChain_71 : decode cX1_readChain 71 = .ok (.iadd, 1) := by decide +kernel
theorem dX1_readChain_72 : decode cX1_readChain 72 = .ok (.invokevirtual 45, 3) := by decide +kernel
theorem dX1_readChain_75 : decode cX1_readChain 75 = .ok (.ifCond .eq 16, 3) := by decide +kernel
theorem dX1_readChain_78 : decode cX1_readChain 78 = .ok (.aload_n 0, 1) := by decide +kernel
theorem dX1_readChain_79 : decode cX1_readChain 79 = .ok (.iload 4, 2) := by decide +kernel
theorem dX1_readChain_81 : decode cX1_readChain 81 = .ok (.invokevirtual 68, 3) := by decide +kernel
theorem dX1_readChain_84 : decode cX1_readChain 84 = .ok (.ifCond .eq 7, 3) := by decide +kernel
theorem dX1_readChain_87 : decode cX1_readChain 87 = .ok (.iconst 1, 1) := by decide +kernel
theorem dX1_readChain_88 : decode cX1_readChain 88 = .ok (.goto 4, 3) := by decide +kernel
theorem dX1_readChain_91 : decode cX1_readChain 91 = .ok (.iconst 0, 1) := by decide +kernel
theorem dX1_readChain_92 : decode cX1_readChain 92 = .ok (.istore_n 3, 1) := by decide +kernel
theorem dX1_readChain_93 : decode cX1_readChain 93 = .ok (.iload_n 3, 1) := by decide +kernel
theorem dX1_readChain_94 : decode cX1_readChain 94 = .ok (.ifCond .eq 11, 3) := by decide +kernel
theorem dX1_readChain_97 : decode cX1_readChain 97 = .ok (.aload_n 1, 1) := by decide +kernel
theorem dX1_readChain_98 : decode cX1_readChain 98 = .ok (.iload_n 2, 1) := by decide +kernel
theorem dX1_readChain_99 : decode cX1_readChain 99 = .ok (.invokestatic 64, 3) := by decide +kernel
theorem dX1_readChain_102 : decode cX1_readChain 102 = .ok (.goto 4, 3) := by decide +kernel
theorem dX1_readChain_105 : decode cX1_readChain 105 = .ok (.iconst (-1), 1) := by decide +kernel
theorem dX1_readChain_106 : decode cX1_readChain 106 = .ok (.istore 4, 2) := by decide +kernel
theorem dX1_readChain_108 : decode cX1_readChain 108 = .ok (.iinc 5 1, 3) := by decide +kernel
theorem dX1_readChain_111 : decode cX1_readChain 111 = .ok (.goto (-62), 3) := by decide +kernel
theorem dX1_readChain_114 : decode cX1_readChain 114 = .ok (.iload_n 3, 1) := by decide +kernel
theorem dX1_readChain_115 : decode cX1_readChain 115 = .ok (.ireturn, 1) := by decide +kernel
theorem dX1_signOf_0 : decode cX1_signOf 0 = .ok (.iload_n 1, 1) := by decide +kernel
theorem dX1_signOf_1 : decode cX1_signOf 1 = .ok (.tableswitch 129 0 3 #[31, 48, 65, 97], 31) := by decide +kernel
theorem dX1_signOf_32 : decode cX1_signOf 32 = .ok (.aload_n 0, 1) := by decide +kernel
theorem dX1_signOf_33 : decode cX1_signOf 33 = .ok (.ldc 72, 2) := by decide +kernel
theorem dX1_signOf_35 : decode cX1_signOf 35 = .ok (.invokevirtual 35, 3) := by decide +kernel
theorem dX1_signOf_38 : decode cX1_signOf 38 = .ok (.ifCond .ne 9, 3) := by decide +kernel
theorem dX1_signOf_41 : decode cX1_signOf 41 = .ok (.sipush 20000, 3) := by decide +kernel
theorem dX1_signOf_44 : decode cX1_signOf 44 = .ok (.goto 4, 3) := by decide +kernel
theorem dX1_signOf_47 : decode cX1_signOf 47 = .ok (.iconst (-1), 1) := by decide +kernel
theorem dX1_signOf_48 : decode cX1_signOf 48 = .ok (.ireturn, 1) := by decide +kernel
theorem dX1_signOf_49 : decode cX1_signOf 49 = .ok (.aload_n 0, 1) := by decide +kernel
theorem dX1_signOf_50 : decode cX1_signOf 50 = .ok (.ldc 74, 2) := by decide +kernel
theorem dX1_signOf_52 : decode cX1_signOf 52 = .ok (.invokevirtual 35, 3) := by decide +kernel
theorem dX1_signOf_55 : decode cX1_signOf 55 = .ok (.ifCond .ne 9, 3) := by decide +kernel
theorem dX1_signOf_58 : decode cX1_signOf 58 = .ok (.sipush 20001, 3) := by decide +kernel
theorem dX1_signOf_61 : decode cX1_signOf 61 = .ok (.goto 4, 3) := by decide +kernel
theorem dX1_signOf_64 : decode cX1_signOf 64 = .ok (.iconst (-1), 1) := by decide +kernel
theorem dX1_signOf_65 : decode cX1_signOf 65 = .ok (.ireturn, 1) := by decide +kernel
theorem dX1_signOf_66 : decode cX1_signOf 66 = .ok (.aload_n 0, 1) := by decide +kernel
theorem dX1_signOf_67 : decode cX1_signOf 67 = .ok (.bipush 60, 2) := by decide +kernel
theorem dX1_signOf_69 : decode cX1_signOf 69 = .ok (.invokevirtual 76, 3) := by decide +kernel
theorem dX1_signOf_72 : decode cX1_signOf 72 = .ok (.ifCond .eq 9, 3) := by decide +kernel
theorem dX1_signOf_75 : decode cX1_signOf 75 = .ok (.sipush 20003, 3) := by decide +kernel
theorem dX1_signOf_78 : decode cX1_signOf 78 = .ok (.goto 19, 3) := by decide +kernel
theorem dX1_signOf_81 : decode cX1_signOf 81 = .ok (.aload_n 0, 1) := by decide +kernel
theorem dX1_signOf_82 : decode cX1_signOf 82 = .ok (.bipush 61, 2) := by decide +kernel
theorem dX1_signOf_84 : decode cX1_signOf 84 = .ok (.invokevirtual 76, 3) := by decide +kernel
theorem dX1_signOf_87 : decode cX1_signOf 87 = .ok (.ifCond .eq 9, 3) := by decide +kernel
theorem dX1_signOf_90 : decode cX1_signOf 90 = .ok (.sipush 20004, 3) := by decide +kernel
theorem dX1_signOf_93 : decode cX1_signOf 93 = .ok (.goto 4, 3) := by decide +kernel
theorem dX1_signOf_96 : decode cX1_signOf 96 = .ok (.iconst (-1), 1) := by decide +kernel
theorem dX1_signOf_97 : decode cX1_signOf 97 = .ok (.ireturn, 1) := by decide +kernel
theorem dX1_signOf_98 : decode cX1_signOf 98 = .ok (.aload_n 0, 1) := by decide +kernel
theorem dX1_signOf_99 : decode cX1_signOf 99 = .ok (.bipush 43, 2) := by decide +kernel
theorem dX1_signOf_101 : decode cX1_signOf 101 = .ok (.invokevirtual 76, 3) := by decide +kernel
theorem dX1_signOf_104 : decode cX1_signOf 104 = .ok (.ifCond .eq 9, 3) := by decide +kernel
theorem dX1_signOf_107 : decode cX1_signOf 107 = .ok (.sipush 20005, 3) := by decide +kernel
theorem dX1_signOf_110 : decode cX1_signOf 110 = .ok (.goto 19, 3) := by decide +kernel
theorem dX1_signOf_113 : decode cX1_signOf 113 = .ok (.aload_n 0, 1) := by decide +kernel
theorem dX1_signOf_114 : decode cX1_signOf 114 = .ok (.bipush 45, 2) := by decide +kernel
theorem dX1_signOf_116 : decode cX1_signOf 116 = .ok (.invokevirtual 76, 3) := by decide +kernel
theorem dX1_signOf_119 : decode cX1_signOf 119 = .ok (.ifCond .eq 9, 3) := by decide +kernel
theorem dX1_signOf_122 : decode cX1_signOf 122 = .ok (.sipush 20006, 3) := by decide +kernel
theorem dX1_signOf_125 : decode cX1_signOf 125 = .ok (.goto 4, 3) := by decide +kernel
theorem dX1_signOf_128 : decode cX1_signOf 128 = .ok (.iconst (-1), 1) := by decide +kernel
theorem dX1_signOf_129 : decode cX1_signOf 129 = .ok (.ireturn, 1) := by decide +kernel
theorem dX1_signOf_130 : decode cX1_signOf 130 = .ok (.aload_n 0, 1) := by decide +kernel
theorem dX1_signOf_131 : decode cX1_signOf 131 = .ok (.bipush 42, 2) := by decide +kernel
theorem dX1_signOf_133 : decode cX1_signOf 133 = .ok (.invokevirtual 76, 3) := by decide +kernel
theorem dX1_signOf_136 : decode cX1_signOf 136 = .ok (.ifCond .eq 9, 3) := by decide +kernel
theorem dX1_signOf_139 : decode cX1_signOf 139 = .ok (.sipush 20007, 3) := by decide +kernel
theorem dX1_signOf_142 : decode cX1_signOf 142 = .ok (.goto 4, 3) := by decide +kernel
theorem dX1_signOf_145 : decode cX1_signOf 145 = .ok (.iconst (-1), 1) := by decide +kernel
theorem dX1_signOf_146 : decode cX1_signOf 146 = .ok (.ireturn, 1) := by decide +kernel
theorem dX1_readCompared_0 : decode cX1_readCompared 0 = .ok (.aload_n 1, 1) := by decide +kernel
theorem dX1_readCompared_1 : decode cX1_readCompared 1 = .ok (.ldc 79, 2) := by decide +kernel
theorem dX1_readCompared_3 : decode cX1_readCompared 3 = .ok (.invokevirtual 35, 3) := by decide +kernel
theorem dX1_readCompared_6 : decode cX1_readCompared 6 = .ok (.ifCond .ne 42, 3) := by decide +kernel
theorem dX1_readCompared_9 : decode cX1_readCompared 9 = .ok (.aload_n 0, 1) := by decide +kernel
theorem dX1_readCompared_10 : decode cX1_readCompared 10 = .ok (.aload_n 1, 1) := by decide +kernel
theorem dX1_readCompared_11 : decode cX1_readCompared 11 = .ok (.invokevirtual 81, 3) := by decide +kernel
theorem dX1_readCompared_14 : decode cX1_readCompared 14 = .ok (.ifCond .eq 32, 3) := by decide +kernel
theorem dX1_readCompared_17 : decode cX1_readCompared 17 = .ok (.aload_n 0, 1) := by decide +kernel
theorem dX1_readCompared_18 : decode cX1_readCompared 18 = .ok (.aload_n 1, 1) := by decide +kernel
theorem dX1_readCompared_19 : decode cX1_readCompared 19 = .ok (.invokevirtual 57, 3) := by decide +kernel
theorem dX1_readCompared_22 : decode cX1_readCompared 22 = .ok (.ifCond .eq 24, 3) := by decide +kernel
theorem dX1_readCompared_25 : decode cX1_readCompared 25 = .ok (.aload_n 0, 1) := by decide +kernel
theorem dX1_readCompared_26 : decode cX1_readCompared 26 = .ok (.invokevirtual 84, 3) := by decide +kernel
theorem dX1_readCompared_29 : decode cX1_readCompared 29 = .ok (.ifCond .eq 17, 3) := by decide +kernel
theorem dX1_readCompared_32 : decode cX1_readCompared 32 = .ok (.aload_n 0, 1) := by decide +kernel
theorem dX1_readCompared_33 : decode cX1_readCompared 33 = .ok (.sipush 20002, 3) := by decide +kernel
theorem dX1_readCompared_36 : decode cX1_readCompared 36 = .ok (.invokevirtual 68, 3) := by decide +kernel
theorem dX1_readCompared_39 : decode cX1_readCompared 39 = .ok (.ifCond .eq 7, 3) := by decide +kernel
theorem dX1_readCompared_42 : decode cX1_readCompared 42 = .ok (.iconst 1, 1) := by decide +kernel
theorem dX1_readCompared_43 : decode cX1_readCompared 43 = .ok (.goto 4, 3) := by decide +kernel
theorem dX1_readCompared_46 : decode cX1_readCompared 46 = .ok (.iconst 0, 1) := by decide +kernel
theorem dX1_readCompared_47 : decode cX1_readCompared 47 = .ok (.ireturn, 1) := by decide +kernel
theorem dX1_readCompared_48 : decode cX1_readCompared 48 = .ok (.aload_n 0, 1) := by decide +kernel
theorem dX1_readCompared_49 : decode cX1_readCompared 49 = .ok (.aload_n 1, 1) := by decide +kernel
theorem dX1_readCompared_50 : decode cX1_readCompared 50 = .ok (.iconst 3, 1) := by decide +kernel
theorem dX1_readCompared_51 : decode cX1_readCompared 51 = .ok (.invokevirtual 45, 3) := by decide +kernel
theorem dX1_readCompared_54 : decode cX1_readCompared 54 = .ok (.ifCond .ne 5, 3) := by decide +kernel
theorem dX1_readCompared_57 : decode cX1_readCompared 57 = .ok (.iconst 0, 1) := by decide +kernel
theorem dX1_readCompared_58 : decode cX1_readCompared 58 = .ok (.ireturn, 1) := by decide +kernel
theorem dX1_readCompared_59 : decode cX1_readCompared 59 = .ok (.aload_n 1, 1) := by decide +kernel
theorem dX1_readCompared_60 : decode cX1_readCompared 60 = .ok (.iconst 2, 1) := by decide +kernel
theorem dX1_readCompared_61 : decode cX1_readCompared 61 = .ok (.invokestatic 64, 3) := by decide +kernel
theorem dX1_readCompared_64 : decode cX1_readCompared 64 = .ok (.istore_n 2, 1) := by decide +kernel
theorem dX1_readCompared_65 : decode cX1_readCompared 65 = .ok (.iload_n 2, 1) := by decide +kernel
theorem dX1_readCompared_66 : decode cX1_readCompared 66 = .ok (.iconst (-1), 1) := by decide +kernel
theorem dX1_readCompared_67 : decode cX1_readCompared 67 = .ok (.if_icmp .ne 5, 3) := by decide +kernel
theorem dX1_readCompared_70 : decode cX1_readCompared 70 = .ok (.iconst 1, 1) := by decide +kernel
theorem dX1_readCompared_71 : decode cX1_readCompared 71 = .ok (.ireturn, 1) := by decide +kernel
theorem dX1_readCompared_72 : decode cX1_readCompared 72 = .ok (.aload_n 1, 1) := by decide +kernel
theorem dX1_readCompared_73 : decode cX1_readCompared 73 = .ok (.invokevirtual 42, 3) := by decide +kernel
theorem dX1_readCompared_76 : decode cX1_readCompared 76 = .ok (.aload_n 0, 1) := by decide +kernel
theorem dX1_readCompared_77 : decode cX1_readCompared 77 = .ok (.aload_n 1, 1) := by decide +kernel
theorem dX1_readCompared_78 : decode cX1_readCompared 78 = .ok (.iconst 3, 1) := by decide +kernel
theorem dX1_readCompared_79 : decode cX1_readCompared 79 = .ok (.invokevirtual 45, 3) := by decide +kernel
theorem dX1_readCompared_82 : decode cX1_readCompared 82 = .ok (.ifCond .eq 15, 3) := by decide +kernel
theorem dX1_readCompared_85 : decode cX1_readCompared 85 = .ok (.aload_n 0, 1) := by decide +kernel
theorem dX1_readCompared_86 : decode cX1_readCompared 86 = .ok (.iload_n 2, 1) := by decide +kernel
theorem dX1_readCompared_87 : decode cX1_readCompared 87 = .ok (.invokevirtual 68, 3) := by decide +kernel
theorem dX1_readCompared_90 : decode cX1_readCompared 90 = .ok (.ifCond .eq 7, 3) := by decide +kernel
theorem dX1_readCompared_93 : decode cX1_readCompared 93 = .ok (.iconst 1, 1) := by decide +kernel
theorem dX1_readCompared_94 : decode cX1_readCompared 94 = .ok (.goto 4, 3) := by decide +kernel
theorem dX1_readCompared_97 : decode cX1_readCompared 97 = .ok (.iconst 0, 1) := by decide +kernel
theorem dX1_readCompared_98 : decode cX1_readCompared 98 = .ok (.ireturn, 1) := by decide +kernel
theorem dX1_readOne_0 : decode cX1_readOne 0 = .ok (.aload_n 1, 1) := by decide +kernel
theorem dX1_readOne_1 : decode cX1_readOne 1 = .ok (.bipush 45, 2) := by decide +kernel
theorem dX1_readOne_3 : decode cX1_readOne 3 = .ok (.invokevirtual 76, 3) := by decide +kernel
theorem dX1_readOne_6 : decode cX1_readOne 6 = .ok (.ifCond .eq 42, 3) := by decide +kernel
theorem dX1_readOne_9 : decode cX1_readOne 9 = .ok (.aload_n 0, 1) := by decide +kernel
theorem dX1_readOne_10 : decode cX1_readOne 10 = .ok (.aload_n 1, 1) := by decide +kernel
theorem dX1_readOne_11 : decode cX1_readOne 11 = .ok (.invokevirtual 81, 3) := by decide +kernel
theorem dX1_readOne_14 : decode cX1_readOne 14 = .ok (.ifCond .eq 32, 3) := by decide +kernel
theorem dX1_readOne_17 : decode cX1_readOne 17 = .ok (.aload_n 0, 1) := by decide +kernel
theorem dX1_readOne_18 : decode cX1_readOne 18 = .ok (.aload_n 1, 1) := by decide +kernel
theorem dX1_readOne_19 : decode cX1_readOne 19 = .ok (.invokevirtual 61, 3) := by decide +kernel
theorem dX1_readOne_22 : decode cX1_readOne 22 = .ok (.ifCond .eq 24, 3) := by decide +kernel
theorem dX1_readOne_25 : decode cX1_readOne 25 = .ok (.aload_n 0, 1) := by decide +kernel
theorem dX1_readOne_26 : decode cX1_readOne 26 = .ok (.invokevirtual 84, 3) := by decide +kernel
theorem dX1_readOne_29 : decode cX1_readOne 29 = .ok (.ifCond .eq 17, 3) := by decide +kernel
theorem dX1_readOne_32 : decode cX1_readOne 32 = .ok (.aload_n 0, 1) := by decide +kernel
theorem dX1_readOne_33 : decode cX1_readOne 33 = .ok (.sipush 20008, 3) := by decide +kernel
theorem dX1_readOne_36 : decode cX1_readOne 36 = .ok (.invokevirtual 68, 3) := by decide +kernel
theorem dX1_readOne_39 : decode cX1_readOne 39 = .ok (.ifCond .eq 7, 3) := by decide +kernel
theorem dX1_readOne_42 : decode cX1_readOne 42 = .ok (.iconst 1, 1) := by decide +kernel
theorem dX1_readOne_43 : decode cX1_readOne 43 = .ok (.goto 4, 3) := by decide +kernel
theorem dX1_readOne_46 : decode cX1_readOne 46 = .ok (.iconst 0, 1) := by decide +kernel
theorem dX1_readOne_47 : decode cX1_readOne 47 = .ok (.ireturn, 1) := by decide +kernel
theorem dX1_readOne_48 : decode cX1_readOne 48 = .ok (.aload_n 1, 1) := by decide +kernel
theorem dX1_readOne_49 : decode cX1_readOne 49 = .ok (.bipush 40, 2) := by decide +kernel
theorem dX1_readOne_51 : decode cX1_readOne 51 = .ok (.invokevirtual 76, 3) := by decide +kernel
theorem dX1_readOne_54 : decode cX1_readOne 54 = .ok (.ifCond .eq 42, 3) := by decide +kernel
theorem dX1_readOne_57 : decode cX1_readOne 57 = .ok (.aload_n 0, 1) := by decide +kernel
theorem dX1_readOne_58 : decode cX1_readOne 58 = .ok (.aload_n 1, 1) := by decide +kernel
theorem dX1_readOne_59 : decode cX1_readOne 59 = .ok (.invokevirtual 81, 3) := by decide +kernel
theorem dX1_readOne_62 : decode cX1_readOne 62 = .ok (.ifCond .eq 32, 3) := by decide +kernel
theorem dX1_readOne_65 : decode cX1_readOne 65 = .ok (.aload_n 0, 1) := by decide +kernel
theorem dX1_readOne_66 : decode cX1_readOne 66 = .ok (.aload_n 1, 1) := by decide +kernel
theorem dX1_readOne_67 : decode cX1_readOne 67 = .ok (.iconst 0, 1) := by decide +kernel
theorem dX1_readOne_68 : decode cX1_readOne 68 = .ok (.invokevirtual 45, 3) := by decide +kernel
theorem dX1_readOne_71 : decode cX1_readOne 71 = .ok (.ifCond .eq 23, 3) := by decide +kernel
theorem dX1_readOne_74 : decode cX1_readOne 74 = .ok (.aload_n 1, 1) := by decide +kernel
theorem dX1_readOne_75 : decode cX1_readOne 75 = .ok (.bipush 41, 2) := by decide +kernel
theorem dX1_readOne_77 : decode cX1_readOne 77 = .ok (.invokevirtual 49, 3) := by decide +kernel
theorem dX1_readOne_80 : decode cX1_readOne 80 = .ok (.ifCond .eq 14, 3) := by decide +kernel
theorem dX1_readOne_83 : decode cX1_readOne 83 = .ok (.aload_n 0, 1) := by decide +kernel
theorem dX1_readOne_84 : decode cX1_readOne 84 = .ok (.invokevirtual 84, 3) := by decide +kernel
theorem dX1_readOne_87 : decode cX1_readOne 87 = .ok (.ifCond .eq 7, 3) := by decide +kernel
theorem dX1_readOne_90 : decode cX1_readOne 90 = .ok (.iconst 1, 1) := by decide +kernel
theorem dX1_readOne_91 : decode cX1_readOne 91 = .ok (.goto 4, 3) := by decide +kernel
theorem dX1_readOne_94 : decode cX1_readOne 94 = .ok (.iconst 0, 1) := by decide +kernel
theorem dX1_readOne_95 : decode cX1_readOne 95 = .ok (.ireturn, 1) := by decide +kernel
theorem dX1_readOne_96 : decode cX1_readOne 96 = .ok (.aload_n 1, 1) := by decide +kernel
theorem dX1_readOne_97 : decode cX1_readOne 97 = .ok (.ldc 87, 2) := by decide +kernel
theorem dX1_readOne_99 : decode cX1_readOne 99 = .ok (.invokevirtual 35, 3) := by decide +kernel
theorem dX1_readOne_102 : decode cX1_readOne 102 = .ok (.istore_n 2, 1) := by decide +kernel
theorem dX1_readOne_103 : decode cX1_readOne 103 = .ok (.iload_n 2, 1) := by decide +kernel
theorem dX1_readOne_104 : decode cX1_readOne 104 = .ok (.iconst (-1), 1) := by decide +kernel
theorem dX1_readOne_105 : decode cX1_readOne 105 = .ok (.if_icmp .ne 12, 3) := by decide +kernel
theorem dX1_readOne_108 : decode cX1_readOne 108 = .ok (.aload_n 1, 1) := by decide +kernel
theorem dX1_readOne_109 : decode cX1_readOne 109 = .ok (.invokevirtual 89, 3) := by decide +kernel
theorem dX1_readOne_112 : decode cX1_readOne 112 = .ok (.ifCond .ne 5, 3) := by decide +kernel
theorem dX1_readOne_115 : decode cX1_readOne 115 = .ok (.iconst 0, 1) := by decide +kernel
theorem dX1_readOne_116 : decode cX1_readOne 116 = .ok (.ireturn, 1) := by decide +kernel
theorem dX1_readOne_117 : decode cX1_readOne 117 = .ok (.aload_n 0, 1) := by decide +kernel
theorem dX1_readOne_118 : decode cX1_readOne 118 = .ok (.iload_n 2, 1) := by decide +kernel
theorem dX1_readOne_119 : decode cX1_readOne 119 = .ok (.iconst (-1), 1) := by decide +kernel
theorem dX1_readOne_120 : decode cX1_readOne 120 = .ok (.if_icmp .ne 10, 3) := by decide +kernel
theorem dX1_readOne_123 : decode cX1_readOne 123 = .ok (.aload_n 1, 1) := by decide +kernel
theorem dX1_readOne_124 : decode cX1_readOne 124 = .ok (.getfield 92, 3) := by decide +kernel
theorem dX1_readOne_127 : decode cX1_readOne 127 = .ok (.goto 8, 3) := by decide +kernel
theorem dX1_readOne_130 : decode cX1_readOne 130 = .ok (.sipush 10000, 3) := by decide +kernel
theorem dX1_readOne_133 : decode cX1_readOne 133 = .ok (.iload_n 2, 1) := by decide +kernel
theorem dX1_readOne_134 : decode cX1_readOne 134 = .ok (.iadd, 1) := by decide +kernel
theorem dX1_readOne_135 : decode cX1_readOne 135 = .ok (.invokevirtual 68, 3) := by decide +kernel
theorem dX1_readOne_138 : decode cX1_readOne 138 = .ok (.istore_n 3, 1) := by decide +kernel
theorem dX1_readOne_139 : decode cX1_readOne 139 = .ok (.aload_n 1, 1) := by decide +kernel
theorem dX1_readOne_140 : decode cX1_readOne 140 = .ok (.invokevirtual 42, 3) := by decide +kernel
theorem dX1_readOne_143 : decode cX1_readOne 143 = .ok (.iload_n 3, 1) := by decide +kernel
theorem dX1_readOne_144 : decode cX1_readOne 144 = .ok (.ireturn, 1) := by decide +kernel
theorem dX1_opens_0 : decode cX1_opens 0 = .ok (.aload_n 0, 1) := by decide +kernel
theorem dX1_opens_1 : decode cX1_opens 1 = .ok (.getfield 25, 3) := by decide +kernel
theorem dX1_opens_4 : decode cX1_opens 4 = .ok (.iconst 5, 1) := by decide +kernel
theorem dX1_opens_5 : decode cX1_opens 5 = .ok (.if_icmp .lt 5, 3) := by decide +kernel
theorem dX1_opens_8 : decode cX1_opens 8 = .ok (.iconst 0, 1) := by decide +kernel
theorem dX1_opens_9 : decode cX1_opens 9 = .ok (.ireturn, 1) := by decide +kernel
theorem dX1_opens_10 : decode cX1_opens 10 = .ok (.aload_n 0, 1) := by decide +kernel
theorem dX1_opens_11 : decode cX1_opens 11 = .ok (.dup, 1) := by decide +kernel
theorem dX1_opens_12 : decode cX1_opens 12 = .ok (.getfield 25, 3) := by decide +kernel
theorem dX1_opens_15 : decode cX1_opens 15 = .ok (.iconst 1, 1) := by decide +kernel
theorem dX1_opens_16 : decode cX1_opens 16 = .ok (.iadd, 1) := by decide +kernel
theorem dX1_opens_17 : decode cX1_opens 17 = .ok (.putfield 25, 3) := by decide +kernel
theorem dX1_opens_20 : decode cX1_opens 20 = .ok (.aload_n 1, 1) := by decide +kernel
theorem dX1_opens_21 : decode cX1_opens 21 = .ok (.invokevirtual 42, 3) := by decide +kernel
theorem dX1_opens_24 : decode cX1_opens 24 = .ok (.iconst 1, 1) := by decide +kernel
theorem dX1_opens_25 : decode cX1_opens 25 = .ok (.ireturn, 1) := by decide +kernel
theorem dX1_closes_0 : decode cX1_closes 0 = .ok (.aload_n 0, 1) := by decide +kernel
theorem dX1_closes_1 : decode cX1_closes 1 = .ok (.dup, 1) := by decide +kernel
theorem dX1_closes_2 : decode cX1_closes 2 = .ok (.getfield 25, 3) := by decide +kernel
theorem dX1_closes_5 : decode cX1_closes 5 = .ok (.iconst 1, 1) := by decide +kernel
theorem dX1_closes_6 : decode cX1_closes 6 = .ok (.isub, 1) := by decide +kernel
theorem dX1_closes_7 : decode cX1_closes 7 = .ok (.putfield 25, 3) := by decide +kernel
theorem dX1_closes_10 : decode cX1_closes 10 = .ok (.iconst 1, 1) := by decide +kernel
theorem dX1_closes_11 : decode cX1_closes 11 = .ok (.ireturn, 1) := by decide +kernel
theorem dX1_write_0 : decode cX1_write 0 = .ok (.aload_n 0, 1) := by decide +kernel
theorem dX1_write_1 : decode cX1_write 1 = .ok (.getfield 21, 3) := by decide +kernel
theorem dX1_write_4 : decode cX1_write 4 = .ok (.aload_n 0, 1) := by decide +kernel
theorem dX1_write_5 : decode cX1_write 5 = .ok (.getfield 9, 3) := by decide +kernel
theorem dX1_write_8 : decode cX1_write 8 = .ok (.arraylength, 1) := by decide +kernel
theorem dX1_write_9 : decode cX1_write 9 = .ok (.if_icmp .lt 5, 3) := by decide +kernel
theorem dX1_write_12 : decode cX1_write 12 = .ok (.iconst 0, 1) := by decide +kernel
theorem dX1_write_13 : decode cX1_write 13 = .ok (.ireturn, 1) := by decide +kernel
theorem dX1_write_14 : decode cX1_write 14 = .ok (.aload_n 0, 1) := by decide +kernel
theorem dX1_write_15 : decode cX1_write 15 = .ok (.getfield 9, 3) := by decide +kernel
theorem dX1_write_18 : decode cX1_write 18 = .ok (.aload_n 0, 1) := by decide +kernel
theorem dX1_write_19 : decode cX1_write 19 = .ok (.getfield 21, 3) := by decide +kernel
theorem dX1_write_22 : decode cX1_write 22 = .ok (.iload_n 1, 1) := by decide +kernel
theorem dX1_write_23 : decode cX1_write 23 = .ok (.iastore, 1) := by decide +kernel
theorem dX1_write_24 : decode cX1_write 24 = .ok (.aload_n 0, 1) := by decide +kernel
theorem dX1_write_25 : decode cX1_write 25 = .ok (.dup, 1) := by decide +kernel
theorem dX1_write_26 : decode cX1_write 26 = .ok (.getfield 21, 3) := by decide +kernel
theorem dX1_write_29 : decode cX1_write 29 = .ok (.iconst 1, 1) := by decide +kernel
theorem dX1_write_30 : decode cX1_write 30 = .ok (.iadd, 1) := by decide +kernel
theorem dX1_write_31 : decode cX1_write 31 = .ok (.putfield 21, 3) := by decide +kernel
theorem dX1_write_34 : decode cX1_write 34 = .ok (.iconst 1, 1) := by decide +kernel
theorem dX1_write_35 : decode cX1_write 35 = .ok (.ireturn, 1) := by decide +kernel
theorem dX1_value_0 : decode cX1_value 0 = .ok (.iconst 0, 1) := by decide +kernel
theorem dX1_value_1 : decode cX1_value 1 = .ok (.istore 4, 2) := by decide +kernel
theorem dX1_value_3 : decode cX1_value 3 = .ok (.aload_n 0, 1) := by decide +kernel
theorem dX1_value_4 : decode cX1_value 4 = .ok (.getfield 15, 3) := by decide +kernel
theorem dX1_value_7 : decode cX1_value 7 = .ok (.iload_n 1, 1) := by decide +kernel
theorem dX1_value_8 : decode cX1_value 8 = .ok (.iaload, 1) := by decide +kernel
theorem dX1_value_9 : decode cX1_value 9 = .ok (.istore 5, 2) := by decide +kernel
theorem dX1_value_11 : decode cX1_value 11 = .ok (.iload 5, 2) := by decide +kernel
theorem dX1_value_13 : decode cX1_value 13 = .ok (.aload_n 0, 1) := by decide +kernel
theorem dX1_value_14 : decode cX1_value 14 = .ok (.getfield 15, 3) := by decide +kernel
theorem dX1_value_17 : decode cX1_value 17 = .ok (.iload_n 1, 1) := by decide +kernel
theorem dX1_value_18 : decode cX1_value 18 = .ok (.iconst 1, 1) := by decide +kernel
theorem dX1_value_19 : decode cX1_value 19 = .ok (.iadd, 1) := by decide +kernel
theorem dX1_value_20 : decode cX1_value 20 = .ok (.iaload, 1) := by decide +kernel
theorem dX1_value_21 : decode cX1_value 21 = .ok (.if_icmp .ge 203, 3) := by decide +kernel
theorem dX1_value_24 : decode cX1_value 24 = .ok (.iload 5, 2) := by decide +kernel
theorem dX1_value_26 : decode cX1_value 26 = .ok (.aload_n 0, 1) := by decide +kernel
theorem dX1_value_27 : decode cX1_value 27 = .ok (.getfield 9, 3) := by decide +kernel
theorem dX1_value_30 : decode cX1_value 30 = .ok (.arraylength, 1) := by decide +kernel
theorem dX1_value_31 : decode cX1_value 31 = .ok (.if_icmp .ge 193, 3) := by decide +kernel
theorem dX1_value_34 : decode cX1_value 34 = .ok (.aload_n 0, 1) := by decide +kernel
theorem dX1_value_35 : decode cX1_value 35 = .ok (.getfield 9, 3) := by decide +kernel
theorem dX1_value_38 : decode cX1_value 38 = .ok (.iload 5, 2) := by decide +kernel
theorem dX1_value_40 : decode cX1_value 40 = .ok (.iaload, 1) := by decide +kernel
theorem dX1_value_41 : decode cX1_value 41 = .ok (.istore 6, 2) := by decide +kernel
theorem dX1_value_43 : decode cX1_value 43 = .ok (.iload 6, 2) := by decide +kernel
theorem dX1_value_45 : decode cX1_value 45 = .ok (.sipush 20002, 3) := by decide +kernel
theorem dX1_value_48 : decode cX1_value 48 = .ok (.if_icmp .eq 11, 3) := by decide +kernel
theorem dX1_value_51 : decode cX1_value 51 = .ok (.iload 6, 2) := by decide +kernel
theorem dX1_value_53 : decode cX1_value 53 = .ok (.sipush 20008, 3) := by decide +kernel
theorem dX1_value_56 : decode cX1_value 56 = .ok (.if_icmp .ne 64, 3) := by decide +kernel
theorem dX1_value_59 : decode cX1_value 59 = .ok (.iload 4, 2) := by decide +kernel
theorem dX1_value_61 : decode cX1_value 61 = .ok (.iconst 1, 1) := by decide +kernel
theorem dX1_value_62 : decode cX1_value 62 = .ok (.if_icmp .ge 5, 3) := by decide +kernel
theorem dX1_value_65 : decode cX1_value 65 = .ok (.iconst 0, 1) := by decide +kernel
theorem dX1_value_66 : decode cX1_value 66 = .ok (.ireturn, 1) := by decide +kernel
theorem dX1_value_67 : decode cX1_value 67 = .ok (.aload_n 0, 1) := by decide +kernel
theorem dX1_value_68 : decode cX1_value 68 = .ok (.getfield 18, 3) := by decide +kernel
theorem dX1_value_71 : decode cX1_value 71 = .ok (.iload 4, 2) := by decide +kernel
theorem dX1_value_73 : decode cX1_value 73 = .ok (.iconst 1, 1) := by decide +kernel
theorem dX1_value_74 : decode cX1_value 74 = .ok (.isub, 1) := by decide +kernel
theorem dX1_value_75 : decode cX1_value 75 = .ok (.iload 6, 2) := by decide +kernel
theorem dX1_value_77 : decode cX1_value 77 = .ok (.sipush 20008, 3) := by decide +kernel
theorem dX1_value_80 : decode cX1_value 80 = .ok (.if_icmp .ne 16, 3) := by decide +kernel
theorem dX1_value_83 : decode cX1_value 83 = .ok (.aload_n 0, 1) := by decide +kernel
theorem dX1_value_84 : decode cX1_value 84 = .ok (.getfield 18, 3) := by decide +kernel
theorem dX1_value_87 : decode cX1_value 87 = .ok (.iload 4, 2) := by decide +kernel
theorem dX1_value_89 : decode cX1_value 89 = .ok (.iconst 1, 1) := by decide +kernel
theorem dX1_value_90 : decode cX1_value 90 = .ok (.isub, 1) := by decide +kernel
theorem dX1_value_91 : decode cX1_value 91 = .ok (.iaload, 1) := by decide +kernel
theorem dX1_value_92 : decode cX1_value 92 = .ok (.ineg, 1) := by decide +kernel
theorem dX1_value_93 : decode cX1_value 93 = .ok (.goto 23, 3) := by decide +kernel
theorem dX1_value_96 : decode cX1_value 96 = .ok (.aload_n 0, 1) := by decide +kernel
theorem dX1_value_97 : decode cX1_value 97 = .ok (.getfield 18, 3) := by decide +kernel
theorem dX1_value_100 : decode cX1_value 100 = .ok (.iload 4, 2) := by decide +kernel
theorem dX1_value_102 : decode cX1_value 102 = .ok (.iconst 1, 1) := by decide +kernel
theorem dX1_value_103 : decode cX1_value 103 = .ok (.isub, 1) := by decide +kernel
theorem dX1_value_104 : decode cX1_value 104 = .ok (.iaload, 1) := by decide +kernel
theorem dX1_value_105 : decode cX1_value 105 = .ok (.ifCond .ne 7, 3) := by decide +kernel
theorem dX1_value_108 : decode cX1_value 108 = .ok (.iconst 1, 1) := by decide +kernel
theorem dX1_value_109 : decode cX1_value 109 = .ok (.goto 4, 3) := by decide +kernel
theorem dX1_value_112 : decode cX1_value 112 = .ok (.iconst 0, 1) := by decide +kernel
theorem dX1_value_113 : decode cX1_value 113 = .ok (.invokestatic 95, 3) := by decide +kernel
theorem dX1_value_116 : decode cX1_value 116 = .ok (.iastore, 1) := by decide +kernel
theorem dX1_value_117 : decode cX1_value 117 = .ok (.goto 101, 3) := by decide +kernel
theorem dX1_value_120 : decode cX1_value 120 = .ok (.iload 6, 2) := by decide +kernel
theorem dX1_value_122 : decode cX1_value 122 = .ok (.sipush 20000, 3) := by decide +kernel
theorem dX1_value_125 : decode cX1_value 125 = .ok (.if_icmp .lt 47, 3) := by decide +kernel
theorem dX1_value_128 : decode cX1_value 128 = .ok (.iload 4, 2) := by decide +kernel
theorem dX1_value_130 : decode cX1_value 130 = .ok (.iconst 2, 1) := by decide +kernel
theorem dX1_value_131 : decode cX1_value 131 = .ok (.if_icmp .ge 5, 3) := by decide +kernel
theorem dX1_value_134 : decode cX1_value 134 = .ok (.iconst 0, 1) := by decide +kernel
theorem dX1_value_135 : decode cX1_value 135 = .ok (.ireturn, 1) := by decide +kernel
theorem dX1_value_136 : decode cX1_value 136 = .ok (.iinc 4 (-1), 3) := by decide +kernel
theorem dX1_value_139 : decode cX1_value 139 = .ok (.aload_n 0, 1) := by decide +kernel
theorem dX1_value_140 : decode cX1_value 140 = .ok (.getfield 18, 3) := by decide +kernel
theorem dX1_value_143 : decode cX1_value 143 = .ok (.iload 4, 2) := by decide +kernel
theorem dX1_value_145 : decode cX1_value 145 = .ok (.iconst 1, 1) := by decide +kernel
theorem dX1_value_146 : decode cX1_value 146 = .ok (.isub, 1) := by decide +kernel
theorem dX1_value_147 : decode cX1_value 147 = .ok (.iload 6, 2) := by decide +kernel
theorem dX1_value_149 : decode cX1_value 149 = .ok (.aload_n 0, 1) := by decide +kernel
theorem dX1_value_150 : decode cX1_value 150 = .ok (.getfield 18, 3) := by decide +kernel
theorem dX1_value_153 : decode cX1_value 153 = .ok (.iload 4, 2) := by decide +kernel
theorem dX1_value_155 : decode cX1_value 155 = .ok (.iconst 1, 1) := by decide +kernel
theorem dX1_value_156 : decode cX1_value 156 = .ok (.isub, 1) := by decide +kernel
theorem dX1_value_157 : decode cX1_value 157 = .ok (.iaload, 1) := by decide +kernel
theorem dX1_value_158 : decode cX1_value 158 = .ok (.aload_n 0, 1) := by decide +kernel
theorem dX1_value_159 : decode cX1_value 159 = .ok (.getfield 18, 3) := by decide +kernel
theorem dX1_value_162 : decode cX1_value 162 = .ok (.iload 4, 2) := by decide +kernel
theorem dX1_value_164 : decode cX1_value 164 = .ok (.iaload, 1) := by decide +kernel
theorem dX1_value_165 : decode cX1_value 165 = .ok (.invokestatic 99, 3) := by decide +kernel
theorem dX1_value_168 : decode cX1_value 168 = .ok (.iastore, 1) := by decide +kernel
theorem dX1_value_169 : decode cX1_value 169 = .ok (.goto 49, 3) := by decide +kernel
theorem dX1_value_172 : decode cX1_value 172 = .ok (.iload 4, 2) := by decide +kernel
theorem dX1_value_174 : decode cX1_value 174 = .ok (.aload_n 0, 1) := by decide +kernel
theorem dX1_value_175 : decode cX1_value 175 = .ok (.getfield 18, 3) := by decide +kernel
theorem dX1_value_178 : decode cX1_value 178 = .ok (.arraylength, 1) := by decide +kernel
theorem dX1_value_179 : decode cX1_value 179 = .ok (.if_icmp .lt 5, 3) := by decide +kernel
theorem dX1_value_182 : decode cX1_value 182 = .ok (.iconst 0, 1) := by decide +kernel
theorem dX1_value_183 : decode cX1_value 183 = .ok (.ireturn, 1) := by decide +kernel
theorem dX1_value_184 : decode cX1_value 184 = .ok (.aload_n 0, 1) := by decide +kernel
theorem dX1_value_185 : decode cX1_value 185 = .ok (.getfield 18, 3) := by decide +kernel
theorem dX1_value_188 : decode cX1_value 188 = .ok (.iload 4, 2) := by decide +kernel
theorem dX1_value_190 : decode cX1_value 190 = .ok (.iload 6, 2) := by decide +kernel
theorem dX1_value_192 : decode cX1_value 192 = .ok (.sipush 10000, 3) := by decide +kernel
theorem dX1_value_195 : decode cX1_value 195 = .ok (.if_icmp .ge 8, 3) := by decide +kernel
theorem dX1_value_198 : decode cX1_value 198 = .ok (.iload 6, 2) := by decide +kernel
theorem dX1_value_200 : decode cX1_value 200 = .ok (.goto 14, 3) := by decide +kernel
theorem dX1_value_203 : decode cX1_value 203 = .ok (.iload 6, 2) := by decide +kernel
theorem dX1_value_205 : decode cX1_value 205 = .ok (.sipush 10000, 3) := by decide +kernel
theorem dX1_value_208 : decode cX1_value 208 = .ok (.isub, 1) := by decide +kernel
theorem dX1_value_209 : decode cX1_value 209 = .ok (.aload_n 2, 1) := by decide +kernel
theorem dX1_value_210 : decode cX1_value 210 = .ok (.iload_n 3, 1) := by decide +kernel
theorem dX1_value_211 : decode cX1_value 211 = .ok (.invokestatic 103, 3) := by decide +kernel
theorem dX1_value_214 : decode cX1_value 214 = .ok (.iastore, 1) := by decide +kernel
theorem dX1_value_215 : decode cX1_value 215 = .ok (.iinc 4 1, 3) := by decide +kernel
theorem dX1_value_218 : decode cX1_value 218 = .ok (.iinc 5 1, 3) := by decide +kernel
theorem dX1_value_221 : decode cX1_value 221 = .ok (.goto (-210), 3) := by decide +kernel
theorem dX1_value_224 : decode cX1_value 224 = .ok (.iload 4, 2) := by decide +kernel
theorem dX1_value_226 : decode cX1_value 226 = .ok (.ifCond .le 12, 3) := by decide +kernel
theorem dX1_value_229 : decode cX1_value 229 = .ok (.aload_n 0, 1) := by decide +kernel
theorem dX1_value_230 : decode cX1_value 230 = .ok (.getfield 18, 3) := by decide +kernel
theorem dX1_value_233 : decode cX1_value 233 = .ok (.iconst 0, 1) := by decide +kernel
theorem dX1_value_234 : decode cX1_value 234 = .ok (.iaload, 1) := by decide +kernel
theorem dX1_value_235 : decode cX1_value 235 = .ok (.goto 4, 3) := by decide +kernel
theorem dX1_value_238 : decode cX1_value 238 = .ok (.iconst 0, 1) := by decide +kernel
theorem dX1_value_239 : decode cX1_value 239 = .ok (.ireturn, 1) := by decide +kernel
theorem dX1_joined_0 : decode cX1_joined 0 = .ok (.iload_n 0, 1) := by decide +kernel
theorem dX1_joined_1 : decode cX1_joined 1 = .ok (.tableswitch 113 20000 20006 #[43, 60, 113, 77, 91, 105, 109], 43) := by decide +kernel
theorem dX1_joined_44 : decode cX1_joined 44 = .ok (.iload_n 1, 1) := by decide +kernel
theorem dX1_joined_45 : decode cX1_joined 45 = .ok (.ifCond .ne 7, 3) := by decide +kernel
theorem dX1_joined_48 : decode cX1_joined 48 = .ok (.iload_n 2, 1) := by decide +kernel
theorem dX1_joined_49 : decode cX1_joined 49 = .ok (.ifCond .eq 7, 3) := by decide +kernel
theorem dX1_joined_52 : decode cX1_joined 52 = .ok (.iconst 1, 1) := by decide +kernel
theorem dX1_joined_53 : decode cX1_joined 53 = .ok (.goto 4, 3) := by decide +kernel
theorem dX1_joined_56 : decode cX1_joined 56 = .ok (.iconst 0, 1) := by decide +kernel
theorem dX1_joined_57 : decode cX1_joined 57 = .ok (.invokestatic 95, 3) := by decide +kernel
theorem dX1_joined_60 : decode cX1_joined 60 = .ok (.ireturn, 1) := by decide +kernel
theorem dX1_joined_61 : decode cX1_joined 61 = .ok (.iload_n 1, 1) := by decide +kernel
theorem dX1_joined_62 : decode cX1_joined 62 = .ok (.ifCond .eq 11, 3) := by decide +kernel
theorem dX1_joined_65 : decode cX1_joined 65 = .ok (.iload_n 2, 1) := by decide +kernel
theorem dX1_joined_66 : decode cX1_joined 66 = .ok (.ifCond .eq 7, 3) := by decide +kernel
theorem dX1_joined_69 : decode cX1_joined 69 = .ok (.iconst 1, 1) := by decide +kernel
theorem dX1_joined_70 : decode cX1_joined 70 = .ok (.goto 4, 3) := by decide +kernel
theorem dX1_joined_73 : decode cX1_joined 73 = .ok (.iconst 0, 1) := by decide +kernel
theorem dX1_joined_74 : decode cX1_joined 74 = .ok (.invokestatic 95, 3) := by decide +kernel
theorem dX1_joined_77 : decode cX1_joined 77 = .ok (.ireturn, 1) := by decide +kernel
theorem dX1_joined_78 : decode cX1_joined 78 = .ok (.iload_n 1, 1) := by decide +kernel
theorem dX1_joined_79 : decode cX1_joined 79 = .ok (.iload_n 2, 1) := by decide +kernel
theorem dX1_joined_80 : decode cX1_joined 80 = .ok (.if_icmp .ge 7, 3) := by decide +kernel
theorem dX1_joined_83 : decode cX1_joined 83 = .ok (.iconst 1, 1) := by decide +kernel
theorem dX1_joined_84 : decode cX1_joined 84 = .ok (.goto 4, 3) := by decide +kernel
theorem dX1_joined_87 : decode cX1_joined 87 = .ok (.iconst 0, 1) := by decide +kernel
theorem dX1_joined_88 : decode cX1_joined 88 = .ok (.invokestatic 95, 3) := by decide +kernel
theorem dX1_joined_91 : decode cX1_joined 91 = .ok (.ireturn, 1) := by decide +kernel
theorem dX1_joined_92 : decode cX1_joined 92 = .ok (.iload_n 1, 1) := by decide +kernel
theorem dX1_joined_93 : decode cX1_joined 93 = .ok (.iload_n 2, 1) := by decide +kernel
theorem dX1_joined_94 : decode cX1_joined 94 = .ok (.if_icmp .ne 7, 3) := by decide +kernel
theorem dX1_joined_97 : decode cX1_joined 97 = .ok (.iconst 1, 1) := by decide +kernel
theorem dX1_joined_98 : decode cX1_joined 98 = .ok (.goto 4, 3) := by decide +kernel
theorem dX1_joined_101 : decode cX1_joined 101 = .ok (.iconst 0, 1) := by decide +kernel
theorem dX1_joined_102 : decode cX1_joined 102 = .ok (.invokestatic 95, 3) := by decide +kernel
theorem dX1_joined_105 : decode cX1_joined 105 = .ok (.ireturn, 1) := by decide +kernel
theorem dX1_joined_106 : decode cX1_joined 106 = .ok (.iload_n 1, 1) := by decide +kernel
theorem dX1_joined_107 : decode cX1_joined 107 = .ok (.iload_n 2, 1) := by decide +kernel
theorem dX1_joined_108 : decode cX1_joined 108 = .ok (.iadd, 1) := by decide +kernel
theorem dX1_joined_109 : decode cX1_joined 109 = .ok (.ireturn, 1) := by decide +kernel
theorem dX1_joined_110 : decode cX1_joined 110 = .ok (.iload_n 1, 1) := by decide +kernel
theorem dX1_joined_111 : decode cX1_joined 111 = .ok (.iload_n 2, 1) := by decide +kernel
theorem dX1_joined_112 : decode cX1_joined 112 = .ok (.isub, 1) := by decide +kernel
theorem dX1_joined_113 : decode cX1_joined 113 = .ok (.ireturn, 1) := by decide +kernel
theorem dX1_joined_114 : decode cX1_joined 114 = .ok (.iload_n 1, 1) := by decide +kernel
theorem dX1_joined_115 : decode cX1_joined 115 = .ok (.iload_n 2, 1) := by decide +kernel
theorem dX1_joined_116 : decode cX1_joined 116 = .ok (.imul, 1) := by decide +kernel
theorem dX1_joined_117 : decode cX1_joined 117 = .ok (.ireturn, 1) := by decide +kernel
theorem dX1_truth_0 : decode cX1_truth 0 = .ok (.iload_n 0, 1) := by decide +kernel
theorem dX1_truth_1 : decode cX1_truth 1 = .ok (.ifCond .eq 7, 3) := by decide +kernel
theorem dX1_truth_4 : decode cX1_truth 4 = .ok (.iconst 1, 1) := by decide +kernel
theorem dX1_truth_5 : decode cX1_truth 5 = .ok (.goto 4, 3) := by decide +kernel
theorem dX1_truth_8 : decode cX1_truth 8 = .ok (.iconst 0, 1) := by decide +kernel
theorem dX1_truth_9 : decode cX1_truth 9 = .ok (.ireturn, 1) := by decide +kernel
theorem dX1_named_0 : decode cX1_named 0 = .ok (.iload_n 0, 1) := by decide +kernel
theorem dX1_named_1 : decode cX1_named 1 = .ok (.tableswitch 60 0 4 #[35, 37, 42, 48, 54], 35) := by decide +kernel
theorem dX1_named_36 : decode cX1_named 36 = .ok (.iload_n 2, 1) := by decide +kernel
theorem dX1_named_37 : decode cX1_named 37 = .ok (.ireturn, 1) := by decide +kernel
theorem dX1_named_38 : decode cX1_named 38 = .ok (.aload_n 1, 1) := by decide +kernel
theorem dX1_named_39 : decode cX1_named 39 = .ok (.getfield 107, 3) := by decide +kernel
theorem dX1_named_42 : decode cX1_named 42 = .ok (.ireturn, 1) := by decide +kernel
theorem dX1_named_43 : decode cX1_named 43 = .ok (.aload_n 1, 1) := by decide +kernel
theorem dX1_named_44 : decode cX1_named 44 = .ok (.iload_n 2, 1) := by decide +kernel
theorem dX1_named_45 : decode cX1_named 45 = .ok (.invokevirtual 112, 3) := by decide +kernel
theorem dX1_named_48 : decode cX1_named 48 = .ok (.ireturn, 1) := by decide +kernel
theorem dX1_named_49 : decode cX1_named 49 = .ok (.aload_n 1, 1) := by decide +kernel
theorem dX1_named_50 : decode cX1_named 50 = .ok (.getfield 116, 3) := by decide +kernel
theorem dX1_named_53 : decode cX1_named 53 = .ok (.l2i, 1) := by decide +kernel
theorem dX1_named_54 : decode cX1_named 54 = .ok (.ireturn, 1) := by decide +kernel
theorem dX1_named_55 : decode cX1_named 55 = .ok (.aload_n 1, 1) := by decide +kernel
theorem dX1_named_56 : decode cX1_named 56 = .ok (.getfield 120, 3) := by decide +kernel
theorem dX1_named_59 : decode cX1_named 59 = .ok (.l2i, 1) := by decide +kernel
theorem dX1_named_60 : decode cX1_named 60 = .ok (.ireturn, 1) := by decide +kernel
theorem dX1_named_61 : decode cX1_named 61 = .ok (.aload_n 1, 1) := by decide +kernel
theorem dX1_named_62 : decode cX1_named 62 = .ok (.getfield 123, 3) := by decide +kernel
theorem dX1_named_65 : decode cX1_named 65 = .ok (.ireturn, 1) := by decide +kernel
theorem dX2_init_0 : decode cX2_init 0 = .ok (.aload_n 0, 1) := by decide +kernel
theorem dX2_init_1 : decode cX2_init 1 = .ok (.invokespecial 3, 3) := by decide +kernel
theorem dX2_init_4 : decode cX2_init 4 = .ok (.return_, 1) := by decide +kernel
theorem dX2_open_0 : decode cX2_open 0 = .ok (.aload_n 0, 1) := by decide +kernel
theorem dX2_open_1 : decode cX2_open 1 = .ok (.iload_n 1, 1) := by decide +kernel
theorem dX2_open_2 : decode cX2_open 2 = .ok (.putfield 9, 3) := by decide +kernel
theorem dX2_open_5 : decode cX2_open 5 = .ok (.aload_n 0, 1) := by decide +kernel
theorem dX2_open_6 : decode cX2_open 6 = .ok (.iload_n 2, 1) := by decide +kernel
theorem dX2_open_7 : decode cX2_open 7 = .ok (.i2l, 1) := by decide +kernel
theorem dX2_open_8 : decode cX2_open 8 = .ok (.putfield 15, 3) := by decide +kernel
theorem dX2_open_11 : decode cX2_open 11 = .ok (.aload_n 0, 1) := by decide +kernel
theorem dX2_open_12 : decode cX2_open 12 = .ok (.iload_n 3, 1) := by decide +kernel
theorem dX2_open_13 : decode cX2_open 13 = .ok (.putfield 19, 3) := by decide +kernel
theorem dX2_open_16 : decode cX2_open 16 = .ok (.aload_n 0, 1) := by decide +kernel
theorem dX2_open_17 : decode cX2_open 17 = .ok (.iload 4, 2) := by decide +kernel
theorem dX2_open_19 : decode cX2_open 19 = .ok (.putfield 22, 3) := by decide +kernel
theorem dX2_open_22 : decode cX2_open 22 = .ok (.return_, 1) := by decide +kernel
theorem dX2_copy_0 : decode cX2_copy 0 = .ok (.aload_n 0, 1) := by decide +kernel
theorem dX2_copy_1 : decode cX2_copy 1 = .ok (.aload_n 1, 1) := by decide +kernel
theorem dX2_copy_2 : decode cX2_copy 2 = .ok (.getfield 9, 3) := by decide +kernel
theorem dX2_copy_5 : decode cX2_copy 5 = .ok (.putfield 9, 3) := by decide +kernel
theorem dX2_copy_8 : decode cX2_copy 8 = .ok (.aload_n 0, 1) := by decide +kernel
theorem dX2_copy_9 : decode cX2_copy 9 = .ok (.aload_n 1, 1) := by decide +kernel
theorem dX2_copy_10 : decode cX2_copy 10 = .ok (.getfield 15, 3) := by decide +kernel
theorem dX2_copy_13 : decode cX2_copy 13 = .ok (.putfield 15, 3) := by decide +kernel
theorem dX2_copy_16 : decode cX2_copy 16 = .ok (.aload_n 0, 1) := by decide +kernel
theorem dX2_copy_17 : decode cX2_copy 17 = .ok (.aload_n 1, 1) := by decide +kernel
theorem dX2_copy_18 : decode cX2_copy 18 = .ok (.getfield 19, 3) := by decide +kernel
theorem dX2_copy_21 : decode cX2_copy 21 = .ok (.putfield 19, 3) := by decide +kernel
theorem dX2_copy_24 : decode cX2_copy 24 = .ok (.aload_n 0, 1) := by decide +kernel
theorem dX2_copy_25 : decode cX2_copy 25 = .ok (.aload_n 1, 1) := by decide +kernel
theorem dX2_copy_26 : decode cX2_copy 26 = .ok (.getfield 22, 3) := by decide +kernel
theorem dX2_copy_29 : decode cX2_copy 29 = .ok (.putfield 22, 3) := by decide +kernel
theorem dX2_copy_32 : decode cX2_copy 32 = .ok (.aload_n 0, 1) := by decide +kernel
theorem dX2_copy_33 : decode cX2_copy 33 = .ok (.aload_n 1, 1) := by decide +kernel
theorem dX2_copy_34 : decode cX2_copy 34 = .ok (.getfield 25, 3) := by decide +kernel
theorem dX2_copy_37 : decode cX2_copy 37 = .ok (.putfield 25, 3) := by decide +kernel
theorem dX2_copy_40 : decode cX2_copy 40 = .ok (.aload_n 0, 1) := by decide +kernel
theorem dX2_copy_41 : decode cX2_copy 41 = .ok (.aload_n 1, 1) := by decide +kernel
theorem dX2_copy_42 : decode cX2_copy 42 = .ok (.getfield 28, 3) := by decide +kernel
theorem dX2_copy_45 : decode cX2_copy 45 = .ok (.putfield 28, 3) := by decide +kernel
theorem dX2_copy_48 : decode cX2_copy 48 = .ok (.aload_n 0, 1) := by decide +kernel
theorem dX2_copy_49 : decode cX2_copy 49 = .ok (.aload_n 1, 1) := by decide +kernel
theorem dX2_copy_50 : decode cX2_copy 50 = .ok (.getfield 31, 3) := by decide +kernel
theorem dX2_copy_53 : decode cX2_copy 53 = .ok (.putfield 31, 3) := by decide +kernel
theorem dX2_copy_56 : decode cX2_copy 56 = .ok (.aload_n 0, 1) := by decide +kernel
theorem dX2_copy_57 : decode cX2_copy 57 = .ok (.aload_n 1, 1) := by decide +kernel
theorem dX2_copy_58 : decode cX2_copy 58 = .ok (.getfield 34, 3) := by decide +kernel
theorem dX2_copy_61 : decode cX2_copy 61 = .ok (.putfield 34, 3) := by decide +kernel
theorem dX2_copy_64 : decode cX2_copy 64 = .ok (.return_, 1) := by decide +kernel
theorem dX2_isKind_0 : decode cX2_isKind 0 = .ok (.aload_n 0, 1) := by decide +kernel
theorem dX2_isKind_1 : decode cX2_isKind 1 = .ok (.getfield 9, 3) := by decide +kernel
theorem dX2_isKind_4 : decode cX2_isKind 4 = .ok (.istore_n 2, 1) := by decide +kernel
theorem dX2_isKind_5 : decode cX2_isKind 5 = .ok (.iconst 0, 1) := by decide +kernel
theorem dX2_isKind_6 : decode cX2_isKind 6 = .ok (.istore_n 3, 1) := by decide +kernel
theorem dX2_isKind_7 : decode cX2_isKind 7 = .ok (.iload_n 3, 1) := by decide +kernel
theorem dX2_isKind_8 : decode cX2_isKind 8 = .ok (.bipush 6, 2) := by decide +kernel
theorem dX2_isKind_10 : decode cX2_isKind 10 = .ok (.if_icmp .ge 32, 3) := by decide +kernel
theorem dX2_isKind_13 : decode cX2_isKind 13 = .ok (.iload_n 2, 1) := by decide +kernel
theorem dX2_isKind_14 : decode cX2_isKind 14 = .ok (.ifCond .lt 28, 3) := by decide +kernel
theorem dX2_isKind_17 : decode cX2_isKind 17 = .ok (.iload_n 2, 1) := by decide +kernel
theorem dX2_isKind_18 : decode cX2_isKind 18 = .ok (.bipush 6, 2) := by decide +kernel
theorem dX2_isKind_20 : decode cX2_isKind 20 = .ok (.if_icmp .ge 22, 3) := by decide +kernel
theorem dX2_isKind_23 : decode cX2_isKind 23 = .ok (.iload_n 2, 1) := by decide +kernel
theorem dX2_isKind_24 : decode cX2_isKind 24 = .ok (.iload_n 1, 1) := by decide +kernel
theorem dX2_isKind_25 : decode cX2_isKind 25 = .ok (.if_icmp .ne 5, 3) := by decide +kernel
theorem dX2_isKind_28 : decode cX2_isKind 28 = .ok (.iconst 1, 1) := by decide +kernel
theorem dX2_isKind_29 : decode cX2_isKind 29 = .ok (.ireturn, 1) := by decide +kernel
theorem dX2_isKind_30 : decode cX2_isKind 30 = .ok (.getstatic 37, 3) := by decide +kernel
theorem dX2_isKind_33 : decode cX2_isKind 33 = .ok (.iload_n 2, 1) := by decide +kernel
theorem dX2_isKind_34 : decode cX2_isKind 34 = .ok (.iaload, 1) := by decide +kernel
theorem dX2_isKind_35 : decode cX2_isKind 35 = .ok (.istore_n 2, 1) := by decide +kernel
theorem dX2_isKind_36 : decode cX2_isKind 36 = .ok (.iinc 3 1, 3) := by decide +kernel
theorem dX2_isKind_39 : decode cX2_isKind 39 = .ok (.goto (-32), 3) := by decide +kernel
theorem dX2_isKind_42 : decode cX2_isKind 42 = .ok (.iconst 0, 1) := by decide +kernel
theorem dX2_isKind_43 : decode cX2_isKind 43 = .ok (.ireturn, 1) := by decide +kernel
theorem dX2_goesOn_0 : decode cX2_goesOn 0 = .ok (.aload_n 0, 1) := by decide +kernel
theorem dX2_goesOn_1 : decode cX2_goesOn 1 = .ok (.getfield 28, 3) := by decide +kernel
theorem dX2_goesOn_4 : decode cX2_goesOn 4 = .ok (.ifCond .eq 11, 3) := by decide +kernel
theorem dX2_goesOn_7 : decode cX2_goesOn 7 = .ok (.aload_n 0, 1) := by decide +kernel
theorem dX2_goesOn_8 : decode cX2_goesOn 8 = .ok (.getfield 28, 3) := by decide +kernel
theorem dX2_goesOn_11 : decode cX2_goesOn 11 = .ok (.iconst 1, 1) := by decide +kernel
theorem dX2_goesOn_12 : decode cX2_goesOn 12 = .ok (.if_icmp .ne 7, 3) := by decide +kernel
theorem dX2_goesOn_15 : decode cX2_goesOn 15 = .ok (.iconst 1, 1) := by decide +kernel
theorem dX2_goesOn_16 : decode cX2_goesOn 16 = .ok (.goto 4, 3) := by decide +kernel
theorem dX2_goesOn_19 : decode cX2_goesOn 19 = .ok (.iconst 0, 1) := by decide +kernel
theorem dX2_goesOn_20 : decode cX2_goesOn 20 = .ok (.ireturn, 1) := by decide +kernel
theorem dX2_isPooled_0 : decode cX2_isPooled 0 = .ok (.aload_n 0, 1) := by decide +kernel
theorem dX2_isPooled_1 : decode cX2_isPooled 1 = .ok (.invokevirtual 41, 3) := by decide +kernel
theorem dX2_isPooled_4 : decode cX2_isPooled 4 = .ok (.ifCond .ne 11, 3) := by decide +kernel
theorem dX2_isPooled_7 : decode cX2_isPooled 7 = .ok (.aload_n 0, 1) := by decide +kernel
theorem dX2_isPooled_8 : decode cX2_isPooled 8 = .ok (.getfield 28, 3) := by decide +kernel
theorem dX2_isPooled_11 : decode cX2_isPooled 11 = .ok (.iconst 3, 1) := by decide +kernel
theorem dX2_isPooled_12 : decode cX2_isPooled 12 = .ok (.if_icmp .ne 7, 3) := by decide +kernel
theorem dX2_isPooled_15 : decode cX2_isPooled 15 = .ok (.iconst 1, 1) := by decide +kernel
theorem dX2_isPooled_16 : decode cX2_isPooled 16 = .ok (.goto 4, 3) := by decide +kernel
theorem dX2_isPooled_19 : decode cX2_isPooled 19 = .ok (.iconst 0, 1) := by decide +kernel
theorem dX2_isPooled_20 : decode cX2_isPooled 20 = .ok (.ireturn, 1) := by decide +kernel
theorem dX2_isSoldIn_0 : decode cX2_isSoldIn 0 = .ok (.aload_n 0, 1) := by decide +kernel
theorem dX2_isSoldIn_1 : decode cX2_isSoldIn 1 = .ok (.getfield 28, 3) := by decide +kernel
theorem dX2_isSoldIn_4 : decode cX2_isSoldIn 4 = .ok (.iconst 3, 1) := by decide +kernel
theorem dX2_isSoldIn_5 : decode cX2_isSoldIn 5 = .ok (.if_icmp .ne 17, 3) := by decide +kernel
theorem dX2_isSoldIn_8 : decode cX2_isSoldIn 8 = .ok (.iload_n 1, 1) := by decide +kernel
theorem dX2_isSoldIn_9 : decode cX2_isSoldIn 9 = .ok (.aload_n 0, 1) := by decide +kernel
theorem dX2_isSoldIn_10 : decode cX2_isSoldIn 10 = .ok (.getfield 34, 3) := by decide +kernel
theorem dX2_isSoldIn_13 : decode cX2_isSoldIn 13 = .ok (.iconst 3, 1) := by decide +kernel
theorem dX2_isSoldIn_14 : decode cX2_isSoldIn 14 = .ok (.iadd, 1) := by decide +kernel
theorem dX2_isSoldIn_15 : decode cX2_isSoldIn 15 = .ok (.if_icmp .lt 7, 3) := by decide +kernel
theorem dX2_isSoldIn_18 : decode cX2_isSoldIn 18 = .ok (.iconst 1, 1) := by decide +kernel
theorem dX2_isSoldIn_19 : decode cX2_isSoldIn 19 = .ok (.goto 4, 3) := by decide +kernel
theorem dX2_isSoldIn_22 : decode cX2_isSoldIn 22 = .ok (.iconst 0, 1) := by decide +kernel
theorem dX2_isSoldIn_23 : decode cX2_isSoldIn 23 = .ok (.ireturn, 1) := by decide +kernel
theorem dX2_left_0 : decode cX2_left 0 = .ok (.aload_n 0, 1) := by decide +kernel
theorem dX2_left_1 : decode cX2_left 1 = .ok (.getfield 22, 3) := by decide +kernel
theorem dX2_left_4 : decode cX2_left 4 = .ok (.iconst 1, 1) := by decide +kernel
theorem dX2_left_5 : decode cX2_left 5 = .ok (.iadd, 1) := by decide +kernel
theorem dX2_left_6 : decode cX2_left 6 = .ok (.iload_n 1, 1) := by decide +kernel
theorem dX2_left_7 : decode cX2_left 7 = .ok (.isub, 1) := by decide +kernel
theorem dX2_left_8 : decode cX2_left 8 = .ok (.ireturn, 1) := by decide +kernel
theorem dX2_isLast_0 : decode cX2_isLast 0 = .ok (.iload_n 1, 1) := by decide +kernel
theorem dX2_isLast_1 : decode cX2_isLast 1 = .ok (.aload_n 0, 1) := by decide +kernel
theorem dX2_isLast_2 : decode cX2_isLast 2 = .ok (.getfield 22, 3) := by decide +kernel
theorem dX2_isLast_5 : decode cX2_isLast 5 = .ok (.if_icmp .lt 7, 3) := by decide +kernel
theorem dX2_isLast_8 : decode cX2_isLast 8 = .ok (.iconst 1, 1) := by decide +kernel
theorem dX2_isLast_9 : decode cX2_isLast 9 = .ok (.goto 4, 3) := by decide +kernel
theorem dX2_isLast_12 : decode cX2_isLast 12 = .ok (.iconst 0, 1) := by decide +kernel
theorem dX2_isLast_13 : decode cX2_isLast 13 = .ok (.ireturn, 1) := by decide +kernel
theorem dX2_rests_0 : decode cX2_rests 0 = .ok (.aload_n 0, 1) := by decide +kernel
theorem dX2_rests_1 : decode cX2_rests 1 = .ok (.getfield 9, 3) := by decide +kernel
theorem dX2_rests_4 : decode cX2_rests 4 = .ok (.iconst 4, 1) := by decide +kernel
theorem dX2_rests_5 : decode cX2_rests 5 = .ok (.if_icmp .ne 22, 3) := by decide +kernel
theorem dX2_rests_8 : decode cX2_rests 8 = .ok (.iload_n 1, 1) := by decide +kernel
theorem dX2_rests_9 : decode cX2_rests 9 = .ok (.bipush 6, 2) := by decide +kernel
theorem dX2_rests_11 : decode cX2_rests 11 = .ok (.irem, 1) := by decide +kernel
theorem dX2_rests_12 : decode cX2_rests 12 = .ok (.ifCond .ne 15, 3) := by decide +kernel
theorem dX2_rests_15 : decode cX2_rests 15 = .ok (.aload_n 0, 1) := by decide +kernel
theorem dX2_rests_16 : decode cX2_rests 16 = .ok (.iload_n 1, 1) := by decide +kernel
theorem dX2_rests_17 : decode cX2_rests 17 = .ok (.invokevirtual 45, 3) := by decide +kernel
theorem dX2_rests_20 : decode cX2_rests 20 = .ok (.ifCond .ne 7, 3) := by decide +kernel
theorem dX2_rests_23 : decode cX2_rests 23 = .ok (.iconst 1, 1) := by decide +kernel
theorem dX2_rests_24 : decode cX2_rests 24 = .ok (.goto 4, 3) := by decide +kernel
theorem dX2_rests_27 : decode cX2_rests 27 = .ok (.iconst 0, 1) := by decide +kernel
theorem dX2_rests_28 : decode cX2_rests 28 = .ok (.ireturn, 1) := by decide +kernel
theorem dX2_interest_0 : decode cX2_interest 0 = .ok (.aload_n 0, 1) := by decide +kernel
theorem dX2_interest_1 : decode cX2_interest 1 = .ok (.getfield 15, 3) := by decide +kernel
theorem dX2_interest_4 : decode cX2_interest 4 = .ok (.aload_n 0, 1) := by decide +kernel
theorem dX2_interest_5 : decode cX2_interest 5 = .ok (.getfield 19, 3) := by decide +kernel
theorem dX2_interest_8 : decode cX2_interest 8 = .ok (.i2l, 1) := by decide +kernel
theorem dX2_interest_9 : decode cX2_interest 9 = .ok (.lmul, 1) := by decide +kernel
theorem dX2_interest_10 : decode cX2_interest 10 = .ok (.ldc2_w 49, 3) := by decide +kernel
theorem dX2_interest_13 : decode cX2_interest 13 = .ok (.ldiv, 1) := by decide +kernel
theorem dX2_interest_14 : decode cX2_interest 14 = .ok (.lreturn, 1) := by decide +kernel
theorem dX2_principal_0 : decode cX2_principal 0 = .ok (.aload_n 0, 1) := by decide +kernel
theorem dX2_principal_1 : decode cX2_principal 1 = .ok (.iload_n 1, 1) := by decide +kernel
theorem dX2_principal_2 : decode cX2_principal 2 = .ok (.invokevirtual 45, 3) := by decide +kernel
theorem dX2_principal_5 : decode cX2_principal 5 = .ok (.ifCond .eq 8, 3) := by decide +kernel
theorem dX2_principal_8 : decode cX2_principal 8 = .ok (.aload_n 0, 1) := by decide +kernel
theorem dX2_principal_9 : decode cX2_principal 9 = .ok (.getfield 15, 3) := by decide +kernel
theorem dX2_principal_12 : decode cX2_principal 12 = .ok (.lreturn, 1) := by decide +kernel
theorem dX2_principal_13 : decode cX2_principal 13 = .ok (.aload_n 0, 1) := by decide +kernel
theorem dX2_principal_14 : decode cX2_principal 14 = .ok (.iconst 1, 1) := by decide +kernel
theorem dX2_principal_15 : decode cX2_principal 15 = .ok (.invokevirtual 51, 3) := by decide +kernel
theorem dX2_principal_18 : decode cX2_principal 18 = .ok (.ifCond .eq 24, 3) := by decide +kernel
theorem dX2_principal_21 : decode cX2_principal 21 = .ok (.aload_n 0, 1) := by decide +kernel
theorem dX2_principal_22 : decode cX2_principal 22 = .ok (.getfield 15, 3) := by decide +kernel
theorem dX2_principal_25 : decode cX2_principal 25 = .ok (.lconst 0, 1) := by decide +kernel
theorem dX2_principal_26 : decode cX2_principal 26 = .ok (.aload_n 0, 1) := by decide +kernel
theorem dX2_principal_27 : decode cX2_principal 27 = .ok (.getfield 31, 3) := by decide +kernel
theorem dX2_principal_30 : decode cX2_principal 30 = .ok (.aload_n 0, 1) := by decide +kernel
theorem dX2_principal_31 : decode cX2_principal 31 = .ok (.invokevirtual 54, 3) := by decide +kernel
theorem dX2_principal_34 : decode cX2_principal 34 = .ok (.lsub, 1) := by decide +kernel
theorem dX2_principal_35 : decode cX2_principal 35 = .ok (.invokestatic 58, 3) := by decide +kernel
theorem dX2_principal_38 : decode cX2_principal 38 = .ok (.invokestatic 64, 3) := by decide +kernel
theorem dX2_principal_41 : decode cX2_principal 41 = .ok (.lreturn, 1) := by decide +kernel
theorem dX2_principal_42 : decode cX2_principal 42 = .ok (.aload_n 0, 1) := by decide +kernel
theorem dX2_principal_43 : decode cX2_principal 43 = .ok (.getfield 9, 3) := by decide +kernel
theorem dX2_principal_46 : decode cX2_principal 46 = .ok (.ifCond .eq 23, 3) := by decide +kernel
theorem dX2_principal_49 : decode cX2_principal 49 = .ok (.aload_n 0, 1) := by decide +kernel
theorem dX2_principal_50 : decode cX2_principal 50 = .ok (.getfield 9, 3) := by decide +kernel
theorem dX2_principal_53 : decode cX2_principal 53 = .ok (.iconst 5, 1) := by decide +kernel
theorem dX2_principal_54 : decode cX2_principal 54 = .ok (.if_icmp .ne 19, 3) := by decide +kernel
theorem dX2_principal_57 : decode cX2_principal 57 = .ok (.iconst 3, 1) := by decide +kernel
theorem dX2_principal_58 : decode cX2_principal 58 = .ok (.iload_n 1, 1) := by decide +kernel
theorem dX2_principal_59 : decode cX2_principal 59 = .ok (.imul, 1) := by decide +kernel
theorem dX2_principal_60 : decode cX2_principal 60 = .ok (.iconst 2, 1) := by decide +kernel
theorem dX2_principal_61 : decode cX2_principal 61 = .ok (.aload_n 0, 1) := by decide +kernel
theorem dX2_principal_62 : decode cX2_principal 62 = .ok (.getfield 22, 3) := by decide +kernel
theorem dX2_principal_65 : decode cX2_principal 65 = .ok (.imul, 1) := by decide +kernel
theorem dX2_principal_66 : decode cX2_principal 66 = .ok (.if_icmp .le 7, 3) := by decide +kernel
theorem dX2_principal_69 : decode cX2_principal 69 = .ok (.iconst 1, 1) := by decide +kernel
theorem dX2_principal_70 : decode cX2_principal 70 = .ok (.goto 4, 3) := by decide +kernel
theorem dX2_principal_73 : decode cX2_principal 73 = .ok (.iconst 0, 1) := by decide +kernel
theorem dX2_principal_74 : decode cX2_principal 74 = .ok (.istore_n 2, 1) := by decide +kernel
theorem dX2_principal_75 : decode cX2_principal 75 = .ok (.aload_n 0, 1) := by decide +kernel
theorem dX2_principal_76 : decode cX2_principal 76 = .ok (.iload_n 1, 1) := by decide +kernel
theorem dX2_principal_77 : decode cX2_principal 77 = .ok (.invokevirtual 67, 3) := by decide +kernel
theorem dX2_principal_80 : decode cX2_principal 80 = .ok (.istore_n 3, 1) := by decide +kernel
theorem dX2_principal_81 : decode cX2_principal 81 = .ok (.iload_n 2, 1) := by decide +kernel
theorem dX2_principal_82 : decode cX2_principal 82 = .ok (.ifCond .eq 22, 3) := by decide +kernel
theorem dX2_principal_85 : decode cX2_principal 85 = .ok (.iload_n 3, 1) := by decide +kernel
theorem dX2_principal_86 : decode cX2_principal 86 = .ok (.ifCond .le 18, 3) := by decide +kernel
theorem dX2_principal_89 : decode cX2_principal 89 = .ok (.aload_n 0, 1) := by decide +kernel
theorem dX2_principal_90 : decode cX2_principal 90 = .ok (.getfield 15, 3) := by decide +kernel
theorem dX2_principal_93 : decode cX2_principal 93 = .ok (.iload_n 3, 1) := by decide +kernel
theorem dX2_principal_94 : decode cX2_principal 94 = .ok (.i2l, 1) := by decide +kernel
theorem dX2_principal_95 : decode cX2_principal 95 = .ok (.ladd, 1) := by decide +kernel
theorem dX2_principal_96 : decode cX2_principal 96 = .ok (.lconst 1, 1) := by decide +kernel
theorem dX2_principal_97 : decode cX2_principal 97 = .ok (.lsub, 1) := by decide +kernel
theorem dX2_principal_98 : decode cX2_principal 98 = .ok (.iload_n 3, 1) := by decide +kernel
theorem dX2_principal_99 : decode cX2_principal 99 = .ok (.i2l, 1) := by decide +kernel
theorem dX2_principal_100 : decode cX2_principal 100 = .ok (.ldiv, 1) := by decide +kernel
theorem dX2_principal_101 : decode cX2_principal 101 = .ok (.goto 4, 3) := by decide +kernel
theorem dX2_principal_104 : decode cX2_principal 104 = .ok (.lconst 0, 1) := by decide +kernel
theorem dX2_principal_105 : decode cX2_principal 105 = .ok (.lreturn, 1) := by decide +kernel
theorem dX2_begin_0 : decode cX2_begin 0 = .ok (.iload_n 1, 1) := by decide +kernel
theorem dX2_begin_1 : decode cX2_begin 1 = .ok (.iconst 1, 1) := by decide +kernel
theorem dX2_begin_2 : decode cX2_begin 2 = .ok (.if_icmp .ne 16, 3) := by decide +kernel
theorem dX2_begin_5 : decode cX2_begin 5 = .ok (.aload_n 0, 1) := by decide +kernel
theorem dX2_begin_6 : decode cX2_begin 6 = .ok (.iconst 1, 1) := by decide +kernel
theorem dX2_begin_7 : decode cX2_begin 7 = .ok (.invokevirtual 51, 3) := by decide +kernel
theorem dX2_begin_10 : decode cX2_begin 10 = .ok (.ifCond .eq 8, 3) := by decide +kernel
theorem dX2_begin_13 : decode cX2_begin 13 = .ok (.aload_n 0, 1) := by decide +kernel
theorem dX2_begin_14 : decode cX2_begin 14 = .ok (.iload_n 1, 1) := by decide +kernel
theorem dX2_begin_15 : decode cX2_begin 15 = .ok (.invokevirtual 71, 3) := by decide +kernel
theorem dX2_begin_18 : decode cX2_begin 18 = .ok (.iload_n 1, 1) := by decide +kernel
theorem dX2_begin_19 : decode cX2_begin 19 = .ok (.bipush 13, 2) := by decide +kernel
theorem dX2_begin_21 : decode cX2_begin 21 = .ok (.if_icmp .ne 39, 3) := by decide +kernel
theorem dX2_begin_24 : decode cX2_begin 24 = .ok (.aload_n 0, 1) := by decide +kernel
theorem dX2_begin_25 : decode cX2_begin 25 = .ok (.iconst 2, 1) := by decide +kernel
theorem dX2_begin_26 : decode cX2_begin 26 = .ok (.invokevirtual 51, 3) := by decide +kernel
theorem dX2_begin_29 : decode cX2_begin 29 = .ok (.ifCond .eq 31, 3) := by decide +kernel
theorem dX2_begin_32 : decode cX2_begin 32 = .ok (.aload_n 0, 1) := by decide +kernel
theorem dX2_begin_33 : decode cX2_begin 33 = .ok (.invokevirtual 41, 3) := by decide +kernel
theorem dX2_begin_36 : decode cX2_begin 36 = .ok (.ifCond .eq 24, 3) := by decide +kernel
theorem dX2_begin_39 : decode cX2_begin 39 = .ok (.aload_n 0, 1) := by decide +kernel
theorem dX2_begin_40 : decode cX2_begin 40 = .ok (.sipush 200, 3) := by decide +kernel
theorem dX2_begin_43 : decode cX2_begin 43 = .ok (.iconst 2, 1) := by decide +kernel
theorem dX2_begin_44 : decode cX2_begin 44 = .ok (.aload_n 0, 1) := by decide +kernel
theorem dX2_begin_45 : decode cX2_begin 45 = .ok (.getfield 19, 3) := by decide +kernel
theorem dX2_begin_48 : decode cX2_begin 48 = .ok (.imul, 1) := by decide +kernel
theorem dX2_begin_49 : decode cX2_begin 49 = .ok (.invokestatic 75, 3) := by decide +kernel
theorem dX2_begin_52 : decode cX2_begin 52 = .ok (.putfield 19, 3) := by decide +kernel
theorem dX2_begin_55 : decode cX2_begin 55 = .ok (.aload_n 0, 1) := by decide +kernel
theorem dX2_begin_56 : decode cX2_begin 56 = .ok (.iload_n 1, 1) := by decide +kernel
theorem dX2_begin_57 : decode cX2_begin 57 = .ok (.invokevirtual 71, 3) := by decide +kernel
theorem dX2_begin_60 : decode cX2_begin 60 = .ok (.return_, 1) := by decide +kernel
theorem dX2_findPay_0 : decode cX2_findPay 0 = .ok (.lconst 0, 1) := by decide +kernel
theorem dX2_findPay_1 : decode cX2_findPay 1 = .ok (.lstore_n 2, 1) := by decide +kernel
theorem dX2_findPay_2 : decode cX2_findPay 2 = .ok (.aload_n 0, 1) := by decide +kernel
theorem dX2_findPay_3 : decode cX2_findPay 3 = .ok (.getfield 15, 3) := by decide +kernel
theorem dX2_findPay_6 : decode cX2_findPay 6 = .ok (.aload_n 0, 1) := by decide +kernel
theorem dX2_findPay_7 : decode cX2_findPay 7 = .ok (.invokevirtual 54, 3) := by decide +kernel
theorem dX2_findPay_10 : decode cX2_findPay 10 = .ok (.ladd, 1) := by decide +kernel
theorem dX2_findPay_11 : decode cX2_findPay 11 = .ok (.lstore 4, 2) := by decide +kernel
theorem dX2_findPay_13 : decode cX2_findPay 13 = .ok (.iconst 0, 1) := by decide +kernel
theorem dX2_findPay_14 : decode cX2_findPay 14 = .ok (.istore 6, 2) := by decide +kernel
theorem dX2_findPay_16 : decode cX2_findPay 16 = .ok (.iload 6, 2) := by decide +kernel
theorem dX2_findPay_18 : decode cX2_findPay 18 = .ok (.bipush 64, 2) := by decide +kernel
theorem dX2_findPay_20 : decode cX2_findPay 20 = .ok (.if_icmp .ge 52, 3) := by decide +kernel
theorem dX2_findPay_23 : decode cX2_findPay 23 = .ok (.lload_n 2, 1) := by decide +kernel
theorem dX2_findPay_24 : decode cX2_findPay 24 = .ok (.lload 4, 2) := by decide +kernel
theorem dX2_findPay_26 : decode cX2_findPay 26 = .ok (.lcmp, 1) := by decide +kernel
theorem dX2_findPay_27 : decode cX2_findPay 27 = .ok (.ifCond .ge 45, 3) := by decide +kernel
theorem dX2_findPay_30 : decode cX2_findPay 30 = .ok (.lload_n 2, 1) := by decide +kernel
theorem dX2_findPay_31 : decode cX2_findPay 31 = .ok (.lload 4, 2) := by decide +kernel
theorem dX2_findPay_33 : decode cX2_findPay 33 = .ok (.ladd, 1) := by decide +kernel
theorem dX2_findPay_34 : decode cX2_findPay 34 = .ok (.ldc2_w 78, 3) := by decide +kernel
theorem dX2_findPay_37 : decode cX2_findPay 37 = .ok (.ldiv, 1) := by decide +kernel
theorem dX2_findPay_38 : decode cX2_findPay 38 = .ok (.lstore 7, 2) := by decide +kernel
theorem dX2_findPay_40 : decode cX2_findPay 40 = .ok (.aload_n 0, 1) := by decide +kernel
theorem dX2_findPay_41 : decode cX2_findPay 41 = .ok (.lload 7, 2) := by decide +kernel
theorem dX2_findPay_43 : decode cX2_findPay 43 = .ok (.aload_n 0, 1) := by decide +kernel
theorem dX2_findPay_44 : decode cX2_findPay 44 = .ok (.iload_n 1, 1) := by decide +kernel
theorem dX2_findPay_45 : decode cX2_findPay 45 = .ok (.invokevirtual 67, 3) := by decide +kernel
theorem dX2_findPay_48 : decode cX2_findPay 48 = .ok (.invokevirtual 80, 3) := by decide +kernel
theorem dX2_findPay_51 : decode cX2_findPay 51 = .ok (.ifCond .eq 10, 3) := by decide +kernel
theorem dX2_findPay_54 : decode cX2_findPay 54 = .ok (.lload 7, 2) := by decide +kernel
theorem dX2_findPay_56 : decode cX2_findPay 56 = .ok (.lstore 4, 2) := by decide +kernel
theorem dX2_findPay_58 : decode cX2_findPay 58 = .ok (.goto 8, 3) := by decide +kernel
theorem dX2_findPay_61 : decode cX2_findPay 61 = .ok (.lload 7, 2) := by decide +kernel
theorem dX2_findPay_63 : decode cX2_findPay 63 = .ok (.lconst 1, 1) := by decide +kernel
theorem dX2_findPay_64 : decode cX2_findPay 64 = .ok (.ladd, 1) := by decide +kernel
theorem dX2_findPay_65 : decode cX2_findPay 65 = .ok (.lstore_n 2, 1) := by decide +kernel
theorem dX2_findPay_66 : decode cX2_findPay 66 = .ok (.iinc 6 1, 3) := by decide +kernel
theorem dX2_findPay_69 : decode cX2_findPay 69 = .ok (.goto (-53), 3) := by decide +kernel
theorem dX2_findPay_72 : decode cX2_findPay 72 = .ok (.aload_n 0, 1) := by decide +kernel
theorem dX2_findPay_73 : decode cX2_findPay 73 = .ok (.lload 4, 2) := by decide +kernel
theorem dX2_findPay_75 : decode cX2_findPay 75 = .ok (.putfield 31, 3) := by decide +kernel
theorem dX2_findPay_78 : decode cX2_findPay 78 = .ok (.return_, 1) := by decide +kernel
theorem dX2_wouldEnd_0 : decode cX2_wouldEnd 0 = .ok (.aload_n 0, 1) := by decide +kernel
theorem dX2_wouldEnd_1 : decode cX2_wouldEnd 1 = .ok (.getfield 15, 3) := by decide +kernel
theorem dX2_wouldEnd_4 : decode cX2_wouldEnd 4 = .ok (.lstore 4, 2) := by decide +kernel
theorem dX2_wouldEnd_6 : decode cX2_wouldEnd 6 = .ok (.iconst 0, 1) := by decide +kernel
theorem dX2_wouldEnd_7 : decode cX2_wouldEnd 7 = .ok (.istore 6, 2) := by decide +kernel
theorem dX2_wouldEnd_9 : decode cX2_wouldEnd 9 = .ok (.iload 6, 2) := by decide +kernel
theorem dX2_wouldEnd_11 : decode cX2_wouldEnd 11 = .ok (.iload_n 3, 1) := by decide +kernel
theorem dX2_wouldEnd_12 : decode cX2_wouldEnd 12 = .ok (.if_icmp .ge 37, 3) := by decide +kernel
theorem dX2_wouldEnd_15 : decode cX2_wouldEnd 15 = .ok (.lload 4, 2) := by decide +kernel
theorem dX2_wouldEnd_17 : decode cX2_wouldEnd 17 = .ok (.lload 4, 2) := by decide +kernel
theorem dX2_wouldEnd_19 : decode cX2_wouldEnd 19 = .ok (.lconst 0, 1) := by decide +kernel
theorem dX2_wouldEnd_20 : decode cX2_wouldEnd 20 = .ok (.lload_n 1, 1) := by decide +kernel
theorem dX2_wouldEnd_21 : decode cX2_wouldEnd 21 = .ok (.lload 4, 2) := by decide +kernel
theorem dX2_wouldEnd_23 : decode cX2_wouldEnd 23 = .ok (.aload_n 0, 1) := by decide +kernel
theorem dX2_wouldEnd_24 : decode cX2_wouldEnd 24 = .ok (.getfield 19, 3) := by decide +kernel
theorem dX2_wouldEnd_27 : decode cX2_wouldEnd 27 = .ok (.i2l, 1) := by decide +kernel
theorem dX2_wouldEnd_28 : decode cX2_wouldEnd 28 = .ok (.lmul, 1) := by decide +kernel
theorem dX2_wouldEnd_29 : decode cX2_wouldEnd 29 = .ok (.ldc2_w 49, 3) := by decide +kernel
theorem dX2_wouldEnd_32 : decode cX2_wouldEnd 32 = .ok (.ldiv, 1) := by decide +kernel
theorem dX2_wouldEnd_33 : decode cX2_wouldEnd 33 = .ok (.lsub, 1) := by decide +kernel
theorem dX2_wouldEnd_34 : decode cX2_wouldEnd 34 = .ok (.invokestatic 58, 3) := by decide +kernel
theorem dX2_wouldEnd_37 : decode cX2_wouldEnd 37 = .ok (.invokestatic 64, 3) := by decide +kernel
theorem dX2_wouldEnd_40 : decode cX2_wouldEnd 40 = .ok (.lsub, 1) := by decide +kernel
theorem dX2_wouldEnd_41 : decode cX2_wouldEnd 41 = .ok (.lstore 4, 2) := by decide +kernel
theorem dX2_wouldEnd_43 : decode cX2_wouldEnd 43 = .ok (.iinc 6 1, 3) := by decide +kernel
theorem dX2_wouldEnd_46 : decode cX2_wouldEnd 46 = .ok (.goto (-37), 3) := by decide +kernel
theorem dX2_wouldEnd_49 : decode cX2_wouldEnd 49 = .ok (.lload 4, 2) := by decide +kernel
theorem dX2_wouldEnd_51 : decode cX2_wouldEnd 51 = .ok (.lconst 0, 1) := by decide +kernel
theorem dX2_wouldEnd_52 : decode cX2_wouldEnd 52 = .ok (.lcmp, 1) := by decide +kernel
theorem dX2_wouldEnd_53 : decode cX2_wouldEnd 53 = .ok (.ifCond .ne 7, 3) := by decide +kernel
theorem dX2_wouldEnd_56 : decode cX2_wouldEnd 56 = .ok (.iconst 1, 1) := by decide +kernel
theorem dX2_wouldEnd_57 : decode cX2_wouldEnd 57 = .ok (.goto 4, 3) := by decide +kernel
theorem dX2_wouldEnd_60 : decode cX2_wouldEnd 60 = .ok (.iconst 0, 1) := by decide +kernel
theorem dX2_wouldEnd_61 : decode cX2_wouldEnd 61 = .ok (.ireturn, 1) := by decide +kernel
theorem dX3_init_0 : decode cX3_init 0 = .ok (.aload_n 0, 1) := by decide +kernel
theorem dX3_init_1 : decode cX3_init 1 = .ok (.invokespecial 3, 3) := by decide +kernel
theorem dX3_init_4 : decode cX3_init 4 = .ok (.aload_n 0, 1) := by decide +kernel
theorem dX3_init_5 : decode cX3_init 5 = .ok (.bipush 10, 2) := by decide +kernel
theorem dX3_init_7 : decode cX3_init 7 = .ok (.newarray .long, 2) := by decide +kernel
theorem dX3_init_9 : decode cX3_init 9 = .ok (.putfield 9, 3) := by decide +kernel
theorem dX3_init_12 : decode cX3_init 12 = .ok (.return_, 1) := by decide +kernel
theorem dX3_clear_0 : decode cX3_clear 0 = .ok (.aload_n 0, 1) := by decide +kernel
theorem dX3_clear_1 : decode cX3_clear 1 = .ok (.lconst 0, 1) := by decide +kernel
theorem dX3_clear_2 : decode cX3_clear 2 = .ok (.putfield 15, 3) := by decide +kernel
theorem dX3_clear_5 : decode cX3_clear 5 = .ok (.aload_n 0, 1) := by decide +kernel
theorem dX3_clear_6 : decode cX3_clear 6 = .ok (.lconst 0, 1) := by decide +kernel
theorem dX3_clear_7 : decode cX3_clear 7 = .ok (.putfield 19, 3) := by decide +kernel
theorem dX3_clear_10 : decode cX3_clear 10 = .ok (.aload_n 0, 1) := by decide +kernel
theorem dX3_clear_11 : decode cX3_clear 11 = .ok (.lconst 0, 1) := by decide +kernel
theorem dX3_clear_12 : decode cX3_clear 12 = .ok (.putfield 22, 3) := by decide +kernel
theorem dX3_clear_15 : decode cX3_clear 15 = .ok (.aload_n 0, 1) := by decide +kernel
theorem dX3_clear_16 : decode cX3_clear 16 = .ok (.lconst 0, 1) := by decide +kernel
theorem dX3_clear_17 : decode cX3_clear 17 = .ok (.putfield 25, 3) := by decide +kernel
theorem dX3_clear_20 : decode cX3_clear 20 = .ok (.aload_n 0, 1) := by decide +kernel
theorem dX3_clear_21 : decode cX3_clear 21 = .ok (.lconst 0, 1) := by decide +kernel
theorem dX3_clear_22 : decode cX3_clear 22 = .ok (.putfield 28, 3) := by decide +kernel
theorem dX3_clear_25 : decode cX3_clear 25 = .ok (.aload_n 0, 1) := by decide +kernel
theorem dX3_clear_26 : decode cX3_clear 26 = .ok (.lconst 0, 1) := by decide +kernel
theorem dX3_clear_27 : decode cX3_clear 27 = .ok (.putfield 31, 3) := by decide +kernel
theorem dX3_clear_30 : decode cX3_clear 30 = .ok (.return_, 1) := by decide +kernel
theorem dX3_collected_0 : decode cX3_collected 0 = .ok (.aload_n 0, 1) := by decide +kernel
theorem dX3_collected_1 : decode cX3_collected 1 = .ok (.getfield 15, 3) := by decide +kernel
theorem dX3_collected_4 : decode cX3_collected 4 = .ok (.aload_n 0, 1) := by decide +kernel
theorem dX3_collected_5 : decode cX3_collected 5 = .ok (.getfield 19, 3) := by decide +kernel
theorem dX3_collected_8 : decode cX3_collected 8 = .ok (.ladd, 1) := by decide +kernel
theorem dX3_collected_9 : decode cX3_collected 9 = .ok (.aload_n 0, 1) := by decide +kernel
theorem dX3_collected_10 : decode cX3_collected 10 = .ok (.getfield 22, 3) := by decide +kernel
theorem dX3_collected_13 : decode cX3_collected 13 = .ok (.ladd, 1) := by decide +kernel
theorem dX3_collected_14 : decode cX3_collected 14 = .ok (.aload_n 0, 1) := by decide +kernel
theorem dX3_collected_15 : decode cX3_collected 15 = .ok (.getfield 25, 3) := by decide +kernel
theorem dX3_collected_18 : decode cX3_collected 18 = .ok (.ladd, 1) := by decide +kernel
theorem dX3_collected_19 : decode cX3_collected 19 = .ok (.aload_n 0, 1) := by decide +kernel
theorem dX3_collected_20 : decode cX3_collected 20 = .ok (.getfield 28, 3) := by decide +kernel
theorem dX3_collected_23 : decode cX3_collected 23 = .ok (.lsub, 1) := by decide +kernel
theorem dX3_collected_24 : decode cX3_collected 24 = .ok (.lreturn, 1) := by decide +kernel
theorem dX3_fact_0 : decode cX3_fact 0 = .ok (.iload_n 1, 1) := by decide +kernel
theorem dX3_fact_1 : decode cX3_fact 1 = .ok (.tableswitch 131 0 10 #[59, 65, 71, 77, 83, 89, 95, 101, 107, 112, 118], 59) := by decide +kernel
theorem dX3_fact_60 : decode cX3_fact 60 = .ok (.aload_n 0, 1) := by decide +kernel
theorem dX3_fact_61 : decode cX3_fact 61 = .ok (.getfield 15, 3) := by decide +kernel
theorem dX3_fact_64 : decode cX3_fact 64 = .ok (.l2i, 1) := by decide +kernel
theorem dX3_fact_65 : decode cX3_fact 65 = .ok (.ireturn, 1) := by decide +kernel
theorem dX3_fact_66 : decode cX3_fact 66 = .ok (.aload_n 0, 1) := by decide +kernel
theorem dX3_fact_67 : decode cX3_fact 67 = .ok (.getfield 19, 3) := by decide +kernel
theorem dX3_fact_70 : decode cX3_fact 70 = .ok (.l2i, 1) := by decide +kernel
theorem dX3_fact_71 : decode cX3_fact 71 = .ok (.ireturn, 1) := by decide +kernel
theorem dX3_fact_72 : decode cX3_fact 72 = .ok (.aload_n 0, 1) := by decide +kernel
theorem dX3_fact_73 : decode cX3_fact 73 = .ok (.getfield 22, 3) := by decide +kernel
theorem dX3_fact_76 : decode cX3_fact 76 = .ok (.l2i, 1) := by decide +kernel
theorem dX3_fact_77 : decode cX3_fact 77 = .ok (.ireturn, 1) := by decide +kernel
theorem dX3_fact_78 : decode cX3_fact 78 = .ok (.aload_n 0, 1) := by decide +kernel
theorem dX3_fact_79 : decode cX3_fact 79 = .ok (.getfield 25, 3) := by decide +kernel
theorem dX3_fact_82 : decode cX3_fact 82 = .ok (.l2i, 1) := by decide +kernel
theorem dX3_fact_83 : decode cX3_fact 83 = .ok (.ireturn, 1) := by decide +kernel
theorem dX3_fact_84 : decode cX3_fact 84 = .ok (.aload_n 0, 1) := by decide +kernel
theorem dX3_fact_85 : decode cX3_fact 85 = .ok (.getfield 28, 3) := by decide +kernel
theorem dX3_fact_88 : decode cX3_fact 88 = .ok (.l2i, 1) := by decide +kernel
theorem dX3_fact_89 : decode cX3_fact 89 = .ok (.ireturn, 1) := by decide +kernel
theorem dX3_fact_90 : decode cX3_fact 90 = .ok (.aload_n 0, 1) := by decide +kernel
theorem dX3_fact_91 : decode cX3_fact 91 = .ok (.getfield 34, 3) := by decide +kernel
theorem dX3_fact_94 : decode cX3_fact 94 = .ok (.l2i, 1) := by decide +kernel
theorem dX3_fact_95 : decode cX3_fact 95 = .ok (.ireturn, 1) := by decide +kernel
theorem dX3_fact_96 : decode cX3_fact 96 = .ok (.aload_n 0, 1) := by decide +kernel
theorem dX3_fact_97 : decode cX3_fact 97 = .ok (.getfield 37, 3) := by decide +kernel
theorem dX3_fact_100 : decode cX3_fact 100 = .ok (.l2i, 1) := by decide +kernel
theorem dX3_fact_101 : decode cX3_fact 101 = .ok (.ireturn, 1) := by decide +kernel
theorem dX3_fact_102 : decode cX3_fact 102 = .ok (.aload_n 0, 1) := by decide +kernel
theorem dX3_fact_103 : decode cX3_fact 103 = .ok (.getfield 31, 3) := by decide +kernel
theorem dX3_fact_106 : decode cX3_fact 106 = .ok (.l2i, 1) := by decide +kernel
theorem dX3_fact_107 : decode cX3_fact 107 = .ok (.ireturn, 1) := by decide +kernel
theorem dX3_fact_108 : decode cX3_fact 108 = .ok (.aload_n 0, 1) := by decide +kernel
theorem dX3_fact_109 : decode cX3_fact 109 = .ok (.getfield 40, 3) := by decide +kernel
theorem dX3_fact_112 : decode cX3_fact 112 = .ok (.ireturn, 1) := by decide +kernel
theorem dX3_fact_113 : decode cX3_fact 113 = .ok (.aload_n 0, 1) := by decide +kernel
theorem dX3_fact_114 : decode cX3_fact 114 = .ok (.getfield 44, 3) := by decide +kernel
theorem dX3_fact_117 : decode cX3_fact 117 = .ok (.l2i, 1) := by decide +kernel
theorem dX3_fact_118 : decode cX3_fact 118 = .ok (.ireturn, 1) := by decide +kernel
theorem dX3_fact_119 : decode cX3_fact 119 = .ok (.aload_n 0, 1) := by decide +kernel
theorem dX3_fact_120 : decode cX3_fact 120 = .ok (.getfield 47, 3) := by decide +kernel
theorem dX3_fact_123 : decode cX3_fact 123 = .ok (.ifCond .eq 7, 3) := by decide +kernel
theorem dX3_fact_126 : decode cX3_fact 126 = .ok (.iconst 1, 1) := by decide +kernel
theorem dX3_fact_127 : decode cX3_fact 127 = .ok (.goto 4, 3) := by decide +kernel
theorem dX3_fact_130 : decode cX3_fact 130 = .ok (.iconst 0, 1) := by decide +kernel
theorem dX3_fact_131 : decode cX3_fact 131 = .ok (.ireturn, 1) := by decide +kernel
theorem dX3_fact_132 : decode cX3_fact 132 = .ok (.bipush (-2), 2) := by decide +kernel
theorem dX3_fact_134 : decode cX3_fact 134 = .ok (.ireturn, 1) := by decide +kernel
theorem dX4_init_0 : decode cX4_init 0 = .ok (.aload_n 0, 1) := by decide +kernel
theorem dX4_init_1 : decode cX4_init 1 = .ok (.invokespecial 3, 3) := by decide +kernel
theorem dX4_init_4 : decode cX4_init 4 = .ok (.aload_n 0, 1) := by decide +kernel
theorem dX4_init_5 : decode cX4_init 5 = .ok (.bipush 10, 2) := by decide +kernel
theorem dX4_init_7 : decode cX4_init 7 = .ok (.bipush 6, 2) := by decide +kernel
theorem dX4_init_9 : decode cX4_init 9 = .ok (.multianewarray 11 2, 4) := by decide +kernel
theorem dX4_init_13 : decode cX4_init 13 = .ok (.putfield 13, 3) := by decide +kernel
theorem dX4_init_16 : decode cX4_init 16 = .ok (.aload_n 0, 1) := by decide +kernel
theorem dX4_init_17 : decode cX4_init 17 = .ok (.iconst 0, 1) := by decide +kernel
theorem dX4_init_18 : decode cX4_init 18 = .ok (.invokevirtual 16, 3) := by decide +kernel
theorem dX4_init_21 : decode cX4_init 21 = .ok (.return_, 1) := by decide +kernel
theorem dX4_read_0 : decode cX4_read 0 = .ok (.aload_n 1, 1) := by decide +kernel
theorem dX4_read_1 : decode cX4_read 1 = .ok (.invokevirtual 20, 3) := by decide +kernel
theorem dX4_read_4 : decode cX4_read 4 = .ok (.iconst 0, 1) := by decide +kernel
theorem dX4_read_5 : decode cX4_read 5 = .ok (.istore_n 2, 1) := by decide +kernel
theorem dX4_read_6 : decode cX4_read 6 = .ok (.iload_n 2, 1) := by decide +kernel
theorem dX4_read_7 : decode cX4_read 7 = .ok (.bipush 10, 2) := by decide +kernel
theorem dX4_read_9 : decode cX4_read 9 = .ok (.if_icmp .ge 82, 3) := by decide +kernel
theorem dX4_read_12 : decode cX4_read 12 = .ok (.aload_n 1, 1) := by decide +kernel
theorem dX4_read_13 : decode cX4_read 13 = .ok (.ldc 25, 2) := by decide +kernel
theorem dX4_read_15 : decode cX4_read 15 = .ok (.invokevirtual 27, 3) := by decide +kernel
theorem dX4_read_18 : decode cX4_read 18 = .ok (.ifCond .eq 24, 3) := by decide +kernel
theorem dX4_read_21 : decode cX4_read 21 = .ok (.aload_n 0, 1) := by decide +kernel
theorem dX4_read_22 : decode cX4_read 22 = .ok (.iload_n 2, 1) := by decide +kernel
theorem dX4_read_23 : decode cX4_read 23 = .ok (.invokevirtual 16, 3) := by decide +kernel
theorem dX4_read_26 : decode cX4_read 26 = .ok (.aload_n 1, 1) := by decide +kernel
theorem dX4_read_27 : decode cX4_read 27 = .ok (.invokevirtual 31, 3) := by decide +kernel
theorem dX4_read_30 : decode cX4_read 30 = .ok (.ifCond .eq 7, 3) := by decide +kernel
theorem dX4_read_33 : decode cX4_read 33 = .ok (.iconst (-1), 1) := by decide +kernel
theorem dX4_read_34 : decode cX4_read 34 = .ok (.goto 7, 3) := by decide +kernel
theorem dX4_read_37 : decode cX4_read 37 = .ok (.aload_n 1, 1) := by decide +kernel
theorem dX4_read_38 : decode cX4_read 38 = .ok (.getfield 35, 3) := by decide +kernel
theorem dX4_read_41 : decode cX4_read 41 = .ok (.ireturn, 1) := by decide +kernel
theorem dX4_read_42 : decode cX4_read 42 = .ok (.iload_n 2, 1) := by decide +kernel
theorem dX4_read_43 : decode cX4_read 43 = .ok (.bipush 9, 2) := by decide +kernel
theorem dX4_read_45 : decode cX4_read 45 = .ok (.if_icmp .ge 7, 3) := by decide +kernel
theorem dX4_read_48 : decode cX4_read 48 = .ok (.iconst 1, 1) := by decide +kernel
theorem dX4_read_49 : decode cX4_read 49 = .ok (.goto 4, 3) := by decide +kernel
theorem dX4_read_52 : decode cX4_read 52 = .ok (.iconst 0, 1) := by decide +kernel
theorem dX4_read_53 : decode cX4_read 53 = .ok (.istore_n 3, 1) := by decide +kernel
theorem dX4_read_54 : decode cX4_read 54 = .ok (.iload_n 3, 1) := by decide +kernel
theorem dX4_read_55 : decode cX4_read 55 = .ok (.ifCond .eq 25, 3) := by decide +kernel
theorem dX4_read_58 : decode cX4_read 58 = .ok (.aload_n 1, 1) := by decide +kernel
theorem dX4_read_59 : decode cX4_read 59 = .ok (.aload_n 0, 1) := by decide +kernel
theorem dX4_read_60 : decode cX4_read 60 = .ok (.getfield 13, 3) := by decide +kernel
theorem dX4_read_63 : decode cX4_read 63 = .ok (.iload_n 2, 1) := by decide +kernel
theorem dX4_read_64 : decode cX4_read 64 = .ok (.aaload, 1) := by decide +kernel
theorem dX4_read_65 : decode cX4_read 65 = .ok (.invokestatic 39, 3) := by decide +kernel
theorem dX4_read_68 : decode cX4_read 68 = .ok (.ifCond .eq 12, 3) := by decide +kernel
theorem dX4_read_71 : decode cX4_read 71 = .ok (.aload_n 1, 1) := by decide +kernel
theorem dX4_read_72 : decode cX4_read 72 = .ok (.bipush 59, 2) := by decide +kernel
theorem dX4_read_74 : decode cX4_read 74 = .ok (.invokevirtual 43, 3) := by decide +kernel
theorem dX4_read_77 : decode cX4_read 77 = .ok (.ifCond .ne 8, 3) := by decide +kernel
theorem dX4_read_80 : decode cX4_read 80 = .ok (.aload_n 1, 1) := by decide +kernel
theorem dX4_read_81 : decode cX4_read 81 = .ok (.getfield 35, 3) := by decide +kernel
theorem dX4_read_84 : decode cX4_read 84 = .ok (.ireturn, 1) := by decide +kernel
theorem dX4_read_85 : decode cX4_read 85 = .ok (.iinc 2 1, 3) := by decide +kernel
theorem dX4_read_88 : decode cX4_read 88 = .ok (.goto (-82), 3) := by decide +kernel
theorem dX4_read_91 : decode cX4_read 91 = .ok (.aload_n 1, 1) := by decide +kernel
theorem dX4_read_92 : decode cX4_read 92 = .ok (.getfield 35, 3) := by decide +kernel
theorem dX4_read_95 : decode cX4_read 95 = .ok (.ireturn, 1) := by decide +kernel
theorem dX4_writeRest_0 : decode cX4_writeRest 0 = .ok (.iload_n 1, 1) := by decide +kernel
theorem dX4_writeRest_1 : decode cX4_writeRest 1 = .ok (.ifCond .lt 34, 3) := by decide +kernel
theorem dX4_writeRest_4 : decode cX4_writeRest 4 = .ok (.iload_n 1, 1) := by decide +kernel
theorem dX4_writeRest_5 : decode cX4_writeRest 5 = .ok (.bipush 10, 2) := by decide +kernel
theorem dX4_writeRest_7 : decode cX4_writeRest 7 = .ok (.if_icmp .ge 28, 3) := by decide +kernel
theorem dX4_writeRest_10 : decode cX4_writeRest 10 = .ok (.aload_n 0, 1) := by decide +kernel
theorem dX4_writeRest_11 : decode cX4_writeRest 11 = .ok (.getfield 13, 3) := by decide +kernel
theorem dX4_writeRest_14 : decode cX4_writeRest 14 = .ok (.iload_n 1, 1) := by decide +kernel
theorem dX4_writeRest_15 : decode cX4_writeRest 15 = .ok (.aaload, 1) := by decide +kernel
theorem dX4_writeRest_16 : decode cX4_writeRest 16 = .ok (.invokestatic 47, 3) := by decide +kernel
theorem dX4_writeRest_19 : decode cX4_writeRest 19 = .ok (.aload_n 0, 1) := by decide +kernel
theorem dX4_writeRest_20 : decode cX4_writeRest 20 = .ok (.getfield 13, 3) := by decide +kernel
theorem dX4_writeRest_23 : decode cX4_writeRest 23 = .ok (.iload_n 1, 1) := by decide +kernel
theorem dX4_writeRest_24 : decode cX4_writeRest 24 = .ok (.aaload, 1) := by decide +kernel
theorem dX4_writeRest_25 : decode cX4_writeRest 25 = .ok (.iconst 0, 1) := by decide +kernel
theorem dX4_writeRest_26 : decode cX4_writeRest 26 = .ok (.iconst 5, 1) := by decide +kernel
theorem dX4_writeRest_27 : decode cX4_writeRest 27 = .ok (.iastore, 1) := by decide +kernel
theorem dX4_writeRest_28 : decode cX4_writeRest 28 = .ok (.aload_n 0, 1) := by decide +kernel
theorem dX4_writeRest_29 : decode cX4_writeRest 29 = .ok (.iload_n 1, 1) := by decide +kernel
theorem dX4_writeRest_30 : decode cX4_writeRest 30 = .ok (.iconst 1, 1) := by decide +kernel
theorem dX4_writeRest_31 : decode cX4_writeRest 31 = .ok (.iadd, 1) := by decide +kernel
theorem dX4_writeRest_32 : decode cX4_writeRest 32 = .ok (.putfield 51, 3) := by decide +kernel
theorem dX4_writeRest_35 : decode cX4_writeRest 35 = .ok (.return_, 1) := by decide +kernel
theorem dX4_clear_0 : decode cX4_clear 0 = .ok (.aload_n 0, 1) := by decide +kernel
theorem dX4_clear_1 : decode cX4_clear 1 = .ok (.iconst 1, 1) := by decide +kernel
theorem dX4_clear_2 : decode cX4_clear 2 = .ok (.iconst (-1), 1) := by decide +kernel
theorem dX4_clear_3 : decode cX4_clear 3 = .ok (.iastore, 1) := by decide +kernel
theorem dX4_clear_4 : decode cX4_clear 4 = .ok (.aload_n 0, 1) := by decide +kernel
theorem dX4_clear_5 : decode cX4_clear 5 = .ok (.iconst 2, 1) := by decide +kernel
theorem dX4_clear_6 : decode cX4_clear 6 = .ok (.iconst (-1), 1) := by decide +kernel
theorem dX4_clear_7 : decode cX4_clear 7 = .ok (.iastore, 1) := by decide +kernel
theorem dX4_clear_8 : decode cX4_clear 8 = .ok (.aload_n 0, 1) := by decide +kernel
theorem dX4_clear_9 : decode cX4_clear 9 = .ok (.iconst 3, 1) := by decide +kernel
theorem dX4_clear_10 : decode cX4_clear 10 = .ok (.iconst 0, 1) := by decide +kernel
theorem dX4_clear_11 : decode cX4_clear 11 = .ok (.iastore, 1) := by decide +kernel
theorem dX4_clear_12 : decode cX4_clear 12 = .ok (.aload_n 0, 1) := by decide +kernel
theorem dX4_clear_13 : decode cX4_clear 13 = .ok (.iconst 4, 1) := by decide +kernel
theorem dX4_clear_14 : decode cX4_clear 14 = .ok (.iconst (-1), 1) := by decide +kernel
theorem dX4_clear_15 : decode cX4_clear 15 = .ok (.iastore, 1) := by decide +kernel
theorem dX4_clear_16 : decode cX4_clear 16 = .ok (.aload_n 0, 1) := by decide +kernel
theorem dX4_clear_17 : decode cX4_clear 17 = .ok (.iconst 5, 1) := by decide +kernel
theorem dX4_clear_18 : decode cX4_clear 18 = .ok (.iconst (-1), 1) := by decide +kernel
theorem dX4_clear_19 : decode cX4_clear 19 = .ok (.iastore, 1) := by decide +kernel
theorem dX4_clear_20 : decode cX4_clear 20 = .ok (.return_, 1) := by decide +kernel
theorem dX4_readStep_0 : decode cX4_readStep 0 = .ok (.aload_n 1, 1) := by decide +kernel
theorem dX4_readStep_1 : decode cX4_readStep 1 = .ok (.invokestatic 47, 3) := by decide +kernel
theorem dX4_readStep_4 : decode cX4_readStep 4 = .ok (.aload_n 0, 1) := by decide +kernel
theorem dX4_readStep_5 : decode cX4_readStep 5 = .ok (.ldc 54, 2) := by decide +kernel
theorem dX4_readStep_7 : decode cX4_readStep 7 = .ok (.invokevirtual 56, 3) := by decide +kernel
theorem dX4_readStep_10 : decode cX4_readStep 10 = .ok (.istore_n 2, 1) := by decide +kernel
theorem dX4_readStep_11 : decode cX4_readStep 11 = .ok (.iload_n 2, 1) := by decide +kernel
theorem dX4_readStep_12 : decode cX4_readStep 12 = .ok (.iconst (-1), 1) := by decide +kernel
theorem dX4_readStep_13 : decode cX4_readStep 13 = .ok (.if_icmp .ne 5, 3) := by decide +kernel
theorem dX4_readStep_16 : decode cX4_readStep 16 = .ok (.iconst 0, 1) := by decide +kernel
theorem dX4_readStep_17 : decode cX4_readStep 17 = .ok (.ireturn, 1) := by decide +kernel
theorem dX4_readStep_18 : decode cX4_readStep 18 = .ok (.aload_n 1, 1) := by decide +kernel
theorem dX4_readStep_19 : decode cX4_readStep 19 = .ok (.iconst 0, 1) := by decide +kernel
theorem dX4_readStep_20 : decode cX4_readStep 20 = .ok (.iload_n 2, 1) := by decide +kernel
theorem dX4_readStep_21 : decode cX4_readStep 21 = .ok (.iastore, 1) := by decide +kernel
theorem dX4_readStep_22 : decode cX4_readStep 22 = .ok (.aload_n 0, 1) := by decide +kernel
theorem dX4_readStep_23 : decode cX4_readStep 23 = .ok (.invokevirtual 60, 3) := by decide +kernel
theorem dX4_readStep_26 : decode cX4_readStep 26 = .ok (.iload_n 2, 1) := by decide +kernel
theorem dX4_readStep_27 : decode cX4_readStep 27 = .ok (.iconst 1, 1) := by decide +kernel
theorem dX4_readStep_28 : decode cX4_readStep 28 = .ok (.if_icmp .eq 13, 3) := by decide +kernel
theorem dX4_readStep_31 : decode cX4_readStep 31 = .ok (.iload_n 2, 1) := by decide +kernel
theorem dX4_readStep_32 : decode cX4_readStep 32 = .ok (.iconst 2, 1) := by decide +kernel
theorem dX4_readStep_33 : decode cX4_readStep 33 = .ok (.if_icmp .eq 8, 3) := by decide +kernel
theorem dX4_readStep_36 : decode cX4_readStep 36 = .ok (.iload_n 2, 1) := by decide +kernel
theorem dX4_readStep_37 : decode cX4_readStep 37 = .ok (.iconst 3, 1) := by decide +kernel
theorem dX4_readStep_38 : decode cX4_readStep 38 = .ok (.if_icmp .ne 7, 3) := by decide +kernel
theorem dX4_readStep_41 : decode cX4_readStep 41 = .ok (.iconst 1, 1) := by decide +kernel
theorem dX4_readStep_42 : decode cX4_readStep 42 = .ok (.goto 4, 3) := by decide +kernel
theorem dX4_readStep_45 : decode cX4_readStep 45 = .ok (.iconst 0, 1) := by decide +kernel
theorem dX4_readStep_46 : decode cX4_readStep 46 = .ok (.istore_n 3, 1) := by decide +kernel
theorem dX4_readStep_47 : decode cX4_readStep 47 = .ok (.iload_n 2, 1) := by decide +kernel
theorem dX4_readStep_48 : decode cX4_readStep 48 = .ok (.ifCond .eq 13, 3) := by decide +kernel
theorem dX4_readStep_51 : decode cX4_readStep 51 = .ok (.iload_n 2, 1) := by decide +kernel
theorem dX4_readStep_52 : decode cX4_readStep 52 = .ok (.iconst 3, 1) := by decide +kernel
theorem dX4_readStep_53 : decode cX4_readStep 53 = .ok (.if_icmp .eq 8, 3) := by decide +kernel
theorem dX4_readStep_56 : decode cX4_readStep 56 = .ok (.iload_n 2, 1) := by decide +kernel
theorem dX4_readStep_57 : decode cX4_readStep 57 = .ok (.iconst 4, 1) := by decide +kernel
theorem dX4_readStep_58 : decode cX4_readStep 58 = .ok (.if_icmp .ne 7, 3) := by decide +kernel
theorem dX4_readStep_61 : decode cX4_readStep 61 = .ok (.iconst 1, 1) := by decide +kernel
theorem dX4_readStep_62 : decode cX4_readStep 62 = .ok (.goto 4, 3) := by decide +kernel
theorem dX4_readStep_65 : decode cX4_readStep 65 = .ok (.iconst 0, 1) := by decide +kernel
theorem dX4_readStep_66 : decode cX4_readStep 66 = .ok (.istore 4, 2) := by decide +kernel
theorem dX4_readStep_68 : decode cX4_readStep 68 = .ok (.iload_n 3, 1) := by decide +kernel
theorem dX4_readStep_69 : decode cX4_readStep 69 = .ok (.ifCond .eq 16, 3) := by decide +kernel
theorem dX4_readStep_72 : decode cX4_readStep 72 = .ok (.aload_n 0, 1) := by decide +kernel
theorem dX4_readStep_73 : decode cX4_readStep 73 = .ok (.ldc 63, 2) := by decide +kernel
theorem dX4_readStep_75 : decode cX4_readStep 75 = .ok (.aload_n 1, 1) := by decide +kernel
theorem dX4_readStep_76 : decode cX4_readStep 76 = .ok (.iconst 1, 1) := by decide +kernel
theorem dX4_readStep_77 : decode cX4_readStep 77 = .ok (.invokestatic 65, 3) := by decide +kernel
theorem dX4_readStep_80 : decode cX4_readStep 80 = .ok (.ifCond .ne 5, 3) := by decide +kernel
theorem dX4_readStep_83 : decode cX4_readStep 83 = .ok (.iconst 0, 1) := by decide +kernel
theorem dX4_readStep_84 : decode cX4_readStep 84 = .ok (.ireturn, 1) := by decide +kernel
theorem dX4_readStep_85 : decode cX4_readStep 85 = .ok (.iload 4, 2) := by decide +kernel
theorem dX4_readStep_87 : decode cX4_readStep 87 = .ok (.ifCond .eq 14, 3) := by decide +kernel
theorem dX4_readStep_90 : decode cX4_readStep 90 = .ok (.aload_n 0, 1) := by decide +kernel
theorem dX4_readStep_91 : decode cX4_readStep 91 = .ok (.aload_n 1, 1) := by decide +kernel
theorem dX4_readStep_92 : decode cX4_readStep 92 = .ok (.iconst 2, 1) := by decide +kernel
theorem dX4_readStep_93 : decode cX4_readStep 93 = .ok (.invokestatic 69, 3) := by decide +kernel
theorem dX4_readStep_96 : decode cX4_readStep 96 = .ok (.ifCond .ne 5, 3) := by decide +kernel
theorem dX4_readStep_99 : decode cX4_readStep 99 = .ok (.iconst 0, 1) := by decide +kernel
theorem dX4_readStep_100 : decode cX4_readStep 100 = .ok (.ireturn, 1) := by decide +kernel
theorem dX4_readStep_101 : decode cX4_readStep 101 = .ok (.aload_n 0, 1) := by decide +kernel
theorem dX4_readStep_102 : decode cX4_readStep 102 = .ok (.ldc 73, 2) := by decide +kernel
theorem dX4_readStep_104 : decode cX4_readStep 104 = .ok (.invokevirtual 27, 3) := by decide +kernel
theorem dX4_readStep_107 : decode cX4_readStep 107 = .ok (.ifCond .eq 11, 3) := by decide +kernel
theorem dX4_readStep_110 : decode cX4_readStep 110 = .ok (.aload_n 0, 1) := by decide +kernel
theorem dX4_readStep_111 : decode cX4_readStep 111 = .ok (.aload_n 1, 1) := by decide +kernel
theorem dX4_readStep_112 : decode cX4_readStep 112 = .ok (.invokestatic 75, 3) := by decide +kernel
theorem dX4_readStep_115 : decode cX4_readStep 115 = .ok (.ifCond .eq 7, 3) := by decide +kernel
theorem dX4_readStep_118 : decode cX4_readStep 118 = .ok (.iconst 1, 1) := by decide +kernel
theorem dX4_readStep_119 : decode cX4_readStep 119 = .ok (.goto 4, 3) := by decide +kernel
theorem dX4_readStep_122 : decode cX4_readStep 122 = .ok (.iconst 0, 1) := by decide +kernel
theorem dX4_readStep_123 : decode cX4_readStep 123 = .ok (.ireturn, 1) := by decide +kernel
theorem dX4_readTest_0 : decode cX4_readTest 0 = .ok (.aload_n 0, 1) := by decide +kernel
theorem dX4_readTest_1 : decode cX4_readTest 1 = .ok (.ldc 78, 2) := by decide +kernel
theorem dX4_readTest_3 : decode cX4_readTest 3 = .ok (.invokevirtual 27, 3) := by decide +kernel
theorem dX4_readTest_6 : decode cX4_readTest 6 = .ok (.ifCond .eq 7, 3) := by decide +kernel
theorem dX4_readTest_9 : decode cX4_readTest 9 = .ok (.iconst 2, 1) := by decide +kernel
theorem dX4_readTest_10 : decode cX4_readTest 10 = .ok (.goto 4, 3) := by decide +kernel
theorem dX4_readTest_13 : decode cX4_readTest 13 = .ok (.iconst 0, 1) := by decide +kernel
theorem dX4_readTest_14 : decode cX4_readTest 14 = .ok (.istore_n 2, 1) := by decide +kernel
theorem dX4_readTest_15 : decode cX4_readTest 15 = .ok (.aload_n 0, 1) := by decide +kernel
theorem dX4_readTest_16 : decode cX4_readTest 16 = .ok (.ldc 80, 2) := by decide +kernel
theorem dX4_readTest_18 : decode cX4_readTest 18 = .ok (.aload_n 1, 1) := by decide +kernel
theorem dX4_readTest_19 : decode cX4_readTest 19 = .ok (.iconst 4, 1) := by decide +kernel
theorem dX4_readTest_20 : decode cX4_readTest 20 = .ok (.invokestatic 65, 3) := by decide +kernel
theorem dX4_readTest_23 : decode cX4_readTest 23 = .ok (.ifCond .ne 5, 3) := by decide +kernel
theorem dX4_readTest_26 : decode cX4_readTest 26 = .ok (.iconst 0, 1) := by decide +kernel
theorem dX4_readTest_27 : decode cX4_readTest 27 = .ok (.ireturn, 1) := by decide +kernel
theorem dX4_readTest_28 : decode cX4_readTest 28 = .ok (.aload_n 0, 1) := by decide +kernel
theorem dX4_readTest_29 : decode cX4_readTest 29 = .ok (.bipush 60, 2) := by decide +kernel
theorem dX4_readTest_31 : decode cX4_readTest 31 = .ok (.invokevirtual 43, 3) := by decide +kernel
theorem dX4_readTest_34 : decode cX4_readTest 34 = .ok (.ifCond .eq 7, 3) := by decide +kernel
theorem dX4_readTest_37 : decode cX4_readTest 37 = .ok (.iconst 1, 1) := by decide +kernel
theorem dX4_readTest_38 : decode cX4_readTest 38 = .ok (.goto 17, 3) := by decide +kernel
theorem dX4_readTest_41 : decode cX4_readTest 41 = .ok (.aload_n 0, 1) := by decide +kernel
theorem dX4_readTest_42 : decode cX4_readTest 42 = .ok (.bipush 61, 2) := by decide +kernel
theorem dX4_readTest_44 : decode cX4_readTest 44 = .ok (.invokevirtual 43, 3) := by decide +kernel
theorem dX4_readTest_47 : decode cX4_readTest 47 = .ok (.ifCond .eq 7, 3) := by decide +kernel
theorem dX4_readTest_50 : decode cX4_readTest 50 = .ok (.iconst 2, 1) := by decide +kernel
theorem dX4_readTest_51 : decode cX4_readTest 51 = .ok (.goto 4, 3) := by decide +kernel
theorem dX4_readTest_54 : decode cX4_readTest 54 = .ok (.iconst (-1), 1) := by decide +kernel
theorem dX4_readTest_55 : decode cX4_readTest 55 = .ok (.istore_n 3, 1) := by decide +kernel
theorem dX4_readTest_56 : decode cX4_readTest 56 = .ok (.iload_n 3, 1) := by decide +kernel
theorem dX4_readTest_57 : decode cX4_readTest 57 = .ok (.iconst (-1), 1) := by decide +kernel
theorem dX4_readTest_58 : decode cX4_readTest 58 = .ok (.if_icmp .ne 5, 3) := by decide +kernel
theorem dX4_readTest_61 : decode cX4_readTest 61 = .ok (.iconst 0, 1) := by decide +kernel
theorem dX4_readTest_62 : decode cX4_readTest 62 = .ok (.ireturn, 1) := by decide +kernel
theorem dX4_readTest_63 : decode cX4_readTest 63 = .ok (.aload_n 1, 1) := by decide +kernel
theorem dX4_readTest_64 : decode cX4_readTest 64 = .ok (.iconst 3, 1) := by decide +kernel
theorem dX4_readTest_65 : decode cX4_readTest 65 = .ok (.iload_n 3, 1) := by decide +kernel
theorem dX4_readTest_66 : decode cX4_readTest 66 = .ok (.iload_n 2, 1) := by decide +kernel
theorem dX4_readTest_67 : decode cX4_readTest 67 = .ok (.iadd, 1) := by decide +kernel
theorem dX4_readTest_68 : decode cX4_readTest 68 = .ok (.iastore, 1) := by decide +kernel
theorem dX4_readTest_69 : decode cX4_readTest 69 = .ok (.aload_n 0, 1) := by decide +kernel
theorem dX4_readTest_70 : decode cX4_readTest 70 = .ok (.aload_n 1, 1) := by decide +kernel
theorem dX4_readTest_71 : decode cX4_readTest 71 = .ok (.iconst 5, 1) := by decide +kernel
theorem dX4_readTest_72 : decode cX4_readTest 72 = .ok (.invokestatic 69, 3) := by decide +kernel
theorem dX4_readTest_75 : decode cX4_readTest 75 = .ok (.ireturn, 1) := by decide +kernel
theorem dX4_readWord_0 : decode cX4_readWord 0 = .ok (.aload_n 0, 1) := by decide +kernel
theorem dX4_readWord_1 : decode cX4_readWord 1 = .ok (.aload_n 1, 1) := by decide +kernel
theorem dX4_readWord_2 : decode cX4_readWord 2 = .ok (.invokevirtual 56, 3) := by decide +kernel
theorem dX4_readWord_5 : decode cX4_readWord 5 = .ok (.istore 4, 2) := by decide +kernel
theorem dX4_readWord_7 : decode cX4_readWord 7 = .ok (.iload 4, 2) := by decide +kernel
theorem dX4_readWord_9 : decode cX4_readWord 9 = .ok (.iconst (-1), 1) := by decide +kernel
theorem dX4_readWord_10 : decode cX4_readWord 10 = .ok (.if_icmp .ne 5, 3) := by decide +kernel
theorem dX4_readWord_13 : decode cX4_readWord 13 = .ok (.iconst 0, 1) := by decide +kernel
theorem dX4_readWord_14 : decode cX4_readWord 14 = .ok (.ireturn, 1) := by decide +kernel
theorem dX4_readWord_15 : decode cX4_readWord 15 = .ok (.aload_n 2, 1) := by decide +kernel
theorem dX4_readWord_16 : decode cX4_readWord 16 = .ok (.iload_n 3, 1) := by decide +kernel
theorem dX4_readWord_17 : decode cX4_readWord 17 = .ok (.iload 4, 2) := by decide +kernel
theorem dX4_readWord_19 : decode cX4_readWord 19 = .ok (.iastore, 1) := by decide +kernel
theorem dX4_readWord_20 : decode cX4_readWord 20 = .ok (.aload_n 0, 1) := by decide +kernel
theorem dX4_readWord_21 : decode cX4_readWord 21 = .ok (.invokevirtual 60, 3) := by decide +kernel
theorem dX4_readWord_24 : decode cX4_readWord 24 = .ok (.iconst 1, 1) := by decide +kernel
theorem dX4_readWord_25 : decode cX4_readWord 25 = .ok (.ireturn, 1) := by decide +kernel
theorem dX4_readNumber_0 : decode cX4_readNumber 0 = .ok (.aload_n 0, 1) := by decide +kernel
theorem dX4_readNumber_1 : decode cX4_readNumber 1 = .ok (.invokevirtual 82, 3) := by decide +kernel
theorem dX4_readNumber_4 : decode cX4_readNumber 4 = .ok (.ifCond .ne 5, 3) := by decide +kernel
theorem dX4_readNumber_7 : decode cX4_readNumber 7 = .ok (.iconst 0, 1) := by decide +kernel
theorem dX4_readNumber_8 : decode cX4_readNumber 8 = .ok (.ireturn, 1) := by decide +kernel
theorem dX4_readNumber_9 : decode cX4_readNumber 9 = .ok (.aload_n 1, 1) := by decide +kernel
theorem dX4_readNumber_10 : decode cX4_readNumber 10 = .ok (.iload_n 2, 1) := by decide +kernel
theorem dX4_readNumber_11 : decode cX4_readNumber 11 = .ok (.aload_n 0, 1) := by decide +kernel
theorem dX4_readNumber_12 : decode cX4_readNumber 12 = .ok (.getfield 85, 3) := by decide +kernel
theorem dX4_readNumber_15 : decode cX4_readNumber 15 = .ok (.iastore, 1) := by decide +kernel
theorem dX4_readNumber_16 : decode cX4_readNumber 16 = .ok (.aload_n 0, 1) := by decide +kernel
theorem dX4_readNumber_17 : decode cX4_readNumber 17 = .ok (.invokevirtual 60, 3) := by decide +kernel
theorem dX4_readNumber_20 : decode cX4_readNumber 20 = .ok (.iconst 1, 1) := by decide +kernel
theorem dX4_readNumber_21 : decode cX4_readNumber 21 = .ok (.ireturn, 1) := by decide +kernel
theorem dX5_init_0 : decode cX5_init 0 = .ok (.aload_n 0, 1) := by decide +kernel
theorem dX5_init_1 : decode cX5_init 1 = .ok (.invokespecial 1, 3) := by decide +kernel
theorem dX5_init_4 : decode cX5_init 4 = .ok (.return_, 1) := by decide +kernel
theorem dX5_open_0 : decode cX5_open 0 = .ok (.aload_n 0, 1) := by decide +kernel
theorem dX5_open_1 : decode cX5_open 1 = .ok (.iload_n 2, 1) := by decide +kernel
theorem dX5_open_2 : decode cX5_open 2 = .ok (.putfield 7, 3) := by decide +kernel
theorem dX5_open_5 : decode cX5_open 5 = .ok (.aload_n 0, 1) := by decide +kernel
theorem dX5_open_6 : decode cX5_open 6 = .ok (.iload_n 1, 1) := by decide +kernel
theorem dX5_open_7 : decode cX5_open 7 = .ok (.i2l, 1) := by decide +kernel
theorem dX5_open_8 : decode cX5_open 8 = .ok (.putfield 13, 3) := by decide +kernel
theorem dX5_open_11 : decode cX5_open 11 = .ok (.aload_n 0, 1) := by decide +kernel
theorem dX5_open_12 : decode cX5_open 12 = .ok (.invokevirtual 17, 3) := by decide +kernel
theorem dX5_open_15 : decode cX5_open 15 = .ok (.return_, 1) := by decide +kernel
theorem dX5_restart_0 : decode cX5_restart 0 = .ok (.aload_n 0, 1) := by decide +kernel
theorem dX5_restart_1 : decode cX5_restart 1 = .ok (.aload_n 0, 1) := by decide +kernel
theorem dX5_restart_2 : decode cX5_restart 2 = .ok (.getfield 13, 3) := by decide +kernel
theorem dX5_restart_5 : decode cX5_restart 5 = .ok (.putfield 20, 3) := by decide +kernel
theorem dX5_restart_8 : decode cX5_restart 8 = .ok (.aload_n 0, 1) := by decide +kernel
theorem dX5_restart_9 : decode cX5_restart 9 = .ok (.lconst 0, 1) := by decide +kernel
theorem dX5_restart_10 : decode cX5_restart 10 = .ok (.putfield 23, 3) := by decide +kernel
theorem dX5_restart_13 : decode cX5_restart 13 = .ok (.aload_n 0, 1) := by decide +kernel
theorem dX5_restart_14 : decode cX5_restart 14 = .ok (.lconst 0, 1) := by decide +kernel
theorem dX5_restart_15 : decode cX5_restart 15 = .ok (.putfield 26, 3) := by decide +kernel
theorem dX5_restart_18 : decode cX5_restart 18 = .ok (.aload_n 0, 1) := by decide +kernel
theorem dX5_restart_19 : decode cX5_restart 19 = .ok (.lconst 0, 1) := by decide +kernel
theorem dX5_restart_20 : decode cX5_restart 20 = .ok (.putfield 29, 3) := by decide +kernel
theorem dX5_restart_23 : decode cX5_restart 23 = .ok (.aload_n 0, 1) := by decide +kernel
theorem dX5_restart_24 : decode cX5_restart 24 = .ok (.lconst 0, 1) := by decide +kernel
theorem dX5_restart_25 : decode cX5_restart 25 = .ok (.putfield 32, 3) := by decide +kernel
theorem dX5_restart_28 : decode cX5_restart 28 = .ok (.aload_n 0, 1) := by decide +kernel
theorem dX5_restart_29 : decode cX5_restart 29 = .ok (.lconst 0, 1) := by decide +kernel
theorem dX5_restart_30 : decode cX5_restart 30 = .ok (.putfield 35, 3) := by decide +kernel
theorem dX5_restart_33 : decode cX5_restart 33 = .ok (.aload_n 0, 1) := by decide +kernel
theorem dX5_restart_34 : decode cX5_restart 34 = .ok (.lconst 0, 1) := by decide +kernel
theorem dX5_restart_35 : decode cX5_restart 35 = .ok (.putfield 38, 3) := by decide +kernel
theorem dX5_restart_38 : decode cX5_restart 38 = .ok (.return_, 1) := by decide +kernel
theorem dX5_copy_0 : decode cX5_copy 0 = .ok (.aload_n 0, 1) := by decide +kernel
theorem dX5_copy_1 : decode cX5_copy 1 = .ok (.aload_n 1, 1) := by decide +kernel
theorem dX5_copy_2 : decode cX5_copy 2 = .ok (.getfield 7, 3) := by decide +kernel
theorem dX5_copy_5 : decode cX5_copy 5 = .ok (.putfield 7, 3) := by decide +kernel
theorem dX5_copy_8 : decode cX5_copy 8 = .ok (.aload_n 0, 1) := by decide +kernel
theorem dX5_copy_9 : decode cX5_copy 9 = .ok (.aload_n 1, 1) := by decide +kernel
theorem dX5_copy_10 : decode cX5_copy 10 = .ok (.getfield 13, 3) := by decide +kernel
theorem dX5_copy_13 : decode cX5_copy 13 = .ok (.putfield 13, 3) := by decide +kernel
theorem dX5_copy_16 : decode cX5_copy 16 = .ok (.aload_n 0, 1) := by decide +kernel
theorem dX5_copy_17 : decode cX5_copy 17 = .ok (.aload_n 1, 1) := by decide +kernel
theorem dX5_copy_18 : decode cX5_copy 18 = .ok (.getfield 20, 3) := by decide +kernel
theorem dX5_copy_21 : decode cX5_copy 21 = .ok (.putfield 20, 3) := by decide +kernel
theorem dX5_copy_24 : decode cX5_copy 24 = .ok (.aload_n 0, 1) := by decide +kernel
theorem dX5_copy_25 : decode cX5_copy 25 = .ok (.aload_n 1, 1) := by decide +kernel
theorem dX5_copy_26 : decode cX5_copy 26 = .ok (.getfield 23, 3) := by decide +kernel
theorem dX5_copy_29 : decode cX5_copy 29 = .ok (.putfield 23, 3) := by decide +kernel
theorem dX5_copy_32 : decode cX5_copy 32 = .ok (.aload_n 0, 1) := by decide +kernel
theorem dX5_copy_33 : decode cX5_copy 33 = .ok (.aload_n 1, 1) := by decide +kernel
theorem dX5_copy_34 : decode cX5_copy 34 = .ok (.getfield 26, 3) := by decide +kernel
theorem dX5_copy_37 : decode cX5_copy 37 = .ok (.putfield 26, 3) := by decide +kernel
theorem dX5_copy_40 : decode cX5_copy 40 = .ok (.aload_n 0, 1) := by decide +kernel
theorem dX5_copy_41 : decode cX5_copy 41 = .ok (.aload_n 1, 1) := by decide +kernel
theorem dX5_copy_42 : decode cX5_copy 42 = .ok (.getfield 29, 3) := by decide +kernel
theorem dX5_copy_45 : decode cX5_copy 45 = .ok (.putfield 29, 3) := by decide +kernel
theorem dX5_copy_48 : decode cX5_copy 48 = .ok (.aload_n 0, 1) := by decide +kernel
theorem dX5_copy_49 : decode cX5_copy 49 = .ok (.aload_n 1, 1) := by decide +kernel
theorem dX5_copy_50 : decode cX5_copy 50 = .ok (.getfield 32, 3) := by decide +kernel
theorem dX5_copy_53 : decode cX5_copy 53 = .ok (.putfield 32, 3) := by decide +kernel
theorem dX5_copy_56 : decode cX5_copy 56 = .ok (.aload_n 0, 1) := by decide +kernel
theorem dX5_copy_57 : decode cX5_copy 57 = .ok (.aload_n 1, 1) := by decide +kernel
theorem dX5_copy_58 : decode cX5_copy 58 = .ok (.getfield 35, 3) := by decide +kernel
theorem dX5_copy_61 : decode cX5_copy 61 = .ok (.putfield 35, 3) := by decide +kernel
theorem dX5_copy_64 : decode cX5_copy 64 = .ok (.aload_n 0, 1) := by decide +kernel
theorem dX5_copy_65 : decode cX5_copy 65 = .ok (.aload_n 1, 1) := by decide +kernel
theorem dX5_copy_66 : decode cX5_copy 66 = .ok (.getfield 38, 3) := by decide +kernel
theorem dX5_copy_69 : decode cX5_copy 69 = .ok (.putfield 38, 3) := by decide +kernel
theorem dX5_copy_72 : decode cX5_copy 72 = .ok (.return_, 1) := by decide +kernel
theorem dX5_got_0 : decode cX5_got 0 = .ok (.aload_n 0, 1) := by decide +kernel
theorem dX5_got_1 : decode cX5_got 1 = .ok (.getfield 26, 3) := by decide +kernel
theorem dX5_got_4 : decode cX5_got 4 = .ok (.aload_n 0, 1) := by decide +kernel
theorem dX5_got_5 : decode cX5_got 5 = .ok (.getfield 29, 3) := by decide +kernel
theorem dX5_got_8 : decode cX5_got 8 = .ok (.ladd, 1) := by decide +kernel
theorem dX5_got_9 : decode cX5_got 9 = .ok (.lreturn, 1) := by decide +kernel
theorem dX5_begin_0 : decode cX5_begin 0 = .ok (.aload_n 0, 1) := by decide +kernel
theorem dX5_begin_1 : decode cX5_begin 1 = .ok (.aload_n 0, 1) := by decide +kernel
theorem dX5_begin_2 : decode cX5_begin 2 = .ok (.getfield 20, 3) := by decide +kernel
theorem dX5_begin_5 : decode cX5_begin 5 = .ok (.aload_n 0, 1) := by decide +kernel
theorem dX5_begin_6 : decode cX5_begin 6 = .ok (.getfield 7, 3) := by decide +kernel
theorem dX5_begin_9 : decode cX5_begin 9 = .ok (.i2l, 1) := by decide +kernel
theorem dX5_begin_10 : decode cX5_begin 10 = .ok (.lmul, 1) := by decide +kernel
theorem dX5_begin_11 : decode cX5_begin 11 = .ok (.ldc2_w 41, 3) := by decide +kernel
theorem dX5_begin_14 : decode cX5_begin 14 = .ok (.ldiv, 1) := by decide +kernel
theorem dX5_begin_15 : decode cX5_begin 15 = .ok (.aload_n 0, 1) := by decide +kernel
theorem dX5_begin_16 : decode cX5_begin 16 = .ok (.getfield 23, 3) := by decide +kernel
theorem dX5_begin_19 : decode cX5_begin 19 = .ok (.ladd, 1) := by decide +kernel
theorem dX5_begin_20 : decode cX5_begin 20 = .ok (.putfield 38, 3) := by decide +kernel
theorem dX5_begin_23 : decode cX5_begin 23 = .ok (.return_, 1) := by decide +kernel
theorem dX5_end_0 : decode cX5_end 0 = .ok (.aload_n 0, 1) := by decide +kernel
theorem dX5_end_1 : decode cX5_end 1 = .ok (.aload_n 0, 1) := by decide +kernel
theorem dX5_end_2 : decode cX5_end 2 = .ok (.getfield 38, 3) := by decide +kernel
theorem dX5_end_5 : decode cX5_end 5 = .ok (.putfield 23, 3) := by decide +kernel
theorem dX5_end_8 : decode cX5_end 8 = .ok (.return_, 1) := by decide +kernel
theorem dX5_payInterest_0 : decode cX5_payInterest 0 = .ok (.aload_n 0, 1) := by decide +kernel
theorem dX5_payInterest_1 : decode cX5_payInterest 1 = .ok (.dup, 1) := by decide +kernel
theorem dX5_payInterest_2 : decode cX5_payInterest 2 = .ok (.getfield 38, 3) := by decide +kernel
theorem dX5_payInterest_5 : decode cX5_payInterest 5 = .ok (.lload_n 1, 1) := by decide +kernel
theorem dX5_payInterest_6 : decode cX5_payInterest 6 = .ok (.lsub, 1) := by decide +kernel
theorem dX5_payInterest_7 : decode cX5_payInterest 7 = .ok (.putfield 38, 3) := by decide +kernel
theorem dX5_payInterest_10 : decode cX5_payInterest 10 = .ok (.aload_n 0, 1) := by decide +kernel
theorem dX5_payInterest_11 : decode cX5_payInterest 11 = .ok (.dup, 1) := by decide +kernel
theorem dX5_payInterest_12 : decode cX5_payInterest 12 = .ok (.getfield 26, 3) := by decide +kernel
theorem dX5_payInterest_15 : decode cX5_payInterest 15 = .ok (.lload_n 1, 1) := by decide +kernel
theorem dX5_payInterest_16 : decode cX5_payInterest 16 = .ok (.ladd, 1) := by decide +kernel
theorem dX5_payInterest_17 : decode cX5_payInterest 17 = .ok (.putfield 26, 3) := by decide +kernel
theorem dX5_payInterest_20 : decode cX5_payInterest 20 = .ok (.return_, 1) := by decide +kernel
theorem dX5_payPrincipal_0 : decode cX5_payPrincipal 0 = .ok (.aload_n 0, 1) := by decide +kernel
theorem dX5_payPrincipal_1 : decode cX5_payPrincipal 1 = .ok (.dup, 1) := by decide +kernel
theorem dX5_payPrincipal_2 : decode cX5_payPrincipal 2 = .ok (.getfield 20, 3) := by decide +kernel
theorem dX5_payPrincipal_5 : decode cX5_payPrincipal 5 = .ok (.lload_n 1, 1) := by decide +kernel
theorem dX5_payPrincipal_6 : decode cX5_payPrincipal 6 = .ok (.lsub, 1) := by decide +kernel
theorem dX5_payPrincipal_7 : decode cX5_payPrincipal 7 = .ok (.putfield 20, 3) := by decide +kernel
theorem dX5_payPrincipal_10 : decode cX5_payPrincipal 10 = .ok (.aload_n 0, 1) := by decide +kernel
theorem dX5_payPrincipal_11 : decode cX5_payPrincipal 11 = .ok (.dup, 1) := by decide +kernel
theorem dX5_payPrincipal_12 : decode cX5_payPrincipal 12 = .ok (.getfield 29, 3) := by decide +kernel
theorem dX5_payPrincipal_15 : decode cX5_payPrincipal 15 = .ok (.lload_n 1, 1) := by decide +kernel
theorem dX5_payPrincipal_16 : decode cX5_payPrincipal 16 = .ok (.ladd, 1) := by decide +kernel
theorem dX5_payPrincipal_17 : decode cX5_payPrincipal 17 = .ok (.putfield 29, 3) := by decide +kernel
theorem dX5_payPrincipal_20 : decode cX5_payPrincipal 20 = .ok (.aload_n 0, 1) := by decide +kernel
theorem dX5_payPrincipal_21 : decode cX5_payPrincipal 21 = .ok (.dup, 1) := by decide +kernel
theorem dX5_payPrincipal_22 : decode cX5_payPrincipal 22 = .ok (.getfield 35, 3) := by decide +kernel
theorem dX5_payPrincipal_25 : decode cX5_payPrincipal 25 = .ok (.lload_n 1, 1) := by decide +kernel
theorem dX5_payPrincipal_26 : decode cX5_payPrincipal 26 = .ok (.iload_n 3, 1) := by decide +kernel
theorem dX5_payPrincipal_27 : decode cX5_payPrincipal 27 = .ok (.i2l, 1) := by decide +kernel
theorem dX5_payPrincipal_28 : decode cX5_payPrincipal 28 = .ok (.lmul, 1) := by decide +kernel
theorem dX5_payPrincipal_29 : decode cX5_payPrincipal 29 = .ok (.ladd, 1) := by decide +kernel
theorem dX5_payPrincipal_30 : decode cX5_payPrincipal 30 = .ok (.putfield 35, 3) := by decide +kernel
theorem dX5_payPrincipal_33 : decode cX5_payPrincipal 33 = .ok (.return_, 1) := by decide +kernel
theorem dX5_writeDown_0 : decode cX5_writeDown 0 = .ok (.aload_n 0, 1) := by decide +kernel
theorem dX5_writeDown_1 : decode cX5_writeDown 1 = .ok (.dup, 1) := by decide +kernel
theorem dX5_writeDown_2 : decode cX5_writeDown 2 = .ok (.getfield 20, 3) := by decide +kernel
theorem dX5_writeDown_5 : decode cX5_writeDown 5 = .ok (.lload_n 1, 1) := by decide +kernel
theorem dX5_writeDown_6 : decode cX5_writeDown 6 = .ok (.lsub, 1) := by decide +kernel
theorem dX5_writeDown_7 : decode cX5_writeDown 7 = .ok (.putfield 20, 3) := by decide +kernel
theorem dX5_writeDown_10 : decode cX5_writeDown 10 = .ok (.aload_n 0, 1) := by decide +kernel
theorem dX5_writeDown_11 : decode cX5_writeDown 11 = .ok (.dup, 1) := by decide +kernel
theorem dX5_writeDown_12 : decode cX5_writeDown 12 = .ok (.getfield 32, 3) := by decide +kernel
theorem dX5_writeDown_15 : decode cX5_writeDown 15 = .ok (.lload_n 1, 1) := by decide +kernel
theorem dX5_writeDown_16 : decode cX5_writeDown 16 = .ok (.ladd, 1) := by decide +kernel
theorem dX5_writeDown_17 : decode cX5_writeDown 17 = .ok (.putfield 32, 3) := by decide +kernel
theorem dX5_writeDown_20 : decode cX5_writeDown 20 = .ok (.return_, 1) := by decide +kernel
theorem dX6_init_0 : decode cX6_init 0 = .ok (.aload_n 0, 1) := by decide +kernel
theorem dX6_init_1 : decode cX6_init 1 = .ok (.invokespecial 3, 3) := by decide +kernel
theorem dX6_init_4 : decode cX6_init 4 = .ok (.aload_n 0, 1) := by decide +kernel
theorem dX6_init_5 : decode cX6_init 5 = .ok (.bipush 12, 2) := by decide +kernel
theorem dX6_init_7 : decode cX6_init 7 = .ok (.anewarray 9, 3) := by decide +kernel
theorem dX6_init_10 : decode cX6_init 10 = .ok (.putfield 11, 3) := by decide +kernel
theorem dX6_init_13 : decode cX6_init 13 = .ok (.aload_n 0, 1) := by decide +kernel
theorem dX6_init_14 : decode cX6_init 14 = .ok (.bipush 50, 2) := by decide +kernel
theorem dX6_init_16 : decode cX6_init 16 = .ok (.putfield 17, 3) := by decide +kernel
theorem dX6_init_19 : decode cX6_init 19 = .ok (.iconst 0, 1) := by decide +kernel
theorem dX6_init_20 : decode cX6_init 20 = .ok (.istore_n 1, 1) := by decide +kernel
theorem dX6_init_21 : decode cX6_init 21 = .ok (.iload_n 1, 1) := by decide +kernel
theorem dX6_init_22 : decode cX6_init 22 = .ok (.aload_n 0, 1) := by decide +kernel
theorem dX6_init_23 : decode cX6_init 23 = .ok (.getfield 11, 3) := by decide +kernel
theorem dX6_init_26 : decode cX6_init 26 = .ok (.arraylength, 1) := by decide +kernel
theorem dX6_init_27 : decode cX6_init 27 = .ok (.if_icmp .ge 22, 3) := by decide +kernel
theorem dX6_init_30 : decode cX6_init 30 = .ok (.aload_n 0, 1) := by decide +kernel
theorem dX6_init_31 : decode cX6_init 31 = .ok (.getfield 11, 3) := by decide +kernel
theorem dX6_init_34 : decode cX6_init 34 = .ok (.iload_n 1, 1) := by decide +kernel
theorem dX6_init_35 : decode cX6_init 35 = .ok (.new 9, 3) := by decide +kernel
theorem dX6_init_38 : decode cX6_init 38 = .ok (.dup, 1) := by decide +kernel
theorem dX6_init_39 : decode cX6_init 39 = .ok (.invokespecial 21, 3) := by decide +kernel
theorem dX6_init_42 : decode cX6_init 42 = .ok (.aastore, 1) := by decide +kernel
theorem dX6_init_43 : decode cX6_init 43 = .ok (.iinc 1 1, 3) := by decide +kernel
theorem dX6_init_46 : decode cX6_init 46 = .ok (.goto (-25), 3) := by decide +kernel
theorem dX6_init_49 : decode cX6_init 49 = .ok (.return_, 1) := by decide +kernel
theorem dX6_copy_0 : decode cX6_copy 0 = .ok (.iconst 0, 1) := by decide +kernel
theorem dX6_copy_1 : decode cX6_copy 1 = .ok (.istore_n 2, 1) := by decide +kernel
theorem dX6_copy_2 : decode cX6_copy 2 = .ok (.iload_n 2, 1) := by decide +kernel
theorem dX6_copy_3 : decode cX6_copy 3 = .ok (.aload_n 0, 1) := by decide +kernel
theorem dX6_copy_4 : decode cX6_copy 4 = .ok (.getfield 11, 3) := by decide +kernel
theorem dX6_copy_7 : decode cX6_copy 7 = .ok (.arraylength, 1) := by decide +kernel
theorem dX6_copy_8 : decode cX6_copy 8 = .ok (.if_icmp .ge 24, 3) := by decide +kernel
theorem dX6_copy_11 : decode cX6_copy 11 = .ok (.aload_n 0, 1) := by decide +kernel
theorem dX6_copy_12 : decode cX6_copy 12 = .ok (.getfield 11, 3) := by decide +kernel
theorem dX6_copy_15 : decode cX6_copy 15 = .ok (.iload_n 2, 1) := by decide +kernel
theorem dX6_copy_16 : decode cX6_copy 16 = .ok (.aaload, 1) := by decide +kernel
theorem dX6_copy_17 : decode cX6_copy 17 = .ok (.aload_n 1, 1) := by decide +kernel
theorem dX6_copy_18 : decode cX6_copy 18 = .ok (.getfield 11, 3) := by decide +kernel
theorem dX6_copy_21 : decode cX6_copy 21 = .ok (.iload_n 2, 1) := by decide +kernel
theorem dX6_copy_22 : decode cX6_copy 22 = .ok (.aaload, 1) := by decide +kernel
theorem dX6_copy_23 : decode cX6_copy 23 = .ok (.invokevirtual 22, 3) := by decide +kernel
theorem dX6_copy_26 : decode cX6_copy 26 = .ok (.iinc 2 1, 3) := by decide +kernel
theorem dX6_copy_29 : decode cX6_copy 29 = .ok (.goto (-27), 3) := by decide +kernel
theorem dX6_copy_32 : decode cX6_copy 32 = .ok (.aload_n 0, 1) := by decide +kernel
theorem dX6_copy_33 : decode cX6_copy 33 = .ok (.aload_n 1, 1) := by decide +kernel
theorem dX6_copy_34 : decode cX6_copy 34 = .ok (.getfield 26, 3) := by decide +kernel
theorem dX6_copy_37 : decode cX6_copy 37 = .ok (.putfield 26, 3) := by decide +kernel
theorem dX6_copy_40 : decode cX6_copy 40 = .ok (.aload_n 0, 1) := by decide +kernel
theorem dX6_copy_41 : decode cX6_copy 41 = .ok (.aload_n 1, 1) := by decide +kernel
theorem dX6_copy_42 : decode cX6_copy 42 = .ok (.getfield 29, 3) := by decide +kernel
theorem dX6_copy_45 : decode cX6_copy 45 = .ok (.putfield 29, 3) := by decide +kernel
theorem dX6_copy_48 : decode cX6_copy 48 = .ok (.aload_n 0, 1) := by decide +kernel
theorem dX6_copy_49 : decode cX6_copy 49 = .ok (.aload_n 1, 1) := by decide +kernel
theorem dX6_copy_50 : decode cX6_copy 50 = .ok (.getfield 17, 3) := by decide +kernel
theorem dX6_copy_53 : decode cX6_copy 53 = .ok (.putfield 17, 3) := by decide +kernel
theorem dX6_copy_56 : decode cX6_copy 56 = .ok (.aload_n 0, 1) := by decide +kernel
theorem dX6_copy_57 : decode cX6_copy 57 = .ok (.aload_n 1, 1) := by decide +kernel
theorem dX6_copy_58 : decode cX6_copy 58 = .ok (.getfield 32, 3) := by decide +kernel
theorem dX6_copy_61 : decode cX6_copy 61 = .ok (.putfield 32, 3) := by decide +kernel
theorem dX6_copy_64 : decode cX6_copy 64 = .ok (.aload_n 0, 1) := by decide +kernel
theorem dX6_copy_65 : decode cX6_copy 65 = .ok (.aload_n 1, 1) := by decide +kernel
theorem dX6_copy_66 : decode cX6_copy 66 = .ok (.getfield 36, 3) := by decide +kernel
theorem dX6_copy_69 : decode cX6_copy 69 = .ok (.putfield 36, 3) := by decide +kernel
theorem dX6_copy_72 : decode cX6_copy 72 = .ok (.aload_n 0, 1) := by decide +kernel
theorem dX6_copy_73 : decode cX6_copy 73 = .ok (.aload_n 1, 1) := by decide +kernel
theorem dX6_copy_74 : decode cX6_copy 74 = .ok (.getfield 40, 3) := by decide +kernel
theorem dX6_copy_77 : decode cX6_copy 77 = .ok (.putfield 40, 3) := by decide +kernel
theorem dX6_copy_80 : decode cX6_copy 80 = .ok (.return_, 1) := by decide +kernel
theorem dX6_balances_0 : decode cX6_balances 0 = .ok (.lconst 0, 1) := by decide +kernel
theorem dX6_balances_1 : decode cX6_balances 1 = .ok (.lstore_n 1, 1) := by decide +kernel
theorem dX6_balances_2 : decode cX6_balances 2 = .ok (.iconst 0, 1) := by decide +kernel
theorem dX6_balances_3 : decode cX6_balances 3 = .ok (.istore_n 3, 1) := by decide +kernel
theorem dX6_balances_4 : decode cX6_balances 4 = .ok (.iload_n 3, 1) := by decide +kernel
theorem dX6_balances_5 : decode cX6_balances 5 = .ok (.aload_n 0, 1) := by decide +kernel
theorem dX6_balances_6 : decode cX6_balances 6 = .ok (.getfield 26, 3) := by decide +kernel
theorem dX6_balances_9 : decode cX6_balances 9 = .ok (.if_icmp .ge 37, 3) := by decide +kernel
theorem dX6_balances_12 : decode cX6_balances 12 = .ok (.lload_n 1, 1) := by decide +kernel
theorem dX6_balances_13 : decode cX6_balances 13 = .ok (.aload_n 0, 1) := by decide +kernel
theorem dX6_balances_14 : decode cX6_balances 14 = .ok (.getfield 11, 3) := by decide +kernel
theorem dX6_balances_17 : decode cX6_balances 17 = .ok (.iload_n 3, 1) := by decide +kernel
theorem dX6_balances_18 : decode cX6_balances 18 = .ok (.aaload, 1) := by decide +kernel
theorem dX6_balances_19 : decode cX6_balances 19 = .ok (.invokevirtual 44, 3) := by decide +kernel
theorem dX6_balances_22 : decode cX6_balances 22 = .ok (.ifCond .eq 15, 3) := by decide +kernel
theorem dX6_balances_25 : decode cX6_balances 25 = .ok (.aload_n 0, 1) := by decide +kernel
theorem dX6_balances_26 : decode cX6_balances 26 = .ok (.getfield 11, 3) := by decide +kernel
theorem dX6_balances_29 : decode cX6_balances 29 = .ok (.iload_n 3, 1) := by decide +kernel
theorem dX6_balances_30 : decode cX6_balances 30 = .ok (.aaload, 1) := by decide +kernel
theorem dX6_balances_31 : decode cX6_balances 31 = .ok (.getfield 48, 3) := by decide +kernel
theorem dX6_balances_34 : decode cX6_balances 34 = .ok (.goto 4, 3) := by decide +kernel
theorem dX6_balances_37 : decode cX6_balances 37 = .ok (.lconst 0, 1) := by decide +kernel
theorem dX6_balances_38 : decode cX6_balances 38 = .ok (.ladd, 1) := by decide +kernel
theorem dX6_balances_39 : decode cX6_balances 39 = .ok (.lstore_n 1, 1) := by decide +kernel
theorem dX6_balances_40 : decode cX6_balances 40 = .ok (.iinc 3 1, 3) := by decide +kernel
theorem dX6_balances_43 : decode cX6_balances 43 = .ok (.goto (-39), 3) := by decide +kernel
theorem dX6_balances_46 : decode cX6_balances 46 = .ok (.lload_n 1, 1) := by decide +kernel
theorem dX6_balances_47 : decode cX6_balances 47 = .ok (.lreturn, 1) := by decide +kernel
theorem dX6_late_0 : decode cX6_late 0 = .ok (.iconst 0, 1) := by decide +kernel
theorem dX6_late_1 : decode cX6_late 1 = .ok (.istore_n 1, 1) := by decide +kernel
theorem dX6_late_2 : decode cX6_late 2 = .ok (.iconst 0, 1) := by decide +kernel
theorem dX6_late_3 : decode cX6_late 3 = .ok (.istore_n 2, 1) := by decide +kernel
theorem dX6_late_4 : decode cX6_late 4 = .ok (.iload_n 2, 1) := by decide +kernel
theorem dX6_late_5 : decode cX6_late 5 = .ok (.aload_n 0, 1) := by decide +kernel
theorem dX6_late_6 : decode cX6_late 6 = .ok (.getfield 26, 3) := by decide +kernel
theorem dX6_late_9 : decode cX6_late 9 = .ok (.if_icmp .ge 30, 3) := by decide +kernel
theorem dX6_late_12 : decode cX6_late 12 = .ok (.iload_n 1, 1) := by decide +kernel
theorem dX6_late_13 : decode cX6_late 13 = .ok (.aload_n 0, 1) := by decide +kernel
theorem dX6_late_14 : decode cX6_late 14 = .ok (.getfield 11, 3) := by decide +kernel
theorem dX6_late_17 : decode cX6_late 17 = .ok (.iload_n 2, 1) := by decide +kernel
theorem dX6_late_18 : decode cX6_late 18 = .ok (.aaload, 1) := by decide +kernel
theorem dX6_late_19 : decode cX6_late 19 = .ok (.getfield 51, 3) := by decide +kernel
theorem dX6_late_22 : decode cX6_late 22 = .ok (.iconst 1, 1) := by decide +kernel
theorem dX6_late_23 : decode cX6_late 23 = .ok (.if_icmp .ne 7, 3) := by decide +kernel
theorem dX6_late_26 : decode cX6_late 26 = .ok (.iconst 1, 1) := by decide +kernel
theorem dX6_late_27 : decode cX6_late 27 = .ok (.goto 4, 3) := by decide +kernel
theorem dX6_late_30 : decode cX6_late 30 = .ok (.iconst 0, 1) := by decide +kernel
theorem dX6_late_31 : decode cX6_late 31 = .ok (.iadd, 1) := by decide +kernel
theorem dX6_late_32 : decode cX6_late 32 = .ok (.istore_n 1, 1) := by decide +kernel
theorem dX6_late_33 : decode cX6_late 33 = .ok (.iinc 2 1, 3) := by decide +kernel
theorem dX6_late_36 : decode cX6_late 36 = .ok (.goto (-32), 3) := by decide +kernel
theorem dX6_late_39 : decode cX6_late 39 = .ok (.iload_n 1, 1) := by decide +kernel
theorem dX6_late_40 : decode cX6_late 40 = .ok (.ireturn, 1) := by decide +kernel
theorem dX6_collect_0 : decode cX6_collect 0 = .ok (.aload_n 2, 1) := by decide +kernel
theorem dX6_collect_1 : decode cX6_collect 1 = .ok (.invokevirtual 54, 3) := by decide +kernel
theorem dX6_collect_4 : decode cX6_collect 4 = .ok (.aload_n 2, 1) := by decide +kernel
theorem dX6_collect_5 : decode cX6_collect 5 = .ok (.aload_n 0, 1) := by decide +kernel
theorem dX6_collect_6 : decode cX6_collect 6 = .ok (.invokevirtual 59, 3) := by decide +kernel
theorem dX6_collect_9 : decode cX6_collect 9 = .ok (.putfield 63, 3) := by decide +kernel
theorem dX6_collect_12 : decode cX6_collect 12 = .ok (.iconst 0, 1) := by decide +kernel
theorem dX6_collect_13 : decode cX6_collect 13 = .ok (.istore_n 3, 1) := by decide +kernel
theorem dX6_collect_14 : decode cX6_collect 14 = .ok (.iload_n 3, 1) := by decide +kernel
theorem dX6_collect_15 : decode cX6_collect 15 = .ok (.aload_n 0, 1) := by decide +kernel
theorem dX6_collect_16 : decode cX6_collect 16 = .ok (.getfield 26, 3) := by decide +kernel
theorem dX6_collect_19 : decode cX6_collect 19 = .ok (.if_icmp .ge 81, 3) := by decide +kernel
theorem dX6_collect_22 : decode cX6_collect 22 = .ok (.aload_n 0, 1) := by decide +kernel
theorem dX6_collect_23 : decode cX6_collect 23 = .ok (.getfield 11, 3) := by decide +kernel
theorem dX6_collect_26 : decode cX6_collect 26 = .ok (.iload_n 3, 1) := by decide +kernel
theorem dX6_collect_27 : decode cX6_collect 27 = .ok (.aaload, 1) := by decide +kernel
theorem dX6_collect_28 : decode cX6_collect 28 = .ok (.astore 4, 2) := by decide +kernel
theorem dX6_collect_30 : decode cX6_collect 30 = .ok (.aload 4, 2) := by decide +kernel
theorem dX6_collect_32 : decode cX6_collect 32 = .ok (.iload_n 1, 1) := by decide +kernel
theorem dX6_collect_33 : decode cX6_collect 33 = .ok (.invokevirtual 66, 3) := by decide +kernel
theorem dX6_collect_36 : decode cX6_collect 36 = .ok (.aload 4, 2) := by decide +kernel
theorem dX6_collect_38 : decode cX6_collect 38 = .ok (.invokevirtual 70, 3) := by decide +kernel
theorem dX6_collect_41 : decode cX6_collect 41 = .ok (.ifCond .eq 15, 3) := by decide +kernel
theorem dX6_collect_44 : decode cX6_collect 44 = .ok (.aload_n 0, 1) := by decide +kernel
theorem dX6_collect_45 : decode cX6_collect 45 = .ok (.iload_n 3, 1) := by decide +kernel
theorem dX6_collect_46 : decode cX6_collect 46 = .ok (.aload 4, 2) := by decide +kernel
theorem dX6_collect_48 : decode cX6_collect 48 = .ok (.iload_n 1, 1) := by decide +kernel
theorem dX6_collect_49 : decode cX6_collect 49 = .ok (.aload_n 2, 1) := by decide +kernel
theorem dX6_collect_50 : decode cX6_collect 50 = .ok (.invokevirtual 73, 3) := by decide +kernel
theorem dX6_collect_53 : decode cX6_collect 53 = .ok (.goto 41, 3) := by decide +kernel
theorem dX6_collect_56 : decode cX6_collect 56 = .ok (.aload 4, 2) := by decide +kernel
theorem dX6_collect_58 : decode cX6_collect 58 = .ok (.getfield 51, 3) := by decide +kernel
theorem dX6_collect_61 : decode cX6_collect 61 = .ok (.bipush 6, 2) := by decide +kernel
theorem dX6_collect_63 : decode cX6_collect 63 = .ok (.if_icmp .ne 15, 3) := by decide +kernel
theorem dX6_collect_66 : decode cX6_collect 66 = .ok (.aload 4, 2) := by decide +kernel
theorem dX6_collect_68 : decode cX6_collect 68 = .ok (.aload_n 2, 1) := by decide +kernel
theorem dX6_collect_69 : decode cX6_collect 69 = .ok (.lconst 0, 1) := by decide +kernel
theorem dX6_collect_70 : decode cX6_collect 70 = .ok (.bipush 6, 2) := by decide +kernel
theorem dX6_collect_72 : decode cX6_collect 72 = .ok (.invokestatic 77, 3) := by decide +kernel
theorem dX6_collect_75 : decode cX6_collect 75 = .ok (.goto 19, 3) := by decide +kernel
theorem dX6_collect_78 : decode cX6_collect 78 = .ok (.aload 4, 2) := by decide +kernel
theorem dX6_collect_80 : decode cX6_collect 80 = .ok (.iload_n 1, 1) := by decide +kernel
theorem dX6_collect_81 : decode cX6_collect 81 = .ok (.invokevirtual 81, 3) := by decide +kernel
theorem dX6_collect_84 : decode cX6_collect 84 = .ok (.ifCond .eq 10, 3) := by decide +kernel
theorem dX6_collect_87 : decode cX6_collect 87 = .ok (.aload_n 0, 1) := by decide +kernel
theorem dX6_collect_88 : decode cX6_collect 88 = .ok (.aload 4, 2) := by decide +kernel
theorem dX6_collect_90 : decode cX6_collect 90 = .ok (.aload_n 2, 1) := by decide +kernel
theorem dX6_collect_91 : decode cX6_collect 91 = .ok (.invokevirtual 85, 3) := by decide +kernel
theorem dX6_collect_94 : decode cX6_collect 94 = .ok (.iinc 3 1, 3) := by decide +kernel
theorem dX6_collect_97 : decode cX6_collect 97 = .ok (.goto (-83), 3) := by decide +kernel
theorem dX6_collect_100 : decode cX6_collect 100 = .ok (.aload_n 0, 1) := by decide +kernel
theorem dX6_collect_101 : decode cX6_collect 101 = .ok (.dup, 1) := by decide +kernel
theorem dX6_collect_102 : decode cX6_collect 102 = .ok (.getfield 36, 3) := by decide +kernel
theorem dX6_collect_105 : decode cX6_collect 105 = .ok (.aload_n 2, 1) := by decide +kernel
theorem dX6_collect_106 : decode cX6_collect 106 = .ok (.getfield 89, 3) := by decide +kernel
theorem dX6_collect_109 : decode cX6_collect 109 = .ok (.ladd, 1) := by decide +kernel
theorem dX6_collect_110 : decode cX6_collect 110 = .ok (.putfield 36, 3) := by decide +kernel
theorem dX6_collect_113 : decode cX6_collect 113 = .ok (.aload_n 2, 1) := by decide +kernel
theorem dX6_collect_114 : decode cX6_collect 114 = .ok (.aload_n 0, 1) := by decide +kernel
theorem dX6_collect_115 : decode cX6_collect 115 = .ok (.getfield 36, 3) := by decide +kernel
theorem dX6_collect_118 : decode cX6_collect 118 = .ok (.aload_n 2, 1) := by decide +kernel
theorem dX6_collect_119 : decode cX6_collect 119 = .ok (.getfield 90, 3) := by decide +kernel
theorem dX6_collect_122 : decode cX6_collect 122 = .ok (.invokestatic 93, 3) := by decide +kernel
theorem dX6_collect_125 : decode cX6_collect 125 = .ok (.putfield 99, 3) := by decide +kernel
theorem dX6_collect_128 : decode cX6_collect 128 = .ok (.aload_n 0, 1) := by decide +kernel
theorem dX6_collect_129 : decode cX6_collect 129 = .ok (.dup, 1) := by decide +kernel
theorem dX6_collect_130 : decode cX6_collect 130 = .ok (.getfield 36, 3) := by decide +kernel
theorem dX6_collect_133 : decode cX6_collect 133 = .ok (.aload_n 2, 1) := by decide +kernel
theorem dX6_collect_134 : decode cX6_collect 134 = .ok (.getfield 99, 3) := by decide +kernel
theorem dX6_collect_137 : decode cX6_collect 137 = .ok (.lsub, 1) := by decide +kernel
theorem dX6_collect_138 : decode cX6_collect 138 = .ok (.putfield 36, 3) := by decide +kernel
theorem dX6_collect_141 : decode cX6_collect 141 = .ok (.aload_n 2, 1) := by decide +kernel
theorem dX6_collect_142 : decode cX6_collect 142 = .ok (.aload_n 0, 1) := by decide +kernel
theorem dX6_collect_143 : decode cX6_collect 143 = .ok (.invokevirtual 59, 3) := by decide +kernel
theorem dX6_collect_146 : decode cX6_collect 146 = .ok (.putfield 102, 3) := by decide +kernel
theorem dX6_collect_149 : decode cX6_collect 149 = .ok (.aload_n 2, 1) := by decide +kernel
theorem dX6_collect_150 : decode cX6_collect 150 = .ok (.aload_n 0, 1) := by decide +kernel
theorem dX6_collect_151 : decode cX6_collect 151 = .ok (.invokevirtual 105, 3) := by decide +kernel
theorem dX6_collect_154 : decode cX6_collect 154 = .ok (.putfield 109, 3) := by decide +kernel
theorem dX6_collect_157 : decode cX6_collect 157 = .ok (.return_, 1) := by decide +kernel
theorem dX6_draw_0 : decode cX6_draw 0 = .ok (.aload_n 0, 1) := by decide +kernel
theorem dX6_draw_1 : decode cX6_draw 1 = .ok (.iconst 0, 1) := by decide +kernel
theorem dX6_draw_2 : decode cX6_draw 2 = .ok (.aload_n 2, 1) := by decide +kernel
theorem dX6_draw_3 : decode cX6_draw 3 = .ok (.iload_n 3, 1) := by decide +kernel
theorem dX6_draw_4 : decode cX6_draw 4 = .ok (.invokevirtual 111, 3) := by decide +kernel
theorem dX6_draw_7 : decode cX6_draw 7 = .ok (.istore 5, 2) := by decide +kernel
theorem dX6_draw_9 : decode cX6_draw 9 = .ok (.iload 5, 2) := by decide +kernel
theorem dX6_draw_11 : decode cX6_draw 11 = .ok (.aload_n 0, 1) := by decide +kernel
theorem dX6_draw_12 : decode cX6_draw 12 = .ok (.iconst 1, 1) := by decide +kernel
theorem dX6_draw_13 : decode cX6_draw 13 = .ok (.aload_n 2, 1) := by decide +kernel
theorem dX6_draw_14 : decode cX6_draw 14 = .ok (.iload_n 3, 1) := by decide +kernel
theorem dX6_draw_15 : decode cX6_draw 15 = .ok (.invokevirtual 111, 3) := by decide +kernel
theorem dX6_draw_18 : decode cX6_draw 18 = .ok (.iadd, 1) := by decide +kernel
theorem dX6_draw_19 : decode cX6_draw 19 = .ok (.istore 6, 2) := by decide +kernel
theorem dX6_draw_21 : decode cX6_draw 21 = .ok (.iload 6, 2) := by decide +kernel
theorem dX6_draw_23 : decode cX6_draw 23 = .ok (.aload_n 0, 1) := by decide +kernel
theorem dX6_draw_24 : decode cX6_draw 24 = .ok (.iconst 2, 1) := by decide +kernel
theorem dX6_draw_25 : decode cX6_draw 25 = .ok (.aload_n 2, 1) := by decide +kernel
theorem dX6_draw_26 : decode cX6_draw 26 = .ok (.iload_n 3, 1) := by decide +kernel
theorem dX6_draw_27 : decode cX6_draw 27 = .ok (.invokevirtual 111, 3) := by decide +kernel
theorem dX6_draw_30 : decode cX6_draw 30 = .ok (.iadd, 1) := by decide +kernel
theorem dX6_draw_31 : decode cX6_draw 31 = .ok (.istore 7, 2) := by decide +kernel
theorem dX6_draw_33 : decode cX6_draw 33 = .ok (.aload_n 0, 1) := by decide +kernel
theorem dX6_draw_34 : decode cX6_draw 34 = .ok (.iload_n 1, 1) := by decide +kernel
theorem dX6_draw_35 : decode cX6_draw 35 = .ok (.iload_n 3, 1) := by decide +kernel
theorem dX6_draw_36 : decode cX6_draw 36 = .ok (.invokevirtual 115, 3) := by decide +kernel
theorem dX6_draw_39 : decode cX6_draw 39 = .ok (.istore 8, 2) := by decide +kernel
theorem dX6_draw_41 : decode cX6_draw 41 = .ok (.iload 8, 2) := by decide +kernel
theorem dX6_draw_43 : decode cX6_draw 43 = .ok (.iload 5, 2) := by decide +kernel
theorem dX6_draw_45 : decode cX6_draw 45 = .ok (.if_icmp .ge 21, 3) := by decide +kernel
theorem dX6_draw_48 : decode cX6_draw 48 = .ok (.aload_n 2, 1) := by decide +kernel
theorem dX6_draw_49 : decode cX6_draw 49 = .ok (.iconst 3, 1) := by decide +kernel
theorem dX6_draw_50 : decode cX6_draw 50 = .ok (.putfield 51, 3) := by decide +kernel
theorem dX6_draw_53 : decode cX6_draw 53 = .ok (.aload_n 2, 1) := by decide +kernel
theorem dX6_draw_54 : decode cX6_draw 54 = .ok (.iload_n 3, 1) := by decide +kernel
theorem dX6_draw_55 : decode cX6_draw 55 = .ok (.putfield 119, 3) := by decide +kernel
theorem dX6_draw_58 : decode cX6_draw 58 = .ok (.aload_n 2, 1) := by decide +kernel
theorem dX6_draw_59 : decode cX6_draw 59 = .ok (.lconst 0, 1) := by decide +kernel
theorem dX6_draw_60 : decode cX6_draw 60 = .ok (.putfield 122, 3) := by decide +kernel
theorem dX6_draw_63 : decode cX6_draw 63 = .ok (.goto 76, 3) := by decide +kernel
theorem dX6_draw_66 : decode cX6_draw 66 = .ok (.iload 8, 2) := by decide +kernel
theorem dX6_draw_68 : decode cX6_draw 68 = .ok (.iload 6, 2) := by decide +kernel
theorem dX6_draw_70 : decode cX6_draw 70 = .ok (.if_icmp .ge 22, 3) := by decide +kernel
theorem dX6_draw_73 : decode cX6_draw 73 = .ok (.aload_n 2, 1) := by decide +kernel
theorem dX6_draw_74 : decode cX6_draw 74 = .ok (.iload_n 3, 1) := by decide +kernel
theorem dX6_draw_75 : decode cX6_draw 75 = .ok (.invokevirtual 125, 3) := by decide +kernel
theorem dX6_draw_78 : decode cX6_draw 78 = .ok (.ifCond .ne 14, 3) := by decide +kernel
theorem dX6_draw_81 : decode cX6_draw 81 = .ok (.aload_n 0, 1) := by decide +kernel
theorem dX6_draw_82 : decode cX6_draw 82 = .ok (.aload_n 2, 1) := by decide +kernel
theorem dX6_draw_83 : decode cX6_draw 83 = .ok (.iload_n 3, 1) := by decide +kernel
theorem dX6_draw_84 : decode cX6_draw 84 = .ok (.aload 4, 2) := by decide +kernel
theorem dX6_draw_86 : decode cX6_draw 86 = .ok (.invokevirtual 128, 3) := by decide +kernel
theorem dX6_draw_89 : decode cX6_draw 89 = .ok (.goto 50, 3) := by decide +kernel
theorem dX6_draw_92 : decode cX6_draw 92 = .ok (.iload 8, 2) := by decide +kernel
theorem dX6_draw_94 : decode cX6_draw 94 = .ok (.iload 6, 2) := by decide +kernel
theorem dX6_draw_96 : decode cX6_draw 96 = .ok (.if_icmp .lt 36, 3) := by decide +kernel
theorem dX6_draw_99 : decode cX6_draw 99 = .ok (.iload 8, 2) := by decide +kernel
theorem dX6_draw_101 : decode cX6_draw 101 = .ok (.iload 7, 2) := by decide +kernel
theorem dX6_draw_103 : decode cX6_draw 103 = .ok (.if_icmp .ge 29, 3) := by decide +kernel
theorem dX6_draw_106 : decode cX6_draw 106 = .ok (.aload_n 2, 1) := by decide +kernel
theorem dX6_draw_107 : decode cX6_draw 107 = .ok (.aload 4, 2) := by decide +kernel
theorem dX6_draw_109 : decode cX6_draw 109 = .ok (.aload_n 2, 1) := by decide +kernel
theorem dX6_draw_110 : decode cX6_draw 110 = .ok (.invokevirtual 132, 3) := by decide +kernel
theorem dX6_draw_113 : decode cX6_draw 113 = .ok (.aload_n 2, 1) := by decide +kernel
theorem dX6_draw_114 : decode cX6_draw 114 = .ok (.iload_n 3, 1) := by decide +kernel
theorem dX6_draw_115 : decode cX6_draw 115 = .ok (.invokevirtual 135, 3) := by decide +kernel
theorem dX6_draw_118 : decode cX6_draw 118 = .ok (.ifCond .eq 7, 3) := by decide +kernel
theorem dX6_draw_121 : decode cX6_draw 121 = .ok (.iconst 5, 1) := by decide +kernel
theorem dX6_draw_122 : decode cX6_draw 122 = .ok (.goto 4, 3) := by decide +kernel
theorem dX6_draw_125 : decode cX6_draw 125 = .ok (.iconst 2, 1) := by decide +kernel
theorem dX6_draw_126 : decode cX6_draw 126 = .ok (.invokestatic 77, 3) := by decide +kernel
theorem dX6_draw_129 : decode cX6_draw 129 = .ok (.goto 10, 3) := by decide +kernel
theorem dX6_draw_132 : decode cX6_draw 132 = .ok (.aload_n 2, 1) := by decide +kernel
theorem dX6_draw_133 : decode cX6_draw 133 = .ok (.iload_n 3, 1) := by decide +kernel
theorem dX6_draw_134 : decode cX6_draw 134 = .ok (.aload 4, 2) := by decide +kernel
theorem dX6_draw_136 : decode cX6_draw 136 = .ok (.invokestatic 138, 3) := by decide +kernel
theorem dX6_draw_139 : decode cX6_draw 139 = .ok (.return_, 1) := by decide +kernel
theorem dX6_chance_0 : decode cX6_chance 0 = .ok (.aload_n 0, 1) := by decide +kernel
theorem dX6_chance_1 : decode cX6_chance 1 = .ok (.getfield 40, 3) := by decide +kernel
theorem dX6_chance_4 : decode cX6_chance 4 = .ok (.ifnonnull 7, 3) := by decide +kernel
theorem dX6_chance_7 : decode cX6_chance 7 = .ok (.iconst 0, 1) := by decide +kernel
theorem dX6_chance_8 : decode cX6_chance 8 = .ok (.goto 23, 3) := by decide +kernel
theorem dX6_chance_11 : decode cX6_chance 11 = .ok (.iconst 0, 1) := by decide +kernel
theorem dX6_chance_12 : decode cX6_chance 12 = .ok (.sipush 1000, 3) := by decide +kernel
theorem dX6_chance_15 : decode cX6_chance 15 = .ok (.aload_n 0, 1) := by decide +kernel
theorem dX6_chance_16 : decode cX6_chance 16 = .ok (.getfield 40, 3) := by decide +kernel
theorem dX6_chance_19 : decode cX6_chance 19 = .ok (.iload_n 1, 1) := by decide +kernel
theorem dX6_chance_20 : decode cX6_chance 20 = .ok (.aload_n 2, 1) := by decide +kernel
theorem dX6_chance_21 : decode cX6_chance 21 = .ok (.iload_n 3, 1) := by decide +kernel
theorem dX6_chance_22 : decode cX6_chance 22 = .ok (.invokevirtual 141, 3) := by decide +kernel
theorem dX6_chance_25 : decode cX6_chance 25 = .ok (.invokestatic 146, 3) := by decide +kernel
theorem dX6_chance_28 : decode cX6_chance 28 = .ok (.invokestatic 148, 3) := by decide +kernel
theorem dX6_chance_31 : decode cX6_chance 31 = .ok (.ireturn, 1) := by decide +kernel
theorem dX6_lot_0 : decode cX6_lot 0 = .ok (.aload_n 0, 1) := by decide +kernel
theorem dX6_lot_1 : decode cX6_lot 1 = .ok (.getfield 29, 3) := by decide +kernel
theorem dX6_lot_4 : decode cX6_lot 4 = .ok (.i2l, 1) := by decide +kernel
theorem dX6_lot_5 : decode cX6_lot 5 = .ok (.ldc2_w 151, 3) := by decide +kernel
theorem dX6_lot_8 : decode cX6_lot 8 = .ok (.iload_n 1, 1) := by decide +kernel
theorem dX6_lot_9 : decode cX6_lot 9 = .ok (.i2l, 1) := by decide +kernel
theorem dX6_lot_10 : decode cX6_lot 10 = .ok (.lmul, 1) := by decide +kernel
theorem dX6_lot_11 : decode cX6_lot 11 = .ok (.ladd, 1) := by decide +kernel
theorem dX6_lot_12 : decode cX6_lot 12 = .ok (.ldc2_w 153, 3) := by decide +kernel
theorem dX6_lot_15 : decode cX6_lot 15 = .ok (.iload_n 2, 1) := by decide +kernel
theorem dX6_lot_16 : decode cX6_lot 16 = .ok (.i2l, 1) := by decide +kernel
theorem dX6_lot_17 : decode cX6_lot 17 = .ok (.lmul, 1) := by decide +kernel
theorem dX6_lot_18 : decode cX6_lot 18 = .ok (.ladd, 1) := by decide +kernel
theorem dX6_lot_19 : decode cX6_lot 19 = .ok (.lstore_n 3, 1) := by decide +kernel
theorem dX6_lot_20 : decode cX6_lot 20 = .ok (.lload_n 3, 1) := by decide +kernel
theorem dX6_lot_21 : decode cX6_lot 21 = .ok (.ldc2_w 155, 3) := by decide +kernel
theorem dX6_lot_24 : decode cX6_lot 24 = .ok (.lmul, 1) := by decide +kernel
theorem dX6_lot_25 : decode cX6_lot 25 = .ok (.ldc2_w 157, 3) := by decide +kernel
theorem dX6_lot_28 : decode cX6_lot 28 = .ok (.lrem, 1) := by decide +kernel
theorem dX6_lot_29 : decode cX6_lot 29 = .ok (.ldc2_w 159, 3) := by decide +kernel
theorem dX6_lot_32 : decode cX6_lot 32 = .ok (.lrem, 1) := by decide +kernel
theorem dX6_lot_33 : decode cX6_lot 33 = .ok (.l2i, 1) := by decide +kernel
theorem dX6_lot_34 : decode cX6_lot 34 = .ok (.ireturn, 1) := by decide +kernel
theorem dX6_fallLate_0 : decode cX6_fallLate 0 = .ok (.aload_n 1, 1) := by decide +kernel
theorem dX6_fallLate_1 : decode cX6_fallLate 1 = .ok (.invokevirtual 132, 3) := by decide +kernel
theorem dX6_fallLate_4 : decode cX6_fallLate 4 = .ok (.lstore 4, 2) := by decide +kernel
theorem dX6_fallLate_6 : decode cX6_fallLate 6 = .ok (.aload_n 1, 1) := by decide +kernel
theorem dX6_fallLate_7 : decode cX6_fallLate 7 = .ok (.dup, 1) := by decide +kernel
theorem dX6_fallLate_8 : decode cX6_fallLate 8 = .ok (.getfield 122, 3) := by decide +kernel
theorem dX6_fallLate_11 : decode cX6_fallLate 11 = .ok (.lload 4, 2) := by decide +kernel
theorem dX6_fallLate_13 : decode cX6_fallLate 13 = .ok (.ladd, 1) := by decide +kernel
theorem dX6_fallLate_14 : decode cX6_fallLate 14 = .ok (.putfield 122, 3) := by decide +kernel
theorem dX6_fallLate_17 : decode cX6_fallLate 17 = .ok (.aload_n 1, 1) := by decide +kernel
theorem dX6_fallLate_18 : decode cX6_fallLate 18 = .ok (.iconst 1, 1) := by decide +kernel
theorem dX6_fallLate_19 : decode cX6_fallLate 19 = .ok (.putfield 51, 3) := by decide +kernel
theorem dX6_fallLate_22 : decode cX6_fallLate 22 = .ok (.aload_n 1, 1) := by decide +kernel
theorem dX6_fallLate_23 : decode cX6_fallLate 23 = .ok (.iload_n 2, 1) := by decide +kernel
theorem dX6_fallLate_24 : decode cX6_fallLate 24 = .ok (.invokevirtual 135, 3) := by decide +kernel
theorem dX6_fallLate_27 : decode cX6_fallLate 27 = .ok (.ifCond .eq 13, 3) := by decide +kernel
theorem dX6_fallLate_30 : decode cX6_fallLate 30 = .ok (.aload_n 1, 1) := by decide +kernel
theorem dX6_fallLate_31 : decode cX6_fallLate 31 = .ok (.dup, 1) := by decide +kernel
theorem dX6_fallLate_32 : decode cX6_fallLate 32 = .ok (.getfield 161, 3) := by decide +kernel
theorem dX6_fallLate_35 : decode cX6_fallLate 35 = .ok (.iconst 1, 1) := by decide +kernel
theorem dX6_fallLate_36 : decode cX6_fallLate 36 = .ok (.iadd, 1) := by decide +kernel
theorem dX6_fallLate_37 : decode cX6_fallLate 37 = .ok (.putfield 161, 3) := by decide +kernel
theorem dX6_fallLate_40 : decode cX6_fallLate 40 = .ok (.aload_n 0, 1) := by decide +kernel
theorem dX6_fallLate_41 : decode cX6_fallLate 41 = .ok (.getfield 32, 3) := by decide +kernel
theorem dX6_fallLate_44 : decode cX6_fallLate 44 = .ok (.ifCond .eq 14, 3) := by decide +kernel
theorem dX6_fallLate_47 : decode cX6_fallLate 47 = .ok (.aload_n 3, 1) := by decide +kernel
theorem dX6_fallLate_48 : decode cX6_fallLate 48 = .ok (.dup, 1) := by decide +kernel
theorem dX6_fallLate_49 : decode cX6_fallLate 49 = .ok (.getfield 89, 3) := by decide +kernel
theorem dX6_fallLate_52 : decode cX6_fallLate 52 = .ok (.lload 4, 2) := by decide +kernel
theorem dX6_fallLate_54 : decode cX6_fallLate 54 = .ok (.ladd, 1) := by decide +kernel
theorem dX6_fallLate_55 : decode cX6_fallLate 55 = .ok (.putfield 89, 3) := by decide +kernel
theorem dX6_fallLate_58 : decode cX6_fallLate 58 = .ok (.return_, 1) := by decide +kernel
theorem dX6_payMonth_0 : decode cX6_payMonth 0 = .ok (.aload_n 0, 1) := by decide +kernel
theorem dX6_payMonth_1 : decode cX6_payMonth 1 = .ok (.invokevirtual 132, 3) := by decide +kernel
theorem dX6_payMonth_4 : decode cX6_payMonth 4 = .ok (.lstore_n 3, 1) := by decide +kernel
theorem dX6_payMonth_5 : decode cX6_payMonth 5 = .ok (.aload_n 2, 1) := by decide +kernel
theorem dX6_payMonth_6 : decode cX6_payMonth 6 = .ok (.dup, 1) := by decide +kernel
theorem dX6_payMonth_7 : decode cX6_payMonth 7 = .ok (.getfield 90, 3) := by decide +kernel
theorem dX6_payMonth_10 : decode cX6_payMonth 10 = .ok (.aload_n 0, 1) := by decide +kernel
theorem dX6_payMonth_11 : decode cX6_payMonth 11 = .ok (.getfield 122, 3) := by decide +kernel
theorem dX6_payMonth_14 : decode cX6_payMonth 14 = .ok (.ladd, 1) := by decide +kernel
theorem dX6_payMonth_15 : decode cX6_payMonth 15 = .ok (.putfield 90, 3) := by decide +kernel
theorem dX6_payMonth_18 : decode cX6_payMonth 18 = .ok (.aload_n 0, 1) := by decide +kernel
theorem dX6_payMonth_19 : decode cX6_payMonth 19 = .ok (.lconst 0, 1) := by decide +kernel
theorem dX6_payMonth_20 : decode cX6_payMonth 20 = .ok (.putfield 122, 3) := by decide +kernel
theorem dX6_payMonth_23 : decode cX6_payMonth 23 = .ok (.aload_n 0, 1) := by decide +kernel
theorem dX6_payMonth_24 : decode cX6_payMonth 24 = .ok (.aload_n 0, 1) := by decide +kernel
theorem dX6_payMonth_25 : decode cX6_payMonth 25 = .ok (.iload_n 1, 1) := by decide +kernel
theorem dX6_payMonth_26 : decode cX6_payMonth 26 = .ok (.invokevirtual 135, 3) := by decide +kernel
theorem dX6_payMonth_29 : decode cX6_payMonth 29 = .ok (.ifCond .eq 7, 3) := by decide +kernel
theorem dX6_payMonth_32 : decode cX6_payMonth 32 = .ok (.iconst 5, 1) := by decide +kernel
theorem dX6_payMonth_33 : decode cX6_payMonth 33 = .ok (.goto 4, 3) := by decide +kernel
theorem dX6_payMonth_36 : decode cX6_payMonth 36 = .ok (.iconst 0, 1) := by decide +kernel
theorem dX6_payMonth_37 : decode cX6_payMonth 37 = .ok (.putfield 51, 3) := by decide +kernel
theorem dX6_payMonth_40 : decode cX6_payMonth 40 = .ok (.aload_n 0, 1) := by decide +kernel
theorem dX6_payMonth_41 : decode cX6_payMonth 41 = .ok (.iload_n 1, 1) := by decide +kernel
theorem dX6_payMonth_42 : decode cX6_payMonth 42 = .ok (.invokevirtual 125, 3) := by decide +kernel
theorem dX6_payMonth_45 : decode cX6_payMonth 45 = .ok (.ifCond .eq 14, 3) := by decide +kernel
theorem dX6_payMonth_48 : decode cX6_payMonth 48 = .ok (.aload_n 0, 1) := by decide +kernel
theorem dX6_payMonth_49 : decode cX6_payMonth 49 = .ok (.dup, 1) := by decide +kernel
theorem dX6_payMonth_50 : decode cX6_payMonth 50 = .ok (.getfield 48, 3) := by decide +kernel
theorem dX6_payMonth_53 : decode cX6_payMonth 53 = .ok (.lload_n 3, 1) := by decide +kernel
theorem dX6_payMonth_54 : decode cX6_payMonth 54 = .ok (.ladd, 1) := by decide +kernel
theorem dX6_payMonth_55 : decode cX6_payMonth 55 = .ok (.putfield 48, 3) := by decide +kernel
theorem dX6_payMonth_58 : decode cX6_payMonth 58 = .ok (.return_, 1) := by decide +kernel
theorem dX6_payMonth_59 : decode cX6_payMonth 59 = .ok (.aload_n 0, 1) := by decide +kernel
theorem dX6_payMonth_60 : decode cX6_payMonth 60 = .ok (.iload_n 1, 1) := by decide +kernel
theorem dX6_payMonth_61 : decode cX6_payMonth 61 = .ok (.invokevirtual 164, 3) := by decide +kernel
theorem dX6_payMonth_64 : decode cX6_payMonth 64 = .ok (.lstore 5, 2) := by decide +kernel
theorem dX6_payMonth_66 : decode cX6_payMonth 66 = .ok (.aload_n 2, 1) := by decide +kernel
theorem dX6_payMonth_67 : decode cX6_payMonth 67 = .ok (.dup, 1) := by decide +kernel
theorem dX6_payMonth_68 : decode cX6_payMonth 68 = .ok (.getfield 90, 3) := by decide +kernel
theorem dX6_payMonth_71 : decode cX6_payMonth 71 = .ok (.lload_n 3, 1) := by decide +kernel
theorem dX6_payMonth_72 : decode cX6_payMonth 72 = .ok (.ladd, 1) := by decide +kernel
theorem dX6_payMonth_73 : decode cX6_payMonth 73 = .ok (.putfield 90, 3) := by decide +kernel
theorem dX6_payMonth_76 : decode cX6_payMonth 76 = .ok (.aload_n 2, 1) := by decide +kernel
theorem dX6_payMonth_77 : decode cX6_payMonth 77 = .ok (.dup, 1) := by decide +kernel
theorem dX6_payMonth_78 : decode cX6_payMonth 78 = .ok (.getfield 168, 3) := by decide +kernel
theorem dX6_payMonth_81 : decode cX6_payMonth 81 = .ok (.lload 5, 2) := by decide +kernel
theorem dX6_payMonth_83 : decode cX6_payMonth 83 = .ok (.ladd, 1) := by decide +kernel
theorem dX6_payMonth_84 : decode cX6_payMonth 84 = .ok (.putfield 168, 3) := by decide +kernel
theorem dX6_payMonth_87 : decode cX6_payMonth 87 = .ok (.aload_n 0, 1) := by decide +kernel
theorem dX6_payMonth_88 : decode cX6_payMonth 88 = .ok (.dup, 1) := by decide +kernel
theorem dX6_payMonth_89 : decode cX6_payMonth 89 = .ok (.getfield 48, 3) := by decide +kernel
theorem dX6_payMonth_92 : decode cX6_payMonth 92 = .ok (.lload 5, 2) := by decide +kernel
theorem dX6_payMonth_94 : decode cX6_payMonth 94 = .ok (.lsub, 1) := by decide +kernel
theorem dX6_payMonth_95 : decode cX6_payMonth 95 = .ok (.putfield 48, 3) := by decide +kernel
theorem dX6_payMonth_98 : decode cX6_payMonth 98 = .ok (.return_, 1) := by decide +kernel
theorem dX6_payAll_0 : decode cX6_payAll 0 = .ok (.aload_n 1, 1) := by decide +kernel
theorem dX6_payAll_1 : decode cX6_payAll 1 = .ok (.dup, 1) := by decide +kernel
theorem dX6_payAll_2 : decode cX6_payAll 2 = .ok (.getfield 90, 3) := by decide +kernel
theorem dX6_payAll_5 : decode cX6_payAll 5 = .ok (.lload_n 2, 1) := by decide +kernel
theorem dX6_payAll_6 : decode cX6_payAll 6 = .ok (.aload_n 0, 1) := by decide +kernel
theorem dX6_payAll_7 : decode cX6_payAll 7 = .ok (.getfield 122, 3) := by decide +kernel
theorem dX6_payAll_10 : decode cX6_payAll 10 = .ok (.ladd, 1) := by decide +kernel
theorem dX6_payAll_11 : decode cX6_payAll 11 = .ok (.ladd, 1) := by decide +kernel
theorem dX6_payAll_12 : decode cX6_payAll 12 = .ok (.putfield 90, 3) := by decide +kernel
theorem dX6_payAll_15 : decode cX6_payAll 15 = .ok (.aload_n 1, 1) := by decide +kernel
theorem dX6_payAll_16 : decode cX6_payAll 16 = .ok (.dup, 1) := by decide +kernel
theorem dX6_payAll_17 : decode cX6_payAll 17 = .ok (.getfield 168, 3) := by decide +kernel
theorem dX6_payAll_20 : decode cX6_payAll 20 = .ok (.aload_n 0, 1) := by decide +kernel
theorem dX6_payAll_21 : decode cX6_payAll 21 = .ok (.getfield 48, 3) := by decide +kernel
theorem dX6_payAll_24 : decode cX6_payAll 24 = .ok (.ladd, 1) := by decide +kernel
theorem dX6_payAll_25 : decode cX6_payAll 25 = .ok (.putfield 168, 3) := by decide +kernel
theorem dX6_payAll_28 : decode cX6_payAll 28 = .ok (.aload_n 0, 1) := by decide +kernel
theorem dX6_payAll_29 : decode cX6_payAll 29 = .ok (.lconst 0, 1) := by decide +kernel
theorem dX6_payAll_30 : decode cX6_payAll 30 = .ok (.putfield 122, 3) := by decide +kernel
theorem dX6_payAll_33 : decode cX6_payAll 33 = .ok (.aload_n 0, 1) := by decide +kernel
theorem dX6_payAll_34 : decode cX6_payAll 34 = .ok (.lconst 0, 1) := by decide +kernel
theorem dX6_payAll_35 : decode cX6_payAll 35 = .ok (.putfield 48, 3) := by decide +kernel
theorem dX6_payAll_38 : decode cX6_payAll 38 = .ok (.aload_n 0, 1) := by decide +kernel
theorem dX6_payAll_39 : decode cX6_payAll 39 = .ok (.iload 4, 2) := by decide +kernel
theorem dX6_payAll_41 : decode cX6_payAll 41 = .ok (.putfield 51, 3) := by decide +kernel
theorem dX6_payAll_44 : decode cX6_payAll 44 = .ok (.return_, 1) := by decide +kernel
theorem dX6_sell_0 : decode cX6_sell 0 = .ok (.aload_n 1, 1) := by decide +kernel
theorem dX6_sell_1 : decode cX6_sell 1 = .ok (.getfield 48, 3) := by decide +kernel
theorem dX6_sell_4 : decode cX6_sell 4 = .ok (.aload_n 0, 1) := by decide +kernel
theorem dX6_sell_5 : decode cX6_sell 5 = .ok (.getfield 17, 3) := by decide +kernel
theorem dX6_sell_8 : decode cX6_sell 8 = .ok (.i2l, 1) := by decide +kernel
theorem dX6_sell_9 : decode cX6_sell 9 = .ok (.lmul, 1) := by decide +kernel
theorem dX6_sell_10 : decode cX6_sell 10 = .ok (.ldc2_w 171, 3) := by decide +kernel
theorem dX6_sell_13 : decode cX6_sell 13 = .ok (.ldiv, 1) := by decide +kernel
theorem dX6_sell_14 : decode cX6_sell 14 = .ok (.lstore_n 3, 1) := by decide +kernel
theorem dX6_sell_15 : decode cX6_sell 15 = .ok (.aload_n 2, 1) := by decide +kernel
theorem dX6_sell_16 : decode cX6_sell 16 = .ok (.dup, 1) := by decide +kernel
theorem dX6_sell_17 : decode cX6_sell 17 = .ok (.getfield 173, 3) := by decide +kernel
theorem dX6_sell_20 : decode cX6_sell 20 = .ok (.lload_n 3, 1) := by decide +kernel
theorem dX6_sell_21 : decode cX6_sell 21 = .ok (.ladd, 1) := by decide +kernel
theorem dX6_sell_22 : decode cX6_sell 22 = .ok (.putfield 173, 3) := by decide +kernel
theorem dX6_sell_25 : decode cX6_sell 25 = .ok (.aload_n 2, 1) := by decide +kernel
theorem dX6_sell_26 : decode cX6_sell 26 = .ok (.dup, 1) := by decide +kernel
theorem dX6_sell_27 : decode cX6_sell 27 = .ok (.getfield 176, 3) := by decide +kernel
theorem dX6_sell_30 : decode cX6_sell 30 = .ok (.aload_n 1, 1) := by decide +kernel
theorem dX6_sell_31 : decode cX6_sell 31 = .ok (.getfield 48, 3) := by decide +kernel
theorem dX6_sell_34 : decode cX6_sell 34 = .ok (.lload_n 3, 1) := by decide +kernel
theorem dX6_sell_35 : decode cX6_sell 35 = .ok (.lsub, 1) := by decide +kernel
theorem dX6_sell_36 : decode cX6_sell 36 = .ok (.ladd, 1) := by decide +kernel
theorem dX6_sell_37 : decode cX6_sell 37 = .ok (.putfield 176, 3) := by decide +kernel
theorem dX6_sell_40 : decode cX6_sell 40 = .ok (.aload_n 1, 1) := by decide +kernel
theorem dX6_sell_41 : decode cX6_sell 41 = .ok (.lconst 0, 1) := by decide +kernel
theorem dX6_sell_42 : decode cX6_sell 42 = .ok (.putfield 48, 3) := by decide +kernel
theorem dX6_sell_45 : decode cX6_sell 45 = .ok (.aload_n 1, 1) := by decide +kernel
theorem dX6_sell_46 : decode cX6_sell 46 = .ok (.iconst 4, 1) := by decide +kernel
theorem dX6_sell_47 : decode cX6_sell 47 = .ok (.putfield 51, 3) := by decide +kernel
theorem dX6_sell_50 : decode cX6_sell 50 = .ok (.return_, 1) := by decide +kernel
theorem dX7_init_0 : decode cX7_init 0 = .ok (.aload_n 0, 1) := by decide +kernel
theorem dX7_init_1 : decode cX7_init 1 = .ok (.invokespecial 3, 3) := by decide +kernel
theorem dX7_init_4 : decode cX7_init 4 = .ok (.aload_n 0, 1) := by decide +kernel
theorem dX7_init_5 : decode cX7_init 5 = .ok (.bipush 40, 2) := by decide +kernel
theorem dX7_init_7 : decode cX7_init 7 = .ok (.newarray .int, 2) := by decide +kernel
theorem dX7_init_9 : decode cX7_init 9 = .ok (.putfield 9, 3) := by decide +kernel
theorem dX7_init_12 : decode cX7_init 12 = .ok (.aload_n 0, 1) := by decide +kernel
theorem dX7_init_13 : decode cX7_init 13 = .ok (.iconst (-1), 1) := by decide +kernel
theorem dX7_init_14 : decode cX7_init 14 = .ok (.putfield 15, 3) := by decide +kernel
theorem dX7_init_17 : decode cX7_init 17 = .ok (.return_, 1) := by decide +kernel
theorem dX7_lay_0 : decode cX7_lay 0 = .ok (.aload_n 0, 1) := by decide +kernel
theorem dX7_lay_1 : decode cX7_lay 1 = .ok (.iload_n 1, 1) := by decide +kernel
theorem dX7_lay_2 : decode cX7_lay 2 = .ok (.putfield 15, 3) := by decide +kernel
theorem dX7_lay_5 : decode cX7_lay 5 = .ok (.aload_n 0, 1) := by decide +kernel
theorem dX7_lay_6 : decode cX7_lay 6 = .ok (.iload_n 2, 1) := by decide +kernel
theorem dX7_lay_7 : decode cX7_lay 7 = .ok (.putfield 19, 3) := by decide +kernel
theorem dX7_lay_10 : decode cX7_lay 10 = .ok (.iconst 0, 1) := by decide +kernel
theorem dX7_lay_11 : decode cX7_lay 11 = .ok (.istore_n 3, 1) := by decide +kernel
theorem dX7_lay_12 : decode cX7_lay 12 = .ok (.iload_n 3, 1) := by decide +kernel
theorem dX7_lay_13 : decode cX7_lay 13 = .ok (.aload_n 0, 1) := by decide +kernel
theorem dX7_lay_14 : decode cX7_lay 14 = .ok (.getfield 9, 3) := by decide +kernel
theorem dX7_lay_17 : decode cX7_lay 17 = .ok (.arraylength, 1) := by decide +kernel
theorem dX7_lay_18 : decode cX7_lay 18 = .ok (.if_icmp .ge 16, 3) := by decide +kernel
theorem dX7_lay_21 : decode cX7_lay 21 = .ok (.aload_n 0, 1) := by decide +kernel
theorem dX7_lay_22 : decode cX7_lay 22 = .ok (.getfield 9, 3) := by decide +kernel
theorem dX7_lay_25 : decode cX7_lay 25 = .ok (.iload_n 3, 1) := by decide +kernel
theorem dX7_lay_26 : decode cX7_lay 26 = .ok (.iconst 0, 1) := by decide +kernel
theorem dX7_lay_27 : decode cX7_lay 27 = .ok (.iastore, 1) := by decide +kernel
theorem dX7_lay_28 : decode cX7_lay 28 = .ok (.iinc 3 1, 3) := by decide +kernel
theorem dX7_lay_31 : decode cX7_lay 31 = .ok (.goto (-19), 3) := by decide +kernel
theorem dX7_lay_34 : decode cX7_lay 34 = .ok (.return_, 1) := by decide +kernel
theorem dX7_holds_0 : decode cX7_holds 0 = .ok (.lload_n 1, 1) := by decide +kernel
theorem dX7_holds_1 : decode cX7_holds 1 = .ok (.lconst 0, 1) := by decide +kernel
theorem dX7_holds_2 : decode cX7_holds 2 = .ok (.lcmp, 1) := by decide +kernel
theorem dX7_holds_3 : decode cX7_holds 3 = .ok (.ifCond .lt 28, 3) := by decide +kernel
theorem dX7_holds_6 : decode cX7_holds 6 = .ok (.lload_n 1, 1) := by decide +kernel
theorem dX7_holds_7 : decode cX7_holds 7 = .ok (.aload_n 0, 1) := by decide +kernel
theorem dX7_holds_8 : decode cX7_holds 8 = .ok (.getfield 19, 3) := by decide +kernel
theorem dX7_holds_11 : decode cX7_holds 11 = .ok (.i2l, 1) := by decide +kernel
theorem dX7_holds_12 : decode cX7_holds 12 = .ok (.lcmp, 1) := by decide +kernel
theorem dX7_holds_13 : decode cX7_holds 13 = .ok (.ifCond .ge 18, 3) := by decide +kernel
theorem dX7_holds_16 : decode cX7_holds 16 = .ok (.lload_n 1, 1) := by decide +kernel
theorem dX7_holds_17 : decode cX7_holds 17 = .ok (.aload_n 0, 1) := by decide +kernel
theorem dX7_holds_18 : decode cX7_holds 18 = .ok (.getfield 9, 3) := by decide +kernel
theorem dX7_holds_21 : decode cX7_holds 21 = .ok (.arraylength, 1) := by decide +kernel
theorem dX7_holds_22 : decode cX7_holds 22 = .ok (.i2l, 1) := by decide +kernel
theorem dX7_holds_23 : decode cX7_holds 23 = .ok (.lcmp, 1) := by decide +kernel
theorem dX7_holds_24 : decode cX7_holds 24 = .ok (.ifCond .ge 7, 3) := by decide +kernel
theorem dX7_holds_27 : decode cX7_holds 27 = .ok (.iconst 1, 1) := by decide +kernel
theorem dX7_holds_28 : decode cX7_holds 28 = .ok (.goto 4, 3) := by decide +kernel
theorem dX7_holds_31 : decode cX7_holds 31 = .ok (.iconst 0, 1) := by decide +kernel
theorem dX7_holds_32 : decode cX7_holds 32 = .ok (.ireturn, 1) := by decide +kernel
theorem dX8_init_0 : decode cX8_init 0 = .ok (.aload_n 0, 1) := by decide +kernel
theorem dX8_init_1 : decode cX8_init 1 = .ok (.invokespecial 3, 3) := by decide +kernel
theorem dX8_init_4 : decode cX8_init 4 = .ok (.aload_n 0, 1) := by decide +kernel
theorem dX8_init_5 : decode cX8_init 5 = .ok (.sipush 160, 3) := by decide +kernel
theorem dX8_init_8 : decode cX8_init 8 = .ok (.newarray .byte, 2) := by decide +kernel
theorem dX8_init_10 : decode cX8_init 10 = .ok (.putfield 9, 3) := by decide +kernel
theorem dX8_init_13 : decode cX8_init 13 = .ok (.return_, 1) := by decide +kernel
theorem dX8_append_0 : decode cX8_append 0 = .ok (.iconst 0, 1) := by decide +kernel
theorem dX8_append_1 : decode cX8_append 1 = .ok (.istore 4, 2) := by decide +kernel
theorem dX8_append_3 : decode cX8_append 3 = .ok (.iload 4, 2) := by decide +kernel
theorem dX8_append_5 : decode cX8_append 5 = .ok (.iload_n 1, 1) := by decide +kernel
theorem dX8_append_6 : decode cX8_append 6 = .ok (.if_icmp .ge 47, 3) := by decide +kernel
theorem dX8_append_9 : decode cX8_append 9 = .ok (.aload_n 0, 1) := by decide +kernel
theorem dX8_append_10 : decode cX8_append 10 = .ok (.getfield 15, 3) := by decide +kernel
theorem dX8_append_13 : decode cX8_append 13 = .ok (.sipush 160, 3) := by decide +kernel
theorem dX8_append_16 : decode cX8_append 16 = .ok (.if_icmp .ge 37, 3) := by decide +kernel
theorem dX8_append_19 : decode cX8_append 19 = .ok (.aload_n 0, 1) := by decide +kernel
theorem dX8_append_20 : decode cX8_append 20 = .ok (.getfield 9, 3) := by decide +kernel
theorem dX8_append_23 : decode cX8_append 23 = .ok (.aload_n 0, 1) := by decide +kernel
theorem dX8_append_24 : decode cX8_append 24 = .ok (.getfield 15, 3) := by decide +kernel
theorem dX8_append_27 : decode cX8_append 27 = .ok (.lload_n 2, 1) := by decide +kernel
theorem dX8_append_28 : decode cX8_append 28 = .ok (.bipush 8, 2) := by decide +kernel
theorem dX8_append_30 : decode cX8_append 30 = .ok (.iload 4, 2) := by decide +kernel
theorem dX8_append_32 : decode cX8_append 32 = .ok (.imul, 1) := by decide +kernel
theorem dX8_append_33 : decode cX8_append 33 = .ok (.lushr, 1) := by decide +kernel
theorem dX8_append_34 : decode cX8_append 34 = .ok (.l2i, 1) := by decide +kernel
theorem dX8_append_35 : decode cX8_append 35 = .ok (.i2b, 1) := by decide +kernel
theorem dX8_append_36 : decode cX8_append 36 = .ok (.bastore, 1) := by decide +kernel
theorem dX8_append_37 : decode cX8_append 37 = .ok (.aload_n 0, 1) := by decide +kernel
theorem dX8_append_38 : decode cX8_append 38 = .ok (.dup, 1) := by decide +kernel
theorem dX8_append_39 : decode cX8_append 39 = .ok (.getfield 15, 3) := by decide +kernel
theorem dX8_append_42 : decode cX8_append 42 = .ok (.iconst 1, 1) := by decide +kernel
theorem dX8_append_43 : decode cX8_append 43 = .ok (.iadd, 1) := by decide +kernel
theorem dX8_append_44 : decode cX8_append 44 = .ok (.putfield 15, 3) := by decide +kernel
theorem dX8_append_47 : decode cX8_append 47 = .ok (.iinc 4 1, 3) := by decide +kernel
theorem dX8_append_50 : decode cX8_append 50 = .ok (.goto (-47), 3) := by decide +kernel
theorem dX8_append_53 : decode cX8_append 53 = .ok (.return_, 1) := by decide +kernel
theorem dX8_begin_0 : decode cX8_begin 0 = .ok (.aload_n 0, 1) := by decide +kernel
theorem dX8_begin_1 : decode cX8_begin 1 = .ok (.iconst 0, 1) := by decide +kernel
theorem dX8_begin_2 : decode cX8_begin 2 = .ok (.putfield 19, 3) := by decide +kernel
theorem dX8_begin_5 : decode cX8_begin 5 = .ok (.aload_n 0, 1) := by decide +kernel
theorem dX8_begin_6 : decode cX8_begin 6 = .ok (.invokevirtual 22, 3) := by decide +kernel
theorem dX8_begin_9 : decode cX8_begin 9 = .ok (.return_, 1) := by decide +kernel
theorem dX8_next_0 : decode cX8_next 0 = .ok (.aload_n 0, 1) := by decide +kernel
theorem dX8_next_1 : decode cX8_next 1 = .ok (.aload_n 0, 1) := by decide +kernel
theorem dX8_next_2 : decode cX8_next 2 = .ok (.getfield 19, 3) := by decide +kernel
theorem dX8_next_5 : decode cX8_next 5 = .ok (.putfield 25, 3) := by decide +kernel
theorem dX8_next_8 : decode cX8_next 8 = .ok (.aload_n 0, 1) := by decide +kernel
theorem dX8_next_9 : decode cX8_next 9 = .ok (.getfield 25, 3) := by decide +kernel
theorem dX8_next_12 : decode cX8_next 12 = .ok (.aload_n 0, 1) := by decide +kernel
theorem dX8_next_13 : decode cX8_next 13 = .ok (.getfield 15, 3) := by decide +kernel
theorem dX8_next_16 : decode cX8_next 16 = .ok (.if_icmp .ge 30, 3) := by decide +kernel
theorem dX8_next_19 : decode cX8_next 19 = .ok (.aload_n 0, 1) := by decide +kernel
theorem dX8_next_20 : decode cX8_next 20 = .ok (.aload_n 0, 1) := by decide +kernel
theorem dX8_next_21 : decode cX8_next 21 = .ok (.getfield 25, 3) := by decide +kernel
theorem dX8_next_24 : decode cX8_next 24 = .ok (.invokevirtual 28, 3) := by decide +kernel
theorem dX8_next_27 : decode cX8_next 27 = .ok (.invokestatic 32, 3) := by decide +kernel
theorem dX8_next_30 : decode cX8_next 30 = .ok (.ifCond .eq 16, 3) := by decide +kernel
theorem dX8_next_33 : decode cX8_next 33 = .ok (.aload_n 0, 1) := by decide +kernel
theorem dX8_next_34 : decode cX8_next 34 = .ok (.dup, 1) := by decide +kernel
theorem dX8_next_35 : decode cX8_next 35 = .ok (.getfield 25, 3) := by decide +kernel
theorem dX8_next_38 : decode cX8_next 38 = .ok (.iconst 1, 1) := by decide +kernel
theorem dX8_next_39 : decode cX8_next 39 = .ok (.iadd, 1) := by decide +kernel
theorem dX8_next_40 : decode cX8_next 40 = .ok (.putfield 25, 3) := by decide +kernel
theorem dX8_next_43 : decode cX8_next 43 = .ok (.goto (-35), 3) := by decide +kernel
theorem dX8_next_46 : decode cX8_next 46 = .ok (.aload_n 0, 1) := by decide +kernel
theorem dX8_next_47 : decode cX8_next 47 = .ok (.aload_n 0, 1) := by decide +kernel
theorem dX8_next_48 : decode cX8_next 48 = .ok (.getfield 25, 3) := by decide +kernel
theorem dX8_next_51 : decode cX8_next 51 = .ok (.putfield 19, 3) := by decide +kernel
theorem dX8_next_54 : decode cX8_next 54 = .ok (.aload_n 0, 1) := by decide +kernel
theorem dX8_next_55 : decode cX8_next 55 = .ok (.aload_n 0, 1) := by decide +kernel
theorem dX8_next_56 : decode cX8_next 56 = .ok (.getfield 25, 3) := by decide +kernel
theorem dX8_next_59 : decode cX8_next 59 = .ok (.invokevirtual 28, 3) := by decide +kernel
theorem dX8_next_62 : decode cX8_next 62 = .ok (.istore_n 1, 1) := by decide +kernel
theorem dX8_next_63 : decode cX8_next 63 = .ok (.aload_n 0, 1) := by decide +kernel
theorem dX8_next_64 : decode cX8_next 64 = .ok (.getfield 25, 3) := by decide +kernel
theorem dX8_next_67 : decode cX8_next 67 = .ok (.aload_n 0, 1) := by decide +kernel
theorem dX8_next_68 : decode cX8_next 68 = .ok (.getfield 15, 3) := by decide +kernel
theorem dX8_next_71 : decode cX8_next 71 = .ok (.if_icmp .lt 11, 3) := by decide +kernel
theorem dX8_next_74 : decode cX8_next 74 = .ok (.aload_n 0, 1) := by decide +kernel
theorem dX8_next_75 : decode cX8_next 75 = .ok (.iconst 0, 1) := by decide +kernel
theorem dX8_next_76 : decode cX8_next 76 = .ok (.putfield 36, 3) := by decide +kernel
theorem dX8_next_79 : decode cX8_next 79 = .ok (.goto 96, 3) := by decide +kernel
theorem dX8_next_82 : decode cX8_next 82 = .ok (.iload_n 1, 1) := by decide +kernel
theorem dX8_next_83 : decode cX8_next 83 = .ok (.invokestatic 39, 3) := by decide +kernel
theorem dX8_next_86 : decode cX8_next 86 = .ok (.ifCond .eq 46, 3) := by decide +kernel
theorem dX8_next_89 : decode cX8_next 89 = .ok (.aload_n 0, 1) := by decide +kernel
theorem dX8_next_90 : decode cX8_next 90 = .ok (.iconst 1, 1) := by decide +kernel
theorem dX8_next_91 : decode cX8_next 91 = .ok (.putfield 36, 3) := by decide +kernel
theorem dX8_next_94 : decode cX8_next 94 = .ok (.aload_n 0, 1) := by decide +kernel
theorem dX8_next_95 : decode cX8_next 95 = .ok (.getfield 19, 3) := by decide +kernel
theorem dX8_next_98 : decode cX8_next 98 = .ok (.aload_n 0, 1) := by decide +kernel
theorem dX8_next_99 : decode cX8_next 99 = .ok (.getfield 15, 3) := by decide +kernel
theorem dX8_next_102 : decode cX8_next 102 = .ok (.if_icmp .ge 73, 3) := by decide +kernel
theorem dX8_next_105 : decode cX8_next 105 = .ok (.aload_n 0, 1) := by decide +kernel
theorem dX8_next_106 : decode cX8_next 106 = .ok (.aload_n 0, 1) := by decide +kernel
theorem dX8_next_107 : decode cX8_next 107 = .ok (.getfield 19, 3) := by decide +kernel
theorem dX8_next_110 : decode cX8_next 110 = .ok (.invokevirtual 28, 3) := by decide +kernel
theorem dX8_next_113 : decode cX8_next 113 = .ok (.invokestatic 39, 3) := by decide +kernel
theorem dX8_next_116 : decode cX8_next 116 = .ok (.ifCond .eq 59, 3) := by decide +kernel
theorem dX8_next_119 : decode cX8_next 119 = .ok (.aload_n 0, 1) := by decide +kernel
theorem dX8_next_120 : decode cX8_next 120 = .ok (.dup, 1) := by decide +kernel
theorem dX8_next_121 : decode cX8_next 121 = .ok (.getfield 19, 3) := by decide +kernel
theorem dX8_next_124 : decode cX8_next 124 = .ok (.iconst 1, 1) := by decide +kernel
theorem dX8_next_125 : decode cX8_next 125 = .ok (.iadd, 1) := by decide +kernel
theorem dX8_next_126 : decode cX8_next 126 = .ok (.putfield 19, 3) := by decide +kernel
theorem dX8_next_129 : decode cX8_next 129 = .ok (.goto (-35), 3) := by decide +kernel
theorem dX8_next_132 : decode cX8_next 132 = .ok (.iload_n 1, 1) := by decide +kernel
theorem dX8_next_133 : decode cX8_next 133 = .ok (.invokestatic 42, 3) := by decide +kernel
theorem dX8_next_136 : decode cX8_next 136 = .ok (.ifCond .eq 10, 3) := by decide +kernel
theorem dX8_next_139 : decode cX8_next 139 = .ok (.aload_n 0, 1) := by decide +kernel
theorem dX8_next_140 : decode cX8_next 140 = .ok (.invokevirtual 45, 3) := by decide +kernel
theorem dX8_next_143 : decode cX8_next 143 = .ok (.goto 32, 3) := by decide +kernel
theorem dX8_next_146 : decode cX8_next 146 = .ok (.aload_n 0, 1) := by decide +kernel
theorem dX8_next_147 : decode cX8_next 147 = .ok (.ldc 48, 2) := by decide +kernel
theorem dX8_next_149 : decode cX8_next 149 = .ok (.iload_n 1, 1) := by decide +kernel
theorem dX8_next_150 : decode cX8_next 150 = .ok (.i2c, 1) := by decide +kernel
theorem dX8_next_151 : decode cX8_next 151 = .ok (.invokevirtual 50, 3) := by decide +kernel
theorem dX8_next_154 : decode cX8_next 154 = .ok (.ifCond .lt 7, 3) := by decide +kernel
theorem dX8_next_157 : decode cX8_next 157 = .ok (.iconst 3, 1) := by decide +kernel
theorem dX8_next_158 : decode cX8_next 158 = .ok (.goto 4, 3) := by decide +kernel
theorem dX8_next_161 : decode cX8_next 161 = .ok (.iconst 4, 1) := by decide +kernel
theorem dX8_next_162 : decode cX8_next 162 = .ok (.putfield 36, 3) := by decide +kernel
theorem dX8_next_165 : decode cX8_next 165 = .ok (.aload_n 0, 1) := by decide +kernel
theorem dX8_next_166 : decode cX8_next 166 = .ok (.dup, 1) := by decide +kernel
theorem dX8_next_167 : decode cX8_next 167 = .ok (.getfield 19, 3) := by decide +kernel
theorem dX8_next_170 : decode cX8_next 170 = .ok (.iconst 1, 1) := by decide +kernel
theorem dX8_next_171 : decode cX8_next 171 = .ok (.iadd, 1) := by decide +kernel
theorem dX8_next_172 : decode cX8_next 172 = .ok (.putfield 19, 3) := by decide +kernel
theorem dX8_next_175 : decode cX8_next 175 = .ok (.return_, 1) := by decide +kernel
theorem dX8_readNumber_0 : decode cX8_readNumber 0 = .ok (.aload_n 0, 1) := by decide +kernel
theorem dX8_readNumber_1 : decode cX8_readNumber 1 = .ok (.iconst 0, 1) := by decide +kernel
theorem dX8_readNumber_2 : decode cX8_readNumber 2 = .ok (.putfield 55, 3) := by decide +kernel
theorem dX8_readNumber_5 : decode cX8_readNumber 5 = .ok (.aload_n 0, 1) := by decide +kernel
theorem dX8_readNumber_6 : decode cX8_readNumber 6 = .ok (.getfield 19, 3) := by decide +kernel
theorem dX8_readNumber_9 : decode cX8_readNumber 9 = .ok (.aload_n 0, 1) := by decide +kernel
theorem dX8_readNumber_10 : decode cX8_readNumber 10 = .ok (.getfield 15, 3) := by decide +kernel
theorem dX8_readNumber_13 : decode cX8_readNumber 13 = .ok (.if_icmp .ge 53, 3) := by decide +kernel
theorem dX8_readNumber_16 : decode cX8_readNumber 16 = .ok (.aload_n 0, 1) := by decide +kernel
theorem dX8_readNumber_17 : decode cX8_readNumber 17 = .ok (.aload_n 0, 1) := by decide +kernel
theorem dX8_readNumber_18 : decode cX8_readNumber 18 = .ok (.getfield 19, 3) := by decide +kernel
theorem dX8_readNumber_21 : decode cX8_readNumber 21 = .ok (.invokevirtual 28, 3) := by decide +kernel
theorem dX8_readNumber_24 : decode cX8_readNumber 24 = .ok (.invokestatic 42, 3) := by decide +kernel
theorem dX8_readNumber_27 : decode cX8_readNumber 27 = .ok (.ifCond .eq 39, 3) := by decide +kernel
theorem dX8_readNumber_30 : decode cX8_readNumber 30 = .ok (.aload_n 0, 1) := by decide +kernel
theorem dX8_readNumber_31 : decode cX8_readNumber 31 = .ok (.aload_n 0, 1) := by decide +kernel
theorem dX8_readNumber_32 : decode cX8_readNumber 32 = .ok (.getfield 55, 3) := by decide +kernel
theorem dX8_readNumber_35 : decode cX8_readNumber 35 = .ok (.bipush 10, 2) := by decide +kernel
theorem dX8_readNumber_37 : decode cX8_readNumber 37 = .ok (.imul, 1) := by decide +kernel
theorem dX8_readNumber_38 : decode cX8_readNumber 38 = .ok (.aload_n 0, 1) := by decide +kernel
theorem dX8_readNumber_39 : decode cX8_readNumber 39 = .ok (.aload_n 0, 1) := by decide +kernel
theorem dX8_readNumber_40 : decode cX8_readNumber 40 = .ok (.getfield 19, 3) := by decide +kernel
theorem dX8_readNumber_43 : decode cX8_readNumber 43 = .ok (.invokevirtual 28, 3) := by decide +kernel
theorem dX8_readNumber_46 : decode cX8_readNumber 46 = .ok (.iadd, 1) := by decide +kernel
theorem dX8_readNumber_47 : decode cX8_readNumber 47 = .ok (.bipush 48, 2) := by decide +kernel
theorem dX8_readNumber_49 : decode cX8_readNumber 49 = .ok (.isub, 1) := by decide +kernel
theorem dX8_readNumber_50 : decode cX8_readNumber 50 = .ok (.putfield 55, 3) := by decide +kernel
theorem dX8_readNumber_53 : decode cX8_readNumber 53 = .ok (.aload_n 0, 1) := by decide +kernel
theorem dX8_readNumber_54 : decode cX8_readNumber 54 = .ok (.dup, 1) := by decide +kernel
theorem dX8_readNumber_55 : decode cX8_readNumber 55 = .ok (.getfield 19, 3) := by decide +kernel
theorem dX8_readNumber_58 : decode cX8_readNumber 58 = .ok (.iconst 1, 1) := by decide +kernel
theorem dX8_readNumber_59 : decode cX8_readNumber 59 = .ok (.iadd, 1) := by decide +kernel
theorem dX8_readNumber_60 : decode cX8_readNumber 60 = .ok (.putfield 19, 3) := by decide +kernel
theorem dX8_readNumber_63 : decode cX8_readNumber 63 = .ok (.goto (-58), 3) := by decide +kernel
theorem dX8_readNumber_66 : decode cX8_readNumber 66 = .ok (.aload_n 0, 1) := by decide +kernel
theorem dX8_readNumber_67 : decode cX8_readNumber 67 = .ok (.aload_n 0, 1) := by decide +kernel
theorem dX8_readNumber_68 : decode cX8_readNumber 68 = .ok (.getfield 19, 3) := by decide +kernel
theorem dX8_readNumber_71 : decode cX8_readNumber 71 = .ok (.aload_n 0, 1) := by decide +kernel
theorem dX8_readNumber_72 : decode cX8_readNumber 72 = .ok (.getfield 25, 3) := by decide +kernel
theorem dX8_readNumber_75 : decode cX8_readNumber 75 = .ok (.isub, 1) := by decide +kernel
theorem dX8_readNumber_76 : decode cX8_readNumber 76 = .ok (.iconst 4, 1) := by decide +kernel
theorem dX8_readNumber_77 : decode cX8_readNumber 77 = .ok (.if_icmp .le 7, 3) := by decide +kernel
theorem dX8_readNumber_80 : decode cX8_readNumber 80 = .ok (.iconst 4, 1) := by decide +kernel
theorem dX8_readNumber_81 : decode cX8_readNumber 81 = .ok (.goto 4, 3) := by decide +kernel
theorem dX8_readNumber_84 : decode cX8_readNumber 84 = .ok (.iconst 2, 1) := by decide +kernel
theorem dX8_readNumber_85 : decode cX8_readNumber 85 = .ok (.putfield 36, 3) := by decide +kernel
theorem dX8_readNumber_88 : decode cX8_readNumber 88 = .ok (.return_, 1) := by decide +kernel
theorem dX8_at_0 : decode cX8_at 0 = .ok (.iload_n 1, 1) := by decide +kernel
theorem dX8_at_1 : decode cX8_at 1 = .ok (.ifCond .lt 31, 3) := by decide +kernel
theorem dX8_at_4 : decode cX8_at 4 = .ok (.iload_n 1, 1) := by decide +kernel
theorem dX8_at_5 : decode cX8_at 5 = .ok (.aload_n 0, 1) := by decide +kernel
theorem dX8_at_6 : decode cX8_at 6 = .ok (.getfield 15, 3) := by decide +kernel
theorem dX8_at_9 : decode cX8_at 9 = .ok (.if_icmp .ge 23, 3) := by decide +kernel
theorem dX8_at_12 : decode cX8_at 12 = .ok (.iload_n 1, 1) := by decide +kernel
theorem dX8_at_13 : decode cX8_at 13 = .ok (.sipush 160, 3) := by decide +kernel
theorem dX8_at_16 : decode cX8_at 16 = .ok (.if_icmp .ge 16, 3) := by decide +kernel
theorem dX8_at_19 : decode cX8_at 19 = .ok (.aload_n 0, 1) := by decide +kernel
theorem dX8_at_20 : decode cX8_at 20 = .ok (.getfield 9, 3) := by decide +kernel
theorem dX8_at_23 : decode cX8_at 23 = .ok (.iload_n 1, 1) := by decide +kernel
theorem dX8_at_24 : decode cX8_at 24 = .ok (.baload, 1) := by decide +kernel
theorem dX8_at_25 : decode cX8_at 25 = .ok (.sipush 255, 3) := by decide +kernel
theorem dX8_at_28 : decode cX8_at 28 = .ok (.iand, 1) := by decide +kernel
theorem dX8_at_29 : decode cX8_at 29 = .ok (.goto 4, 3) := by decide +kernel
theorem dX8_at_32 : decode cX8_at 32 = .ok (.iconst 0, 1) := by decide +kernel
theorem dX8_at_33 : decode cX8_at 33 = .ok (.ireturn, 1) := by decide +kernel
theorem dX8_isBlank_0 : decode cX8_isBlank 0 = .ok (.iload_n 0, 1) := by decide +kernel
theorem dX8_isBlank_1 : decode cX8_isBlank 1 = .ok (.bipush 32, 2) := by decide +kernel
theorem dX8_isBlank_3 : decode cX8_isBlank 3 = .ok (.if_icmp .eq 9, 3) := by decide +kernel
theorem dX8_isBlank_6 : decode cX8_isBlank 6 = .ok (.iload_n 0, 1) := by decide +kernel
theorem dX8_isBlank_7 : decode cX8_isBlank 7 = .ok (.bipush 10, 2) := by decide +kernel
theorem dX8_isBlank_9 : decode cX8_isBlank 9 = .ok (.if_icmp .ne 7, 3) := by decide +kernel
theorem dX8_isBlank_12 : decode cX8_isBlank 12 = .ok (.iconst 1, 1) := by decide +kernel
theorem dX8_isBlank_13 : decode cX8_isBlank 13 = .ok (.goto 4, 3) := by decide +kernel
theorem dX8_isBlank_16 : decode cX8_isBlank 16 = .ok (.iconst 0, 1) := by decide +kernel
theorem dX8_isBlank_17 : decode cX8_isBlank 17 = .ok (.ireturn, 1) := by decide +kernel
theorem dX8_isLetter_0 : decode cX8_isLetter 0 = .ok (.iload_n 0, 1) := by decide +kernel
theorem dX8_isLetter_1 : decode cX8_isLetter 1 = .ok (.bipush 97, 2) := by decide +kernel
theorem dX8_isLetter_3 : decode cX8_isLetter 3 = .ok (.if_icmp .lt 13, 3) := by decide +kernel
theorem dX8_isLetter_6 : decode cX8_isLetter 6 = .ok (.iload_n 0, 1) := by decide +kernel
theorem dX8_isLetter_7 : decode cX8_isLetter 7 = .ok (.bipush 122, 2) := by decide +kernel
theorem dX8_isLetter_9 : decode cX8_isLetter 9 = .ok (.if_icmp .gt 7, 3) := by decide +kernel
theorem dX8_isLetter_12 : decode cX8_isLetter 12 = .ok (.iconst 1, 1) := by decide +kernel
theorem dX8_isLetter_13 : decode cX8_isLetter 13 = .ok (.goto 4, 3) := by decide +kernel
theorem dX8_isLetter_16 : decode cX8_isLetter 16 = .ok (.iconst 0, 1) := by decide +kernel
theorem dX8_isLetter_17 : decode cX8_isLetter 17 = .ok (.ireturn, 1) := by decide +kernel
theorem dX8_isDigit_0 : decode cX8_isDigit 0 = .ok (.iload_n 0, 1) := by decide +kernel
theorem dX8_isDigit_1 : decode cX8_isDigit 1 = .ok (.bipush 48, 2) := by decide +kernel
theorem dX8_isDigit_3 : decode cX8_isDigit 3 = .ok (.if_icmp .lt 13, 3) := by decide +kernel
theorem dX8_isDigit_6 : decode cX8_isDigit 6 = .ok (.iload_n 0, 1) := by decide +kernel
theorem dX8_isDigit_7 : decode cX8_isDigit 7 = .ok (.bipush 57, 2) := by decide +kernel
theorem dX8_isDigit_9 : decode cX8_isDigit 9 = .ok (.if_icmp .gt 7, 3) := by decide +kernel
theorem dX8_isDigit_12 : decode cX8_isDigit 12 = .ok (.iconst 1, 1) := by decide +kernel
theorem dX8_isDigit_13 : decode cX8_isDigit 13 = .ok (.goto 4, 3) := by decide +kernel
theorem dX8_isDigit_16 : decode cX8_isDigit 16 = .ok (.iconst 0, 1) := by decide +kernel
theorem dX8_isDigit_17 : decode cX8_isDigit 17 = .ok (.ireturn, 1) := by decide +kernel
theorem dX8_isEnd_0 : decode cX8_isEnd 0 = .ok (.aload_n 0, 1) := by decide +kernel
theorem dX8_isEnd_1 : decode cX8_isEnd 1 = .ok (.getfield 36, 3) := by decide +kernel
theorem dX8_isEnd_4 : decode cX8_isEnd 4 = .ok (.ifCond .ne 7, 3) := by decide +kernel
theorem dX8_isEnd_7 : decode cX8_isEnd 7 = .ok (.iconst 1, 1) := by decide +kernel
theorem dX8_isEnd_8 : decode cX8_isEnd 8 = .ok (.goto 4, 3) := by decide +kernel
theorem dX8_isEnd_11 : decode cX8_isEnd 11 = .ok (.iconst 0, 1) := by decide +kernel
theorem dX8_isEnd_12 : decode cX8_isEnd 12 = .ok (.ireturn, 1) := by decide +kernel
theorem dX8_isNumber_0 : decode cX8_isNumber 0 = .ok (.aload_n 0, 1) := by decide +kernel
theorem dX8_isNumber_1 : decode cX8_isNumber 1 = .ok (.getfield 36, 3) := by decide +kernel
theorem dX8_isNumber_4 : decode cX8_isNumber 4 = .ok (.iconst 2, 1) := by decide +kernel
theorem dX8_isNumber_5 : decode cX8_isNumber 5 = .ok (.if_icmp .ne 7, 3) := by decide +kernel
theorem dX8_isNumber_8 : decode cX8_isNumber 8 = .ok (.iconst 1, 1) := by decide +kernel
theorem dX8_isNumber_9 : decode cX8_isNumber 9 = .ok (.goto 4, 3) := by decide +kernel
theorem dX8_isNumber_12 : decode cX8_isNumber 12 = .ok (.iconst 0, 1) := by decide +kernel
theorem dX8_isNumber_13 : decode cX8_isNumber 13 = .ok (.ireturn, 1) := by decide +kernel
theorem dX8_isSign_0 : decode cX8_isSign 0 = .ok (.aload_n 0, 1) := by decide +kernel
theorem dX8_isSign_1 : decode cX8_isSign 1 = .ok (.getfield 36, 3) := by decide +kernel
theorem dX8_isSign_4 : decode cX8_isSign 4 = .ok (.iconst 3, 1) := by decide +kernel
theorem dX8_isSign_5 : decode cX8_isSign 5 = .ok (.if_icmp .ne 19, 3) := by decide +kernel
theorem dX8_isSign_8 : decode cX8_isSign 8 = .ok (.aload_n 0, 1) := by decide +kernel
theorem dX8_isSign_9 : decode cX8_isSign 9 = .ok (.aload_n 0, 1) := by decide +kernel
theorem dX8_isSign_10 : decode cX8_isSign 10 = .ok (.getfield 25, 3) := by decide +kernel
theorem dX8_isSign_13 : decode cX8_isSign 13 = .ok (.invokevirtual 28, 3) := by decide +kernel
theorem dX8_isSign_16 : decode cX8_isSign 16 = .ok (.iload_n 1, 1) := by decide +kernel
theorem dX8_isSign_17 : decode cX8_isSign 17 = .ok (.if_icmp .ne 7, 3) := by decide +kernel
theorem dX8_isSign_20 : decode cX8_isSign 20 = .ok (.iconst 1, 1) := by decide +kernel
theorem dX8_isSign_21 : decode cX8_isSign 21 = .ok (.goto 4, 3) := by decide +kernel
theorem dX8_isSign_24 : decode cX8_isSign 24 = .ok (.iconst 0, 1) := by decide +kernel
theorem dX8_isSign_25 : decode cX8_isSign 25 = .ok (.ireturn, 1) := by decide +kernel
theorem dX8_takesSign_0 : decode cX8_takesSign 0 = .ok (.aload_n 0, 1) := by decide +kernel
theorem dX8_takesSign_1 : decode cX8_takesSign 1 = .ok (.aload_n 0, 1) := by decide +kernel
theorem dX8_takesSign_2 : decode cX8_takesSign 2 = .ok (.iload_n 1, 1) := by decide +kernel
theorem dX8_takesSign_3 : decode cX8_takesSign 3 = .ok (.invokevirtual 58, 3) := by decide +kernel
theorem dX8_takesSign_6 : decode cX8_takesSign 6 = .ok (.invokevirtual 62, 3) := by decide +kernel
theorem dX8_takesSign_9 : decode cX8_takesSign 9 = .ok (.ireturn, 1) := by decide +kernel
theorem dX8_takesWord_0 : decode cX8_takesWord 0 = .ok (.aload_n 0, 1) := by decide +kernel
theorem dX8_takesWord_1 : decode cX8_takesWord 1 = .ok (.aload_n 0, 1) := by decide +kernel
theorem dX8_takesWord_2 : decode cX8_takesWord 2 = .ok (.aload_n 1, 1) := by decide +kernel
theorem dX8_takesWord_3 : decode cX8_takesWord 3 = .ok (.invokevirtual 66, 3) := by decide +kernel
theorem dX8_takesWord_6 : decode cX8_takesWord 6 = .ok (.ifCond .ne 7, 3) := by decide +kernel
theorem dX8_takesWord_9 : decode cX8_takesWord 9 = .ok (.iconst 1, 1) := by decide +kernel
theorem dX8_takesWord_10 : decode cX8_takesWord 10 = .ok (.goto 4, 3) := by decide +kernel
theorem dX8_takesWord_13 : decode cX8_takesWord 13 = .ok (.iconst 0, 1) := by decide +kernel
theorem dX8_takesWord_14 : decode cX8_takesWord 14 = .ok (.invokevirtual 62, 3) := by decide +kernel
theorem dX8_takesWord_17 : decode cX8_takesWord 17 = .ok (.ireturn, 1) := by decide +kernel
theorem dX8_goesOn_0 : decode cX8_goesOn 0 = .ok (.iload_n 1, 1) := by decide +kernel
theorem dX8_goesOn_1 : decode cX8_goesOn 1 = .ok (.ifCond .eq 7, 3) := by decide +kernel
theorem dX8_goesOn_4 : decode cX8_goesOn 4 = .ok (.aload_n 0, 1) := by decide +kernel
theorem dX8_goesOn_5 : decode cX8_goesOn 5 = .ok (.invokevirtual 22, 3) := by decide +kernel
theorem dX8_goesOn_8 : decode cX8_goesOn 8 = .ok (.iload_n 1, 1) := by decide +kernel
theorem dX8_goesOn_9 : decode cX8_goesOn 9 = .ok (.ireturn, 1) := by decide +kernel
theorem dX8_which_0 : decode cX8_which 0 = .ok (.aload_n 0, 1) := by decide +kernel
theorem dX8_which_1 : decode cX8_which 1 = .ok (.getfield 36, 3) := by decide +kernel
theorem dX8_which_4 : decode cX8_which 4 = .ok (.iconst 1, 1) := by decide +kernel
theorem dX8_which_5 : decode cX8_which 5 = .ok (.if_icmp .eq 5, 3) := by decide +kernel
theorem dX8_which_8 : decode cX8_which 8 = .ok (.iconst (-1), 1) := by decide +kernel
theorem dX8_which_9 : decode cX8_which 9 = .ok (.ireturn, 1) := by decide +kernel
theorem dX8_which_10 : decode cX8_which 10 = .ok (.iconst 0, 1) := by decide +kernel
theorem dX8_which_11 : decode cX8_which 11 = .ok (.istore_n 2, 1) := by decide +kernel
theorem dX8_which_12 : decode cX8_which 12 = .ok (.iconst 0, 1) := by decide +kernel
theorem dX8_which_13 : decode cX8_which 13 = .ok (.istore_n 3, 1) := by decide +kernel
theorem dX8_which_14 : decode cX8_which 14 = .ok (.iconst 0, 1) := by decide +kernel
theorem dX8_which_15 : decode cX8_which 15 = .ok (.istore 4, 2) := by decide +kernel
theorem dX8_which_17 : decode cX8_which 17 = .ok (.iload 4, 2) := by decide +kernel
theorem dX8_which_19 : decode cX8_which 19 = .ok (.aload_n 1, 1) := by decide +kernel
theorem dX8_which_20 : decode cX8_which 20 = .ok (.invokevirtual 70, 3) := by decide +kernel
theorem dX8_which_23 : decode cX8_which 23 = .ok (.if_icmp .gt 50, 3) := by decide +kernel
theorem dX8_which_26 : decode cX8_which 26 = .ok (.iload 4, 2) := by decide +kernel
theorem dX8_which_28 : decode cX8_which 28 = .ok (.aload_n 1, 1) := by decide +kernel
theorem dX8_which_29 : decode cX8_which 29 = .ok (.invokevirtual 70, 3) := by decide +kernel
theorem dX8_which_32 : decode cX8_which 32 = .ok (.if_icmp .eq 14, 3) := by decide +kernel
theorem dX8_which_35 : decode cX8_which 35 = .ok (.aload_n 1, 1) := by decide +kernel
theorem dX8_which_36 : decode cX8_which 36 = .ok (.iload 4, 2) := by decide +kernel
theorem dX8_which_38 : decode cX8_which 38 = .ok (.invokevirtual 74, 3) := by decide +kernel
theorem dX8_which_41 : decode cX8_which 41 = .ok (.bipush 32, 2) := by decide +kernel
theorem dX8_which_43 : decode cX8_which 43 = .ok (.if_icmp .ne 24, 3) := by decide +kernel
theorem dX8_which_46 : decode cX8_which 46 = .ok (.aload_n 0, 1) := by decide +kernel
theorem dX8_which_47 : decode cX8_which 47 = .ok (.aload_n 1, 1) := by decide +kernel
theorem dX8_which_48 : decode cX8_which 48 = .ok (.iload_n 3, 1) := by decide +kernel
theorem dX8_which_49 : decode cX8_which 49 = .ok (.iload 4, 2) := by decide +kernel
theorem dX8_which_51 : decode cX8_which 51 = .ok (.invokevirtual 78, 3) := by decide +kernel
theorem dX8_which_54 : decode cX8_which 54 = .ok (.ifCond .eq 5, 3) := by decide +kernel
theorem dX8_which_57 : decode cX8_which 57 = .ok (.iload_n 2, 1) := by decide +kernel
theorem dX8_which_58 : decode cX8_which 58 = .ok (.ireturn, 1) := by decide +kernel
theorem dX8_which_59 : decode cX8_which 59 = .ok (.iinc 2 1, 3) := by decide +kernel
theorem dX8_which_62 : decode cX8_which 62 = .ok (.iload 4, 2) := by decide +kernel
theorem dX8_which_64 : decode cX8_which 64 = .ok (.iconst 1, 1) := by decide +kernel
theorem dX8_which_65 : decode cX8_which 65 = .ok (.iadd, 1) := by decide +kernel
theorem dX8_which_66 : decode cX8_which 66 = .ok (.istore_n 3, 1) := by decide +kernel
theorem dX8_which_67 : decode cX8_which 67 = .ok (.iinc 4 1, 3) := by decide +kernel
theorem dX8_which_70 : decode cX8_which 70 = .ok (.goto (-53), 3) := by decide +kernel
theorem dX8_which_73 : decode cX8_which 73 = .ok (.iconst (-1), 1) := by decide +kernel
theorem dX8_which_74 : decode cX8_which 74 = .ok (.ireturn, 1) := by decide +kernel
theorem dX8_isSame_0 : decode cX8_isSame 0 = .ok (.iload_n 3, 1) := by decide +kernel
theorem dX8_isSame_1 : decode cX8_isSame 1 = .ok (.iload_n 2, 1) := by decide +kernel
theorem dX8_isSame_2 : decode cX8_isSame 2 = .ok (.isub, 1) := by decide +kernel
theorem dX8_isSame_3 : decode cX8_isSame 3 = .ok (.aload_n 0, 1) := by decide +kernel
theorem dX8_isSame_4 : decode cX8_isSame 4 = .ok (.getfield 19, 3) := by decide +kernel
theorem dX8_isSame_7 : decode cX8_isSame 7 = .ok (.aload_n 0, 1) := by decide +kernel
theorem dX8_isSame_8 : decode cX8_isSame 8 = .ok (.getfield 25, 3) := by decide +kernel
theorem dX8_isSame_11 : decode cX8_isSame 11 = .ok (.isub, 1) := by decide +kernel
theorem dX8_isSame_12 : decode cX8_isSame 12 = .ok (.if_icmp .eq 5, 3) := by decide +kernel
theorem dX8_isSame_15 : decode cX8_isSame 15 = .ok (.iconst 0, 1) := by decide +kernel
theorem dX8_isSame_16 : decode cX8_isSame 16 = .ok (.ireturn, 1) := by decide +kernel
theorem dX8_isSame_17 : decode cX8_isSame 17 = .ok (.iload_n 2, 1) := by decide +kernel
theorem dX8_isSame_18 : decode cX8_isSame 18 = .ok (.istore 4, 2) := by decide +kernel
theorem dX8_isSame_20 : decode cX8_isSame 20 = .ok (.iload 4, 2) := by decide +kernel
theorem dX8_isSame_22 : decode cX8_isSame 22 = .ok (.iload_n 3, 1) := by decide +kernel
theorem dX8_isSame_23 : decode cX8_isSame 23 = .ok (.if_icmp .ge 33, 3) := by decide +kernel
theorem dX8_isSame_26 : decode cX8_isSame 26 = .ok (.aload_n 1, 1) := by decide +kernel
theorem dX8_isSame_27 : decode cX8_isSame 27 = .ok (.iload 4, 2) := by decide +kernel
theorem dX8_isSame_29 : decode cX8_isSame 29 = .ok (.invokevirtual 74, 3) := by decide +kernel
theorem dX8_isSame_32 : decode cX8_isSame 32 = .ok (.aload_n 0, 1) := by decide +kernel
theorem dX8_isSame_33 : decode cX8_isSame 33 = .ok (.aload_n 0, 1) := by decide +kernel
theorem dX8_isSame_34 : decode cX8_isSame 34 = .ok (.getfield 25, 3) := by decide +kernel
theorem dX8_isSame_37 : decode cX8_isSame 37 = .ok (.iload 4, 2) := by decide +kernel
theorem dX8_isSame_39 : decode cX8_isSame 39 = .ok (.iadd, 1) := by decide +kernel
theorem dX8_isSame_40 : decode cX8_isSame 40 = .ok (.iload_n 2, 1) := by decide +kernel
theorem dX8_isSame_41 : decode cX8_isSame 41 = .ok (.isub, 1) := by decide +kernel
theorem dX8_isSame_42 : decode cX8_isSame 42 = .ok (.invokevirtual 28, 3) := by decide +kernel
theorem dX8_isSame_45 : decode cX8_isSame 45 = .ok (.if_icmp .eq 5, 3) := by decide +kernel
theorem dX8_isSame_48 : decode cX8_isSame 48 = .ok (.iconst 0, 1) := by decide +kernel
theorem dX8_isSame_49 : decode cX8_isSame 49 = .ok (.ireturn, 1) := by decide +kernel
theorem dX8_isSame_50 : decode cX8_isSame 50 = .ok (.iinc 4 1, 3) := by decide +kernel
theorem dX8_isSame_53 : decode cX8_isSame 53 = .ok (.goto (-33), 3) := by decide +kernel
theorem dX8_isSame_56 : decode cX8_isSame 56 = .ok (.iconst 1, 1) := by decide +kernel
theorem dX8_isSame_57 : decode cX8_isSame 57 = .ok (.ireturn, 1) := by decide +kernel
end
