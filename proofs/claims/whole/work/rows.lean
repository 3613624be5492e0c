section
-- ===== PART A: goes FIRST, ahead of the names: the tables' words, and 'selects' of the private methods out of them =====
/-- a private method of a class that the tables say can be made, by its rows of tables_1 -/
def lw_okq (q : MethodName × Nat) : Prop := (q.1.cls ≠ "java/lang/invoke/MethodHandle" ∧ q.1.cls ≠ "java/lang/invoke/VarHandle") ∧ Cond.instantiable q.1.cls q.2 ∈ tables_1 ∧ Cond.privateMethod q.1 ∈ tables_1 ∧ Cond.instanceMethod q.1 ∈ tables_1
theorem lw_p0 : lw_okq (⟨"LayerBook$Order", "writeRest", "(I)V"⟩, 2) := ⟨⟨by decide +kernel, by decide +kernel⟩, List.mem_of_getElem? (i := 325) (by decide +kernel), List.mem_of_getElem? (i := 333) (by decide +kernel), List.mem_of_getElem? (i := 334) (by decide +kernel)⟩
theorem lw_p1 : lw_okq (⟨"LayerBook$Tape", "at", "(I)I"⟩, 6) := ⟨⟨by decide +kernel, by decide +kernel⟩, List.mem_of_getElem? (i := 267) (by decide +kernel), List.mem_of_getElem? (i := 488) (by decide +kernel), List.mem_of_getElem? (i := 489) (by decide +kernel)⟩
theorem lw_p2 : lw_okq (⟨"LayerBook$Tape", "readNumber", "()V"⟩, 6) := ⟨⟨by decide +kernel, by decide +kernel⟩, List.mem_of_getElem? (i := 267) (by decide +kernel), List.mem_of_getElem? (i := 501) (by decide +kernel), List.mem_of_getElem? (i := 502) (by decide +kernel)⟩
theorem lw_p3 : lw_okq (⟨"LayerBook$Tape", "isSame", "(Ljava/lang/String;II)Z"⟩, 6) := ⟨⟨by decide +kernel, by decide +kernel⟩, List.mem_of_getElem? (i := 267) (by decide +kernel), List.mem_of_getElem? (i := 618) (by decide +kernel), List.mem_of_getElem? (i := 619) (by decide +kernel)⟩
theorem lw_p4 : lw_okq (⟨"LayerBook$Law", "readChain", "(LLayerBook$Tape;I)Z"⟩, 5) := ⟨⟨by decide +kernel, by decide +kernel⟩, List.mem_of_getElem? (i := 304) (by decide +kernel), List.mem_of_getElem? (i := 623) (by decide +kernel), List.mem_of_getElem? (i := 624) (by decide +kernel)⟩
theorem lw_p5 : lw_okq (⟨"LayerBook$Law", "readCompared", "(LLayerBook$Tape;)Z"⟩, 5) := ⟨⟨by decide +kernel, by decide +kernel⟩, List.mem_of_getElem? (i := 304) (by decide +kernel), List.mem_of_getElem? (i := 627) (by decide +kernel), List.mem_of_getElem? (i := 628) (by decide +kernel)⟩
theorem lw_p6 : lw_okq (⟨"LayerBook$Law", "opens", "(LLayerBook$Tape;)Z"⟩, 5) := ⟨⟨by decide +kernel, by decide +kernel⟩, List.mem_of_getElem? (i := 304) (by decide +kernel), List.mem_of_getElem? (i := 632) (by decide +kernel), List.mem_of_getElem? (i := 633) (by decide +kernel)⟩
theorem lw_p7 : lw_okq (⟨"LayerBook$Law", "closes", "()Z"⟩, 5) := ⟨⟨by decide +kernel, by decide +kernel⟩, List.mem_of_getElem? (i := 304) (by decide +kernel), List.mem_of_getElem? (i := 636) (by decide +kernel), List.mem_of_getElem? (i := 637) (by decide +kernel)⟩
theorem lw_p8 : lw_okq (⟨"LayerBook$Law", "write", "(I)Z"⟩, 5) := ⟨⟨by decide +kernel, by decide +kernel⟩, List.mem_of_getElem? (i := 304) (by decide +kernel), List.mem_of_getElem? (i := 640) (by decide +kernel), List.mem_of_getElem? (i := 641) (by decide +kernel)⟩
theorem lw_p9 : lw_okq (⟨"LayerBook$Law", "readOne", "(LLayerBook$Tape;)Z"⟩, 5) := ⟨⟨by decide +kernel, by decide +kernel⟩, List.mem_of_getElem? (i := 304) (by decide +kernel), List.mem_of_getElem? (i := 653) (by decide +kernel), List.mem_of_getElem? (i := 654) (by decide +kernel)⟩
theorem lw_p10 : lw_okq (⟨"LayerBook$Tape", "goesOn", "(Z)Z"⟩, 6) := ⟨⟨by decide +kernel, by decide +kernel⟩, List.mem_of_getElem? (i := 267) (by decide +kernel), List.mem_of_getElem? (i := 662) (by decide +kernel), List.mem_of_getElem? (i := 663) (by decide +kernel)⟩
theorem lw_p11 : lw_okq (⟨"LayerBook", "orderIn", "(I)LLayerBook$Order;"⟩, 15) := ⟨⟨by decide +kernel, by decide +kernel⟩, List.mem_of_getElem? (i := 19) (by decide +kernel), List.mem_of_getElem? (i := 750) (by decide +kernel), List.mem_of_getElem? (i := 751) (by decide +kernel)⟩
theorem lw_p12 : lw_okq (⟨"LayerBook$Fall", "turnTrip", "(J)V"⟩, 10) := ⟨⟨by decide +kernel, by decide +kernel⟩, List.mem_of_getElem? (i := 110) (by decide +kernel), List.mem_of_getElem? (i := 758) (by decide +kernel), List.mem_of_getElem? (i := 759) (by decide +kernel)⟩
theorem lw_p13 : lw_okq (⟨"LayerBook$Fall", "lostShare", "()J"⟩, 10) := ⟨⟨by decide +kernel, by decide +kernel⟩, List.mem_of_getElem? (i := 110) (by decide +kernel), List.mem_of_getElem? (i := 762) (by decide +kernel), List.mem_of_getElem? (i := 763) (by decide +kernel)⟩
theorem lw_p14 : lw_okq (⟨"LayerBook$Fall", "takeSteps", "(ILLayerBook$Month;LLayerBook$Order;)V"⟩, 10) := ⟨⟨by decide +kernel, by decide +kernel⟩, List.mem_of_getElem? (i := 110) (by decide +kernel), List.mem_of_getElem? (i := 776) (by decide +kernel), List.mem_of_getElem? (i := 777) (by decide +kernel)⟩
theorem lw_p15 : lw_okq (⟨"LayerBook$Fall", "passes", "([IILLayerBook$Month;)Z"⟩, 10) := ⟨⟨by decide +kernel, by decide +kernel⟩, List.mem_of_getElem? (i := 110) (by decide +kernel), List.mem_of_getElem? (i := 780) (by decide +kernel), List.mem_of_getElem? (i := 781) (by decide +kernel)⟩
def lw_privs_1 : List (MethodName × Nat) := [(⟨"LayerBook$Order", "writeRest", "(I)V"⟩, 2), (⟨"LayerBook$Tape", "at", "(I)I"⟩, 6), (⟨"LayerBook$Tape", "readNumber", "()V"⟩, 6), (⟨"LayerBook$Tape", "isSame", "(Ljava/lang/String;II)Z"⟩, 6), (⟨"LayerBook$Law", "readChain", "(LLayerBook$Tape;I)Z"⟩, 5), (⟨"LayerBook$Law", "readCompared", "(LLayerBook$Tape;)Z"⟩, 5), (⟨"LayerBook$Law", "opens", "(LLayerBook$Tape;)Z"⟩, 5), (⟨"LayerBook$Law", "closes", "()Z"⟩, 5), (⟨"LayerBook$Law", "write", "(I)Z"⟩, 5), (⟨"LayerBook$Law", "readOne", "(LLayerBook$Tape;)Z"⟩, 5), (⟨"LayerBook$Tape", "goesOn", "(Z)Z"⟩, 6), (⟨"LayerBook", "orderIn", "(I)LLayerBook$Order;"⟩, 15), (⟨"LayerBook$Fall", "turnTrip", "(J)V"⟩, 10), (⟨"LayerBook$Fall", "lostShare", "()J"⟩, 10), (⟨"LayerBook$Fall", "takeSteps", "(ILLayerBook$Month;LLayerBook$Order;)V"⟩, 10), (⟨"LayerBook$Fall", "passes", "([IILLayerBook$Month;)Z"⟩, 10)]
theorem lw_r1 : ∀ q ∈ lw_privs_1, lw_okq q := List.forall_mem_cons.mpr ⟨lw_p0, List.forall_mem_cons.mpr ⟨lw_p1, List.forall_mem_cons.mpr ⟨lw_p2, List.forall_mem_cons.mpr ⟨lw_p3, List.forall_mem_cons.mpr ⟨lw_p4, List.forall_mem_cons.mpr ⟨lw_p5, List.forall_mem_cons.mpr ⟨lw_p6, List.forall_mem_cons.mpr ⟨lw_p7, List.forall_mem_cons.mpr ⟨lw_p8, List.forall_mem_cons.mpr ⟨lw_p9, List.forall_mem_cons.mpr ⟨lw_p10, List.forall_mem_cons.mpr ⟨lw_p11, List.forall_mem_cons.mpr ⟨lw_p12, List.forall_mem_cons.mpr ⟨lw_p13, List.forall_mem_cons.mpr ⟨lw_p14, List.forall_mem_cons.mpr ⟨lw_p15, fun _ h => absurd h List.not_mem_nil⟩⟩⟩⟩⟩⟩⟩⟩⟩⟩⟩⟩⟩⟩⟩⟩
theorem lw_p16 : lw_okq (⟨"LayerBook$Fall", "field", "(IILLayerBook$Month;)J"⟩, 10) := ⟨⟨by decide +kernel, by decide +kernel⟩, List.mem_of_getElem? (i := 110) (by decide +kernel), List.mem_of_getElem? (i := 784) (by decide +kernel), List.mem_of_getElem? (i := 785) (by decide +kernel)⟩
theorem lw_p17 : lw_okq (⟨"LayerBook$Fall", "cover", "(J)J"⟩, 10) := ⟨⟨by decide +kernel, by decide +kernel⟩, List.mem_of_getElem? (i := 110) (by decide +kernel), List.mem_of_getElem? (i := 788) (by decide +kernel), List.mem_of_getElem? (i := 789) (by decide +kernel)⟩
theorem lw_p18 : lw_okq (⟨"LayerBook$Fall", "wish", "([ILLayerBook$Month;J)J"⟩, 10) := ⟨⟨by decide +kernel, by decide +kernel⟩, List.mem_of_getElem? (i := 110) (by decide +kernel), List.mem_of_getElem? (i := 797) (by decide +kernel), List.mem_of_getElem? (i := 798) (by decide +kernel)⟩
theorem lw_p19 : lw_okq (⟨"LayerBook$Fall", "paperOf", "([I)LLayerBook$Paper;"⟩, 10) := ⟨⟨by decide +kernel, by decide +kernel⟩, List.mem_of_getElem? (i := 110) (by decide +kernel), List.mem_of_getElem? (i := 801) (by decide +kernel), List.mem_of_getElem? (i := 802) (by decide +kernel)⟩
theorem lw_p20 : lw_okq (⟨"LayerBook$Fall", "give", "([IJI)V"⟩, 10) := ⟨⟨by decide +kernel, by decide +kernel⟩, List.mem_of_getElem? (i := 110) (by decide +kernel), List.mem_of_getElem? (i := 809) (by decide +kernel), List.mem_of_getElem? (i := 810) (by decide +kernel)⟩
theorem lw_p21 : lw_okq (⟨"LayerBook$Fall", "writeDown", "(J)V"⟩, 10) := ⟨⟨by decide +kernel, by decide +kernel⟩, List.mem_of_getElem? (i := 110) (by decide +kernel), List.mem_of_getElem? (i := 825) (by decide +kernel), List.mem_of_getElem? (i := 826) (by decide +kernel)⟩
theorem lw_p22 : lw_okq (⟨"LayerBook$Loan", "findPay", "(I)V"⟩, 8) := ⟨⟨by decide +kernel, by decide +kernel⟩, List.mem_of_getElem? (i := 34) (by decide +kernel), List.mem_of_getElem? (i := 867) (by decide +kernel), List.mem_of_getElem? (i := 868) (by decide +kernel)⟩
theorem lw_p23 : lw_okq (⟨"LayerBook$Loan", "wouldEnd", "(JI)Z"⟩, 8) := ⟨⟨by decide +kernel, by decide +kernel⟩, List.mem_of_getElem? (i := 34) (by decide +kernel), List.mem_of_getElem? (i := 878) (by decide +kernel), List.mem_of_getElem? (i := 879) (by decide +kernel)⟩
theorem lw_p24 : lw_okq (⟨"LayerBook$Pool", "draw", "(ILLayerBook$Loan;ILLayerBook$Month;)V"⟩, 7) := ⟨⟨by decide +kernel, by decide +kernel⟩, List.mem_of_getElem? (i := 27) (by decide +kernel), List.mem_of_getElem? (i := 886) (by decide +kernel), List.mem_of_getElem? (i := 887) (by decide +kernel)⟩
theorem lw_p25 : lw_okq (⟨"LayerBook$Pool", "chance", "(ILLayerBook$Loan;I)I"⟩, 7) := ⟨⟨by decide +kernel, by decide +kernel⟩, List.mem_of_getElem? (i := 27) (by decide +kernel), List.mem_of_getElem? (i := 890) (by decide +kernel), List.mem_of_getElem? (i := 891) (by decide +kernel)⟩
theorem lw_p26 : lw_okq (⟨"LayerBook$Pool", "lot", "(II)I"⟩, 7) := ⟨⟨by decide +kernel, by decide +kernel⟩, List.mem_of_getElem? (i := 27) (by decide +kernel), List.mem_of_getElem? (i := 897) (by decide +kernel), List.mem_of_getElem? (i := 898) (by decide +kernel)⟩
theorem lw_p27 : lw_okq (⟨"LayerBook$Pool", "fallLate", "(LLayerBook$Loan;ILLayerBook$Month;)V"⟩, 7) := ⟨⟨by decide +kernel, by decide +kernel⟩, List.mem_of_getElem? (i := 27) (by decide +kernel), List.mem_of_getElem? (i := 914) (by decide +kernel), List.mem_of_getElem? (i := 915) (by decide +kernel)⟩
theorem lw_p28 : lw_okq (⟨"LayerBook$Pool", "sell", "(LLayerBook$Loan;LLayerBook$Month;)V"⟩, 7) := ⟨⟨by decide +kernel, by decide +kernel⟩, List.mem_of_getElem? (i := 27) (by decide +kernel), List.mem_of_getElem? (i := 934) (by decide +kernel), List.mem_of_getElem? (i := 935) (by decide +kernel)⟩
theorem lw_p29 : lw_okq (⟨"LayerBook$Pool", "late", "()I"⟩, 7) := ⟨⟨by decide +kernel, by decide +kernel⟩, List.mem_of_getElem? (i := 27) (by decide +kernel), List.mem_of_getElem? (i := 940) (by decide +kernel), List.mem_of_getElem? (i := 941) (by decide +kernel)⟩
theorem lw_p30 : lw_okq (⟨"LayerBook", "refusalOf", "(III)I"⟩, 15) := ⟨⟨by decide +kernel, by decide +kernel⟩, List.mem_of_getElem? (i := 19) (by decide +kernel), List.mem_of_getElem? (i := 965) (by decide +kernel), List.mem_of_getElem? (i := 966) (by decide +kernel)⟩
theorem lw_p31 : lw_okq (⟨"LayerBook", "firstUnlike", "([IIII)I"⟩, 15) := ⟨⟨by decide +kernel, by decide +kernel⟩, List.mem_of_getElem? (i := 19) (by decide +kernel), List.mem_of_getElem? (i := 973) (by decide +kernel), List.mem_of_getElem? (i := 974) (by decide +kernel)⟩
def lw_privs_2 : List (MethodName × Nat) := [(⟨"LayerBook$Fall", "field", "(IILLayerBook$Month;)J"⟩, 10), (⟨"LayerBook$Fall", "cover", "(J)J"⟩, 10), (⟨"LayerBook$Fall", "wish", "([ILLayerBook$Month;J)J"⟩, 10), (⟨"LayerBook$Fall", "paperOf", "([I)LLayerBook$Paper;"⟩, 10), (⟨"LayerBook$Fall", "give", "([IJI)V"⟩, 10), (⟨"LayerBook$Fall", "writeDown", "(J)V"⟩, 10), (⟨"LayerBook$Loan", "findPay", "(I)V"⟩, 8), (⟨"LayerBook$Loan", "wouldEnd", "(JI)Z"⟩, 8), (⟨"LayerBook$Pool", "draw", "(ILLayerBook$Loan;ILLayerBook$Month;)V"⟩, 7), (⟨"LayerBook$Pool", "chance", "(ILLayerBook$Loan;I)I"⟩, 7), (⟨"LayerBook$Pool", "lot", "(II)I"⟩, 7), (⟨"LayerBook$Pool", "fallLate", "(LLayerBook$Loan;ILLayerBook$Month;)V"⟩, 7), (⟨"LayerBook$Pool", "sell", "(LLayerBook$Loan;LLayerBook$Month;)V"⟩, 7), (⟨"LayerBook$Pool", "late", "()I"⟩, 7), (⟨"LayerBook", "refusalOf", "(III)I"⟩, 15), (⟨"LayerBook", "firstUnlike", "([IIII)I"⟩, 15)]
theorem lw_r2 : ∀ q ∈ lw_privs_2, lw_okq q := List.forall_mem_cons.mpr ⟨lw_p16, List.forall_mem_cons.mpr ⟨lw_p17, List.forall_mem_cons.mpr ⟨lw_p18, List.forall_mem_cons.mpr ⟨lw_p19, List.forall_mem_cons.mpr ⟨lw_p20, List.forall_mem_cons.mpr ⟨lw_p21, List.forall_mem_cons.mpr ⟨lw_p22, List.forall_mem_cons.mpr ⟨lw_p23, List.forall_mem_cons.mpr ⟨lw_p24, List.forall_mem_cons.mpr ⟨lw_p25, List.forall_mem_cons.mpr ⟨lw_p26, List.forall_mem_cons.mpr ⟨lw_p27, List.forall_mem_cons.mpr ⟨lw_p28, List.forall_mem_cons.mpr ⟨lw_p29, List.forall_mem_cons.mpr ⟨lw_p30, List.forall_mem_cons.mpr ⟨lw_p31, fun _ h => absurd h List.not_mem_nil⟩⟩⟩⟩⟩⟩⟩⟩⟩⟩⟩⟩⟩⟩⟩⟩
theorem lw_p32 : lw_okq (⟨"LayerBookModel", "spell", "(IJ)V"⟩, 81) := ⟨⟨by decide +kernel, by decide +kernel⟩, List.mem_of_getElem? (i := 1029) (by decide +kernel), List.mem_of_getElem? (i := 1036) (by decide +kernel), List.mem_of_getElem? (i := 1037) (by decide +kernel)⟩
theorem lw_p33 : lw_okq (⟨"LayerBookModel", "isLoan", "(I)Z"⟩, 81) := ⟨⟨by decide +kernel, by decide +kernel⟩, List.mem_of_getElem? (i := 1029) (by decide +kernel), List.mem_of_getElem? (i := 1303) (by decide +kernel), List.mem_of_getElem? (i := 1304) (by decide +kernel)⟩
theorem lw_p34 : lw_okq (⟨"LayerBookModel", "read", "(II)I"⟩, 81) := ⟨⟨by decide +kernel, by decide +kernel⟩, List.mem_of_getElem? (i := 1029) (by decide +kernel), List.mem_of_getElem? (i := 1324) (by decide +kernel), List.mem_of_getElem? (i := 1325) (by decide +kernel)⟩
theorem lw_p35 : lw_okq (⟨"LayerBookModel", "next", "()V"⟩, 81) := ⟨⟨by decide +kernel, by decide +kernel⟩, List.mem_of_getElem? (i := 1029) (by decide +kernel), List.mem_of_getElem? (i := 1328) (by decide +kernel), List.mem_of_getElem? (i := 1329) (by decide +kernel)⟩
theorem lw_p36 : lw_okq (⟨"LayerBookModel", "byteAt", "(I)I"⟩, 81) := ⟨⟨by decide +kernel, by decide +kernel⟩, List.mem_of_getElem? (i := 1029) (by decide +kernel), List.mem_of_getElem? (i := 1332) (by decide +kernel), List.mem_of_getElem? (i := 1333) (by decide +kernel)⟩
theorem lw_p37 : lw_okq (⟨"LayerBookModel", "part", "(J)I"⟩, 81) := ⟨⟨by decide +kernel, by decide +kernel⟩, List.mem_of_getElem? (i := 1029) (by decide +kernel), List.mem_of_getElem? (i := 1342) (by decide +kernel), List.mem_of_getElem? (i := 1343) (by decide +kernel)⟩
theorem lw_p38 : lw_okq (⟨"LayerBookModel", "isWord", "(J)Z"⟩, 81) := ⟨⟨by decide +kernel, by decide +kernel⟩, List.mem_of_getElem? (i := 1029) (by decide +kernel), List.mem_of_getElem? (i := 1346) (by decide +kernel), List.mem_of_getElem? (i := 1347) (by decide +kernel)⟩
theorem lw_p39 : lw_okq (⟨"LayerBookModel", "fail", "()V"⟩, 81) := ⟨⟨by decide +kernel, by decide +kernel⟩, List.mem_of_getElem? (i := 1029) (by decide +kernel), List.mem_of_getElem? (i := 1350) (by decide +kernel), List.mem_of_getElem? (i := 1351) (by decide +kernel)⟩
theorem lw_p40 : lw_okq (⟨"LayerBookModel", "either", "()I"⟩, 81) := ⟨⟨by decide +kernel, by decide +kernel⟩, List.mem_of_getElem? (i := 1029) (by decide +kernel), List.mem_of_getElem? (i := 1354) (by decide +kernel), List.mem_of_getElem? (i := 1355) (by decide +kernel)⟩
theorem lw_p41 : lw_okq (⟨"LayerBookModel", "both", "()I"⟩, 81) := ⟨⟨by decide +kernel, by decide +kernel⟩, List.mem_of_getElem? (i := 1029) (by decide +kernel), List.mem_of_getElem? (i := 1358) (by decide +kernel), List.mem_of_getElem? (i := 1359) (by decide +kernel)⟩
theorem lw_p42 : lw_okq (⟨"LayerBookModel", "not", "()I"⟩, 81) := ⟨⟨by decide +kernel, by decide +kernel⟩, List.mem_of_getElem? (i := 1029) (by decide +kernel), List.mem_of_getElem? (i := 1362) (by decide +kernel), List.mem_of_getElem? (i := 1363) (by decide +kernel)⟩
theorem lw_p43 : lw_okq (⟨"LayerBookModel", "opens", "()Z"⟩, 81) := ⟨⟨by decide +kernel, by decide +kernel⟩, List.mem_of_getElem? (i := 1029) (by decide +kernel), List.mem_of_getElem? (i := 1367) (by decide +kernel), List.mem_of_getElem? (i := 1368) (by decide +kernel)⟩
theorem lw_p44 : lw_okq (⟨"LayerBookModel", "added", "()I"⟩, 81) := ⟨⟨by decide +kernel, by decide +kernel⟩, List.mem_of_getElem? (i := 1029) (by decide +kernel), List.mem_of_getElem? (i := 1371) (by decide +kernel), List.mem_of_getElem? (i := 1372) (by decide +kernel)⟩
theorem lw_p45 : lw_okq (⟨"LayerBookModel", "term", "()I"⟩, 81) := ⟨⟨by decide +kernel, by decide +kernel⟩, List.mem_of_getElem? (i := 1029) (by decide +kernel), List.mem_of_getElem? (i := 1375) (by decide +kernel), List.mem_of_getElem? (i := 1376) (by decide +kernel)⟩
theorem lw_p46 : lw_okq (⟨"LayerBookModel", "one", "()I"⟩, 81) := ⟨⟨by decide +kernel, by decide +kernel⟩, List.mem_of_getElem? (i := 1029) (by decide +kernel), List.mem_of_getElem? (i := 1379) (by decide +kernel), List.mem_of_getElem? (i := 1380) (by decide +kernel)⟩
theorem lw_p47 : lw_okq (⟨"LayerBookModel", "isSign", "(I)Z"⟩, 81) := ⟨⟨by decide +kernel, by decide +kernel⟩, List.mem_of_getElem? (i := 1029) (by decide +kernel), List.mem_of_getElem? (i := 1383) (by decide +kernel), List.mem_of_getElem? (i := 1384) (by decide +kernel)⟩
def lw_privs_3 : List (MethodName × Nat) := [(⟨"LayerBookModel", "spell", "(IJ)V"⟩, 81), (⟨"LayerBookModel", "isLoan", "(I)Z"⟩, 81), (⟨"LayerBookModel", "read", "(II)I"⟩, 81), (⟨"LayerBookModel", "next", "()V"⟩, 81), (⟨"LayerBookModel", "byteAt", "(I)I"⟩, 81), (⟨"LayerBookModel", "part", "(J)I"⟩, 81), (⟨"LayerBookModel", "isWord", "(J)Z"⟩, 81), (⟨"LayerBookModel", "fail", "()V"⟩, 81), (⟨"LayerBookModel", "either", "()I"⟩, 81), (⟨"LayerBookModel", "both", "()I"⟩, 81), (⟨"LayerBookModel", "not", "()I"⟩, 81), (⟨"LayerBookModel", "opens", "()Z"⟩, 81), (⟨"LayerBookModel", "added", "()I"⟩, 81), (⟨"LayerBookModel", "term", "()I"⟩, 81), (⟨"LayerBookModel", "one", "()I"⟩, 81), (⟨"LayerBookModel", "isSign", "(I)Z"⟩, 81)]
theorem lw_r3 : ∀ q ∈ lw_privs_3, lw_okq q := List.forall_mem_cons.mpr ⟨lw_p32, List.forall_mem_cons.mpr ⟨lw_p33, List.forall_mem_cons.mpr ⟨lw_p34, List.forall_mem_cons.mpr ⟨lw_p35, List.forall_mem_cons.mpr ⟨lw_p36, List.forall_mem_cons.mpr ⟨lw_p37, List.forall_mem_cons.mpr ⟨lw_p38, List.forall_mem_cons.mpr ⟨lw_p39, List.forall_mem_cons.mpr ⟨lw_p40, List.forall_mem_cons.mpr ⟨lw_p41, List.forall_mem_cons.mpr ⟨lw_p42, List.forall_mem_cons.mpr ⟨lw_p43, List.forall_mem_cons.mpr ⟨lw_p44, List.forall_mem_cons.mpr ⟨lw_p45, List.forall_mem_cons.mpr ⟨lw_p46, List.forall_mem_cons.mpr ⟨lw_p47, fun _ h => absurd h List.not_mem_nil⟩⟩⟩⟩⟩⟩⟩⟩⟩⟩⟩⟩⟩⟩⟩⟩
theorem lw_p48 : lw_okq (⟨"LayerBookModel", "name", "()I"⟩, 81) := ⟨⟨by decide +kernel, by decide +kernel⟩, List.mem_of_getElem? (i := 1029) (by decide +kernel), List.mem_of_getElem? (i := 1387) (by decide +kernel), List.mem_of_getElem? (i := 1388) (by decide +kernel)⟩
theorem lw_p49 : lw_okq (⟨"LayerBookModel", "saysOf", "(III)I"⟩, 81) := ⟨⟨by decide +kernel, by decide +kernel⟩, List.mem_of_getElem? (i := 1029) (by decide +kernel), List.mem_of_getElem? (i := 1411) (by decide +kernel), List.mem_of_getElem? (i := 1412) (by decide +kernel)⟩
theorem lw_p50 : lw_okq (⟨"LayerBookModel", "readStep", "(I)V"⟩, 81) := ⟨⟨by decide +kernel, by decide +kernel⟩, List.mem_of_getElem? (i := 1029) (by decide +kernel), List.mem_of_getElem? (i := 1421) (by decide +kernel), List.mem_of_getElem? (i := 1422) (by decide +kernel)⟩
theorem lw_p51 : lw_okq (⟨"LayerBookModel", "paperHere", "()I"⟩, 81) := ⟨⟨by decide +kernel, by decide +kernel⟩, List.mem_of_getElem? (i := 1029) (by decide +kernel), List.mem_of_getElem? (i := 1430) (by decide +kernel), List.mem_of_getElem? (i := 1431) (by decide +kernel)⟩
theorem lw_p52 : lw_okq (⟨"LayerBookModel", "numberHere", "()I"⟩, 81) := ⟨⟨by decide +kernel, by decide +kernel⟩, List.mem_of_getElem? (i := 1029) (by decide +kernel), List.mem_of_getElem? (i := 1435) (by decide +kernel), List.mem_of_getElem? (i := 1436) (by decide +kernel)⟩
theorem lw_p53 : lw_okq (⟨"LayerBookModel", "fieldHere", "()I"⟩, 81) := ⟨⟨by decide +kernel, by decide +kernel⟩, List.mem_of_getElem? (i := 1029) (by decide +kernel), List.mem_of_getElem? (i := 1440) (by decide +kernel), List.mem_of_getElem? (i := 1441) (by decide +kernel)⟩
theorem lw_p54 : lw_okq (⟨"LayerBookModel", "isPaper", "(I)Z"⟩, 81) := ⟨⟨by decide +kernel, by decide +kernel⟩, List.mem_of_getElem? (i := 1029) (by decide +kernel), List.mem_of_getElem? (i := 1460) (by decide +kernel), List.mem_of_getElem? (i := 1461) (by decide +kernel)⟩
theorem lw_p55 : lw_okq (⟨"LayerBookModel", "anew", "()V"⟩, 81) := ⟨⟨by decide +kernel, by decide +kernel⟩, List.mem_of_getElem? (i := 1029) (by decide +kernel), List.mem_of_getElem? (i := 1479) (by decide +kernel), List.mem_of_getElem? (i := 1480) (by decide +kernel)⟩
theorem lw_p56 : lw_okq (⟨"LayerBookModel", "pay", "(I)V"⟩, 81) := ⟨⟨by decide +kernel, by decide +kernel⟩, List.mem_of_getElem? (i := 1029) (by decide +kernel), List.mem_of_getElem? (i := 1483) (by decide +kernel), List.mem_of_getElem? (i := 1484) (by decide +kernel)⟩
theorem lw_p57 : lw_okq (⟨"LayerBookModel", "lostNow", "()J"⟩, 81) := ⟨⟨by decide +kernel, by decide +kernel⟩, List.mem_of_getElem? (i := 1029) (by decide +kernel), List.mem_of_getElem? (i := 1487) (by decide +kernel), List.mem_of_getElem? (i := 1488) (by decide +kernel)⟩
theorem lw_p58 : lw_okq (⟨"LayerBookModel", "isSo", "(II)Z"⟩, 81) := ⟨⟨by decide +kernel, by decide +kernel⟩, List.mem_of_getElem? (i := 1029) (by decide +kernel), List.mem_of_getElem? (i := 1493) (by decide +kernel), List.mem_of_getElem? (i := 1494) (by decide +kernel)⟩
theorem lw_p59 : lw_okq (⟨"LayerBookModel", "field", "(II)J"⟩, 81) := ⟨⟨by decide +kernel, by decide +kernel⟩, List.mem_of_getElem? (i := 1029) (by decide +kernel), List.mem_of_getElem? (i := 1497) (by decide +kernel), List.mem_of_getElem? (i := 1498) (by decide +kernel)⟩
theorem lw_p60 : lw_okq (⟨"LayerBookModel", "wish", "(IIJ)J"⟩, 81) := ⟨⟨by decide +kernel, by decide +kernel⟩, List.mem_of_getElem? (i := 1029) (by decide +kernel), List.mem_of_getElem? (i := 1503) (by decide +kernel), List.mem_of_getElem? (i := 1504) (by decide +kernel)⟩
theorem lw_p61 : lw_okq (⟨"LayerBookModel", "goOn", "()V"⟩, 81) := ⟨⟨by decide +kernel, by decide +kernel⟩, List.mem_of_getElem? (i := 1029) (by decide +kernel), List.mem_of_getElem? (i := 1511) (by decide +kernel), List.mem_of_getElem? (i := 1512) (by decide +kernel)⟩
theorem lw_p62 : lw_okq (⟨"LayerBookModel", "collect", "(I)V"⟩, 81) := ⟨⟨by decide +kernel, by decide +kernel⟩, List.mem_of_getElem? (i := 1029) (by decide +kernel), List.mem_of_getElem? (i := 1515) (by decide +kernel), List.mem_of_getElem? (i := 1516) (by decide +kernel)⟩
theorem lw_p63 : lw_okq (⟨"LayerBookModel", "pool", "()I"⟩, 81) := ⟨⟨by decide +kernel, by decide +kernel⟩, List.mem_of_getElem? (i := 1029) (by decide +kernel), List.mem_of_getElem? (i := 1519) (by decide +kernel), List.mem_of_getElem? (i := 1520) (by decide +kernel)⟩
def lw_privs_4 : List (MethodName × Nat) := [(⟨"LayerBookModel", "name", "()I"⟩, 81), (⟨"LayerBookModel", "saysOf", "(III)I"⟩, 81), (⟨"LayerBookModel", "readStep", "(I)V"⟩, 81), (⟨"LayerBookModel", "paperHere", "()I"⟩, 81), (⟨"LayerBookModel", "numberHere", "()I"⟩, 81), (⟨"LayerBookModel", "fieldHere", "()I"⟩, 81), (⟨"LayerBookModel", "isPaper", "(I)Z"⟩, 81), (⟨"LayerBookModel", "anew", "()V"⟩, 81), (⟨"LayerBookModel", "pay", "(I)V"⟩, 81), (⟨"LayerBookModel", "lostNow", "()J"⟩, 81), (⟨"LayerBookModel", "isSo", "(II)Z"⟩, 81), (⟨"LayerBookModel", "field", "(II)J"⟩, 81), (⟨"LayerBookModel", "wish", "(IIJ)J"⟩, 81), (⟨"LayerBookModel", "goOn", "()V"⟩, 81), (⟨"LayerBookModel", "collect", "(I)V"⟩, 81), (⟨"LayerBookModel", "pool", "()I"⟩, 81)]
theorem lw_r4 : ∀ q ∈ lw_privs_4, lw_okq q := List.forall_mem_cons.mpr ⟨lw_p48, List.forall_mem_cons.mpr ⟨lw_p49, List.forall_mem_cons.mpr ⟨lw_p50, List.forall_mem_cons.mpr ⟨lw_p51, List.forall_mem_cons.mpr ⟨lw_p52, List.forall_mem_cons.mpr ⟨lw_p53, List.forall_mem_cons.mpr ⟨lw_p54, List.forall_mem_cons.mpr ⟨lw_p55, List.forall_mem_cons.mpr ⟨lw_p56, List.forall_mem_cons.mpr ⟨lw_p57, List.forall_mem_cons.mpr ⟨lw_p58, List.forall_mem_cons.mpr ⟨lw_p59, List.forall_mem_cons.mpr ⟨lw_p60, List.forall_mem_cons.mpr ⟨lw_p61, List.forall_mem_cons.mpr ⟨lw_p62, List.forall_mem_cons.mpr ⟨lw_p63, fun _ h => absurd h List.not_mem_nil⟩⟩⟩⟩⟩⟩⟩⟩⟩⟩⟩⟩⟩⟩⟩⟩
theorem lw_p64 : lw_okq (⟨"LayerBookModel", "goes", "(II)V"⟩, 81) := ⟨⟨by decide +kernel, by decide +kernel⟩, List.mem_of_getElem? (i := 1029) (by decide +kernel), List.mem_of_getElem? (i := 1538) (by decide +kernel), List.mem_of_getElem? (i := 1539) (by decide +kernel)⟩
theorem lw_p65 : lw_okq (⟨"LayerBookModel", "lot", "(II)I"⟩, 81) := ⟨⟨by decide +kernel, by decide +kernel⟩, List.mem_of_getElem? (i := 1029) (by decide +kernel), List.mem_of_getElem? (i := 1545) (by decide +kernel), List.mem_of_getElem? (i := 1546) (by decide +kernel)⟩
theorem lw_p66 : lw_okq (⟨"LayerBookModel", "paysOff", "(IIII)V"⟩, 81) := ⟨⟨by decide +kernel, by decide +kernel⟩, List.mem_of_getElem? (i := 1029) (by decide +kernel), List.mem_of_getElem? (i := 1553) (by decide +kernel), List.mem_of_getElem? (i := 1554) (by decide +kernel)⟩
theorem lw_p67 : lw_okq (⟨"LayerBookModel", "principal", "(III)I"⟩, 81) := ⟨⟨by decide +kernel, by decide +kernel⟩, List.mem_of_getElem? (i := 1029) (by decide +kernel), List.mem_of_getElem? (i := 1557) (by decide +kernel), List.mem_of_getElem? (i := 1558) (by decide +kernel)⟩
theorem lw_p68 : lw_okq (⟨"LayerBookModel", "turn", "(Z)V"⟩, 81) := ⟨⟨by decide +kernel, by decide +kernel⟩, List.mem_of_getElem? (i := 1029) (by decide +kernel), List.mem_of_getElem? (i := 1573) (by decide +kernel), List.mem_of_getElem? (i := 1574) (by decide +kernel)⟩
theorem lw_p69 : lw_okq (⟨"LayerBookModel", "pass", "(ZJ)J"⟩, 81) := ⟨⟨by decide +kernel, by decide +kernel⟩, List.mem_of_getElem? (i := 1029) (by decide +kernel), List.mem_of_getElem? (i := 1577) (by decide +kernel), List.mem_of_getElem? (i := 1578) (by decide +kernel)⟩
theorem lw_p70 : lw_okq (⟨"LayerBookModel", "noRow", "(IIII)I"⟩, 81) := ⟨⟨by decide +kernel, by decide +kernel⟩, List.mem_of_getElem? (i := 1029) (by decide +kernel), List.mem_of_getElem? (i := 1600) (by decide +kernel), List.mem_of_getElem? (i := 1601) (by decide +kernel)⟩
def lw_privs_5 : List (MethodName × Nat) := [(⟨"LayerBookModel", "goes", "(II)V"⟩, 81), (⟨"LayerBookModel", "lot", "(II)I"⟩, 81), (⟨"LayerBookModel", "paysOff", "(IIII)V"⟩, 81), (⟨"LayerBookModel", "principal", "(III)I"⟩, 81), (⟨"LayerBookModel", "turn", "(Z)V"⟩, 81), (⟨"LayerBookModel", "pass", "(ZJ)J"⟩, 81), (⟨"LayerBookModel", "noRow", "(IIII)I"⟩, 81)]
theorem lw_r5 : ∀ q ∈ lw_privs_5, lw_okq q := List.forall_mem_cons.mpr ⟨lw_p64, List.forall_mem_cons.mpr ⟨lw_p65, List.forall_mem_cons.mpr ⟨lw_p66, List.forall_mem_cons.mpr ⟨lw_p67, List.forall_mem_cons.mpr ⟨lw_p68, List.forall_mem_cons.mpr ⟨lw_p69, List.forall_mem_cons.mpr ⟨lw_p70, fun _ h => absurd h List.not_mem_nil⟩⟩⟩⟩⟩⟩⟩
def lw_privs : List (MethodName × Nat) := lw_privs_1 ++ (lw_privs_2 ++ (lw_privs_3 ++ (lw_privs_4 ++ (lw_privs_5))))
def lw_tbl : List Cond := k2_sels lw_privs ++ tables_1
theorem lw_privs_ok : ∀ q ∈ lw_privs, lw_okq q := by
  show ∀ q ∈ lw_privs_1 ++ (lw_privs_2 ++ (lw_privs_3 ++ (lw_privs_4 ++ (lw_privs_5)))), lw_okq q
  exact List.forall_mem_append.mpr ⟨lw_r1, List.forall_mem_append.mpr ⟨lw_r2, List.forall_mem_append.mpr ⟨lw_r3, List.forall_mem_append.mpr ⟨lw_r4, lw_r5⟩⟩⟩⟩
def RX0 : String := "LayerBook$Fall"
def TX0 : u_T := fun k => match k with
  | 0 => ("LayerBook$Fall", "papers", "[LLayerBook$Paper;", true)
  | 1 => ("LayerBook$Fall", "count", "I", false)
  | 2 => ("LayerBook$Fall", "bound", "I", false)
  | 3 => ("LayerBook$Fall", "cure", "I", false)
  | 4 => ("LayerBook$Fall", "reserve", "J", false)
  | 5 => ("LayerBook$Fall", "tripped", "Z", false)
  | 6 => ("LayerBook$Fall", "quiet", "I", false)
  | 7 => ("LayerBook$Fall", "lost", "J", false)
  | 8 => ("LayerBook$Fall", "firstPool", "J", false)
  | _ => ("LayerBook$Fall", "rested", "J", false)
def tyX0 : Nat → FieldType := fun k => match k with
  | 0 => .array (.object "LayerBook$Paper")
  | 1 => .int
  | 2 => .int
  | 3 => .int
  | 4 => .long
  | 5 => .boolean
  | 6 => .int
  | 7 => .long
  | 8 => .long
  | _ => .long
theorem nmX0 : ∀ a, a < 10 → ∀ b, b < 10 → a ≠ b → (TX0 a).2.1 ≠ (TX0 b).2.1 := by decide +kernel
theorem tyX0_ok : ∀ k, k < 10 → parseFieldDescriptor (TX0 k).2.2.1 = some (tyX0 k) := by decide +kernel
abbrev cX0_init : ByteArray := prog_2_method_1_code
def yX0_init : MethodName := ⟨RX0, "<init>", "()V"⟩
abbrev cX0_restart : ByteArray := prog_2_method_2_code
def yX0_restart : MethodName := ⟨RX0, "restart", "()V"⟩
abbrev cX0_copy : ByteArray := prog_2_method_3_code
def yX0_copy : MethodName := ⟨RX0, "copy", "(LLayerBook$Fall;)V"⟩
abbrev cX0_pour : ByteArray := prog_2_method_4_code
def yX0_pour : MethodName := ⟨RX0, "pour", "(ILLayerBook$Month;LLayerBook$Order;)V"⟩
abbrev cX0_turnTrip : ByteArray := prog_2_method_5_code
def yX0_turnTrip : MethodName := ⟨RX0, "turnTrip", "(J)V"⟩
abbrev cX0_lostShare : ByteArray := prog_2_method_6_code
def yX0_lostShare : MethodName := ⟨RX0, "lostShare", "()J"⟩
abbrev cX0_takeSteps : ByteArray := prog_2_method_7_code
def yX0_takeSteps : MethodName := ⟨RX0, "takeSteps", "(ILLayerBook$Month;LLayerBook$Order;)V"⟩
abbrev cX0_passes : ByteArray := prog_2_method_8_code
def yX0_passes : MethodName := ⟨RX0, "passes", "([IILLayerBook$Month;)Z"⟩
abbrev cX0_field : ByteArray := prog_2_method_9_code
def yX0_field : MethodName := ⟨RX0, "field", "(IILLayerBook$Month;)J"⟩
abbrev cX0_cover : ByteArray := prog_2_method_10_code
def yX0_cover : MethodName := ⟨RX0, "cover", "(J)J"⟩
abbrev cX0_wish : ByteArray := prog_2_method_11_code
def yX0_wish : MethodName := ⟨RX0, "wish", "([ILLayerBook$Month;J)J"⟩
abbrev cX0_give : ByteArray := prog_2_method_12_code
def yX0_give : MethodName := ⟨RX0, "give", "([IJI)V"⟩
abbrev cX0_paperOf : ByteArray := prog_2_method_13_code
def yX0_paperOf : MethodName := ⟨RX0, "paperOf", "([I)LLayerBook$Paper;"⟩
abbrev cX0_writeDown : ByteArray := prog_2_method_14_code
def yX0_writeDown : MethodName := ⟨RX0, "writeDown", "(J)V"⟩
def RX1 : String := "LayerBook$Law"
def TX1 : u_T := fun k => match k with
  | 0 => ("LayerBook$Law", "code", "[I", true)
  | 1 => ("LayerBook$Law", "starts", "[I", true)
  | 2 => ("LayerBook$Law", "stack", "[I", true)
  | 3 => ("LayerBook$Law", "length", "I", false)
  | _ => ("LayerBook$Law", "open", "I", false)
def tyX1 : Nat → FieldType := fun k => match k with
  | 0 => .array .int
  | 1 => .array .int
  | 2 => .array .int
  | 3 => .int
  | _ => .int
theorem nmX1 : ∀ a, a < 5 → ∀ b, b < 5 → a ≠ b → (TX1 a).2.1 ≠ (TX1 b).2.1 := by decide +kernel
theorem tyX1_ok : ∀ k, k < 5 → parseFieldDescriptor (TX1 k).2.2.1 = some (tyX1 k) := by decide +kernel
abbrev cX1_init : ByteArray := prog_3_method_1_code
def yX1_init : MethodName := ⟨RX1, "<init>", "()V"⟩
abbrev cX1_read : ByteArray := prog_3_method_2_code
def yX1_read : MethodName := ⟨RX1, "read", "(LLayerBook$Tape;)I"⟩
abbrev cX1_readChain : ByteArray := prog_3_method_3_code
def yX1_readChain : MethodName := ⟨RX1, "readChain", "(LLayerBook$Tape;I)Z"⟩
abbrev cX1_signOf : ByteArray := prog_3_method_4_code
def yX1_signOf : MethodName := ⟨RX1, "signOf", "(LLayerBook$Tape;I)I"⟩
abbrev cX1_readCompared : ByteArray := prog_3_method_5_code
def yX1_readCompared : MethodName := ⟨RX1, "readCompared", "(LLayerBook$Tape;)Z"⟩
abbrev cX1_readOne : ByteArray := prog_3_method_6_code
def yX1_readOne : MethodName := ⟨RX1, "readOne", "(LLayerBook$Tape;)Z"⟩
abbrev cX1_opens : ByteArray := prog_3_method_7_code
def yX1_opens : MethodName := ⟨RX1, "opens", "(LLayerBook$Tape;)Z"⟩
abbrev cX1_closes : ByteArray := prog_3_method_8_code
def yX1_closes : MethodName := ⟨RX1, "closes", "()Z"⟩
abbrev cX1_write : ByteArray := prog_3_method_9_code
def yX1_write : MethodName := ⟨RX1, "write", "(I)Z"⟩
abbrev cX1_value : ByteArray := prog_3_method_10_code
def yX1_value : MethodName := ⟨RX1, "value", "(ILLayerBook$Loan;I)I"⟩
abbrev cX1_joined : ByteArray := prog_3_method_11_code
def yX1_joined : MethodName := ⟨RX1, "joined", "(III)I"⟩
abbrev cX1_truth : ByteArray := prog_3_method_12_code
def yX1_truth : MethodName := ⟨RX1, "truth", "(Z)I"⟩
abbrev cX1_named : ByteArray := prog_3_method_13_code
def yX1_named : MethodName := ⟨RX1, "named", "(ILLayerBook$Loan;I)I"⟩
def RX2 : String := "LayerBook$Loan"
def TX2 : u_T := fun k => match k with
  | 0 => ("LayerBook$Loan", "kind", "I", false)
  | 1 => ("LayerBook$Loan", "balance", "J", false)
  | 2 => ("LayerBook$Loan", "rate", "I", false)
  | 3 => ("LayerBook$Loan", "months", "I", false)
  | 4 => ("LayerBook$Loan", "owed", "J", false)
  | 5 => ("LayerBook$Loan", "state", "I", false)
  | 6 => ("LayerBook$Loan", "pay", "J", false)
  | _ => ("LayerBook$Loan", "failedIn", "I", false)
def tyX2 : Nat → FieldType := fun k => match k with
  | 0 => .int
  | 1 => .long
  | 2 => .int
  | 3 => .int
  | 4 => .long
  | 5 => .int
  | 6 => .long
  | _ => .int
theorem nmX2 : ∀ a, a < 8 → ∀ b, b < 8 → a ≠ b → (TX2 a).2.1 ≠ (TX2 b).2.1 := by decide +kernel
theorem tyX2_ok : ∀ k, k < 8 → parseFieldDescriptor (TX2 k).2.2.1 = some (tyX2 k) := by decide +kernel
abbrev cX2_init : ByteArray := prog_4_method_1_code
def yX2_init : MethodName := ⟨RX2, "<init>", "()V"⟩
abbrev cX2_open : ByteArray := prog_4_method_2_code
def yX2_open : MethodName := ⟨RX2, "open", "(IIII)V"⟩
abbrev cX2_copy : ByteArray := prog_4_method_3_code
def yX2_copy : MethodName := ⟨RX2, "copy", "(LLayerBook$Loan;)V"⟩
abbrev cX2_isKind : ByteArray := prog_4_method_4_code
def yX2_isKind : MethodName := ⟨RX2, "isKind", "(I)Z"⟩
abbrev cX2_goesOn : ByteArray := prog_4_method_5_code
def yX2_goesOn : MethodName := ⟨RX2, "goesOn", "()Z"⟩
abbrev cX2_isPooled : ByteArray := prog_4_method_6_code
def yX2_isPooled : MethodName := ⟨RX2, "isPooled", "()Z"⟩
abbrev cX2_isSoldIn : ByteArray := prog_4_method_7_code
def yX2_isSoldIn : MethodName := ⟨RX2, "isSoldIn", "(I)Z"⟩
abbrev cX2_left : ByteArray := prog_4_method_8_code
def yX2_left : MethodName := ⟨RX2, "left", "(I)I"⟩
abbrev cX2_isLast : ByteArray := prog_4_method_9_code
def yX2_isLast : MethodName := ⟨RX2, "isLast", "(I)Z"⟩
abbrev cX2_rests : ByteArray := prog_4_method_10_code
def yX2_rests : MethodName := ⟨RX2, "rests", "(I)Z"⟩
abbrev cX2_interest : ByteArray := prog_4_method_11_code
def yX2_interest : MethodName := ⟨RX2, "interest", "()J"⟩
abbrev cX2_principal : ByteArray := prog_4_method_12_code
def yX2_principal : MethodName := ⟨RX2, "principal", "(I)J"⟩
abbrev cX2_begin : ByteArray := prog_4_method_13_code
def yX2_begin : MethodName := ⟨RX2, "begin", "(I)V"⟩
abbrev cX2_findPay : ByteArray := prog_4_method_14_code
def yX2_findPay : MethodName := ⟨RX2, "findPay", "(I)V"⟩
abbrev cX2_wouldEnd : ByteArray := prog_4_method_15_code
def yX2_wouldEnd : MethodName := ⟨RX2, "wouldEnd", "(JI)Z"⟩
def RX3 : String := "LayerBook$Month"
def TX3 : u_T := fun k => match k with
  | 0 => ("LayerBook$Month", "interests", "J", false)
  | 1 => ("LayerBook$Month", "principals", "J", false)
  | 2 => ("LayerBook$Month", "backs", "J", false)
  | 3 => ("LayerBook$Month", "advanced", "J", false)
  | 4 => ("LayerBook$Month", "paidBack", "J", false)
  | 5 => ("LayerBook$Month", "cash", "J", false)
  | 6 => ("LayerBook$Month", "poolAhead", "J", false)
  | 7 => ("LayerBook$Month", "poolBehind", "J", false)
  | 8 => ("LayerBook$Month", "loss", "J", false)
  | 9 => ("LayerBook$Month", "late", "I", false)
  | 10 => ("LayerBook$Month", "reserve", "J", false)
  | 11 => ("LayerBook$Month", "tripped", "Z", false)
  | _ => ("LayerBook$Month", "took", "[J", true)
def tyX3 : Nat → FieldType := fun k => match k with
  | 0 => .long
  | 1 => .long
  | 2 => .long
  | 3 => .long
  | 4 => .long
  | 5 => .long
  | 6 => .long
  | 7 => .long
  | 8 => .long
  | 9 => .int
  | 10 => .long
  | 11 => .boolean
  | _ => .array .long
theorem nmX3 : ∀ a, a < 13 → ∀ b, b < 13 → a ≠ b → (TX3 a).2.1 ≠ (TX3 b).2.1 := by decide +kernel
theorem tyX3_ok : ∀ k, k < 13 → parseFieldDescriptor (TX3 k).2.2.1 = some (tyX3 k) := by decide +kernel
abbrev cX3_init : ByteArray := prog_5_method_1_code
def yX3_init : MethodName := ⟨RX3, "<init>", "()V"⟩
abbrev cX3_clear : ByteArray := prog_5_method_2_code
def yX3_clear : MethodName := ⟨RX3, "clear", "()V"⟩
abbrev cX3_collected : ByteArray := prog_5_method_3_code
def yX3_collected : MethodName := ⟨RX3, "collected", "()J"⟩
abbrev cX3_fact : ByteArray := prog_5_method_4_code
def yX3_fact : MethodName := ⟨RX3, "fact", "(I)I"⟩
def RX4 : String := "LayerBook$Order"
def TX4 : u_T := fun k => match k with
  | 0 => ("LayerBook$Order", "steps", "[[I", true)
  | _ => ("LayerBook$Order", "count", "I", false)
def tyX4 : Nat → FieldType := fun k => match k with
  | 0 => .array (.array .int)
  | _ => .int
theorem nmX4 : ∀ a, a < 2 → ∀ b, b < 2 → a ≠ b → (TX4 a).2.1 ≠ (TX4 b).2.1 := by decide +kernel
theorem tyX4_ok : ∀ k, k < 2 → parseFieldDescriptor (TX4 k).2.2.1 = some (tyX4 k) := by decide +kernel
abbrev cX4_init : ByteArray := prog_6_method_1_code
def yX4_init : MethodName := ⟨RX4, "<init>", "()V"⟩
abbrev cX4_read : ByteArray := prog_6_method_2_code
def yX4_read : MethodName := ⟨RX4, "read", "(LLayerBook$Tape;)I"⟩
abbrev cX4_writeRest : ByteArray := prog_6_method_3_code
def yX4_writeRest : MethodName := ⟨RX4, "writeRest", "(I)V"⟩
abbrev cX4_clear : ByteArray := prog_6_method_4_code
def yX4_clear : MethodName := ⟨RX4, "clear", "([I)V"⟩
abbrev cX4_readStep : ByteArray := prog_6_method_5_code
def yX4_readStep : MethodName := ⟨RX4, "readStep", "(LLayerBook$Tape;[I)Z"⟩
abbrev cX4_readTest : ByteArray := prog_6_method_6_code
def yX4_readTest : MethodName := ⟨RX4, "readTest", "(LLayerBook$Tape;[I)Z"⟩
abbrev cX4_readWord : ByteArray := prog_6_method_7_code
def yX4_readWord : MethodName := ⟨RX4, "readWord", "(LLayerBook$Tape;Ljava/lang/String;[II)Z"⟩
abbrev cX4_readNumber : ByteArray := prog_6_method_8_code
def yX4_readNumber : MethodName := ⟨RX4, "readNumber", "(LLayerBook$Tape;[II)Z"⟩
def RX5 : String := "LayerBook$Paper"
def TX5 : u_T := fun k => match k with
  | 0 => ("LayerBook$Paper", "coupon", "I", false)
  | 1 => ("LayerBook$Paper", "first", "J", false)
  | 2 => ("LayerBook$Paper", "balance", "J", false)
  | 3 => ("LayerBook$Paper", "lacking", "J", false)
  | 4 => ("LayerBook$Paper", "interest", "J", false)
  | 5 => ("LayerBook$Paper", "principal", "J", false)
  | 6 => ("LayerBook$Paper", "written", "J", false)
  | 7 => ("LayerBook$Paper", "weighted", "J", false)
  | _ => ("LayerBook$Paper", "due", "J", false)
def tyX5 : Nat → FieldType := fun k => match k with
  | 0 => .int
  | 1 => .long
  | 2 => .long
  | 3 => .long
  | 4 => .long
  | 5 => .long
  | 6 => .long
  | 7 => .long
  | _ => .long
theorem nmX5 : ∀ a, a < 9 → ∀ b, b < 9 → a ≠ b → (TX5 a).2.1 ≠ (TX5 b).2.1 := by decide +kernel
theorem tyX5_ok : ∀ k, k < 9 → parseFieldDescriptor (TX5 k).2.2.1 = some (tyX5 k) := by decide +kernel
abbrev cX5_init : ByteArray := prog_7_method_1_code
def yX5_init : MethodName := ⟨RX5, "<init>", "()V"⟩
abbrev cX5_open : ByteArray := prog_7_method_2_code
def yX5_open : MethodName := ⟨RX5, "open", "(II)V"⟩
abbrev cX5_restart : ByteArray := prog_7_method_3_code
def yX5_restart : MethodName := ⟨RX5, "restart", "()V"⟩
abbrev cX5_copy : ByteArray := prog_7_method_4_code
def yX5_copy : MethodName := ⟨RX5, "copy", "(LLayerBook$Paper;)V"⟩
abbrev cX5_got : ByteArray := prog_7_method_5_code
def yX5_got : MethodName := ⟨RX5, "got", "()J"⟩
abbrev cX5_begin : ByteArray := prog_7_method_6_code
def yX5_begin : MethodName := ⟨RX5, "begin", "()V"⟩
abbrev cX5_end : ByteArray := prog_7_method_7_code
def yX5_end : MethodName := ⟨RX5, "end", "()V"⟩
abbrev cX5_payInterest : ByteArray := prog_7_method_8_code
def yX5_payInterest : MethodName := ⟨RX5, "payInterest", "(J)V"⟩
abbrev cX5_payPrincipal : ByteArray := prog_7_method_9_code
def yX5_payPrincipal : MethodName := ⟨RX5, "payPrincipal", "(JI)V"⟩
abbrev cX5_writeDown : ByteArray := prog_7_method_10_code
def yX5_writeDown : MethodName := ⟨RX5, "writeDown", "(J)V"⟩
def RX6 : String := "LayerBook$Pool"
def TX6 : u_T := fun k => match k with
  | 0 => ("LayerBook$Pool", "loans", "[LLayerBook$Loan;", true)
  | 1 => ("LayerBook$Pool", "count", "I", false)
  | 2 => ("LayerBook$Pool", "seed", "I", false)
  | 3 => ("LayerBook$Pool", "back", "I", false)
  | 4 => ("LayerBook$Pool", "advances", "Z", false)
  | 5 => ("LayerBook$Pool", "advanced", "J", false)
  | _ => ("LayerBook$Pool", "law", "LLayerBook$Law;", false)
def tyX6 : Nat → FieldType := fun k => match k with
  | 0 => .array (.object "LayerBook$Loan")
  | 1 => .int
  | 2 => .int
  | 3 => .int
  | 4 => .boolean
  | 5 => .long
  | _ => .object "LayerBook$Law"
theorem nmX6 : ∀ a, a < 7 → ∀ b, b < 7 → a ≠ b → (TX6 a).2.1 ≠ (TX6 b).2.1 := by decide +kernel
theorem tyX6_ok : ∀ k, k < 7 → parseFieldDescriptor (TX6 k).2.2.1 = some (tyX6 k) := by decide +kernel
abbrev cX6_init : ByteArray := prog_8_method_1_code
def yX6_init : MethodName := ⟨RX6, "<init>", "()V"⟩
abbrev cX6_copy : ByteArray := prog_8_method_2_code
def yX6_copy : MethodName := ⟨RX6, "copy", "(LLayerBook$Pool;)V"⟩
abbrev cX6_balances : ByteArray := prog_8_method_3_code
def yX6_balances : MethodName := ⟨RX6, "balances", "()J"⟩
abbrev cX6_late : ByteArray := prog_8_method_4_code
def yX6_late : MethodName := ⟨RX6, "late", "()I"⟩
abbrev cX6_collect : ByteArray := prog_8_method_5_code
def yX6_collect : MethodName := ⟨RX6, "collect", "(ILLayerBook$Month;)V"⟩
abbrev cX6_draw : ByteArray := prog_8_method_6_code
def yX6_draw : MethodName := ⟨RX6, "draw", "(ILLayerBook$Loan;ILLayerBook$Month;)V"⟩
abbrev cX6_chance : ByteArray := prog_8_method_7_code
def yX6_chance : MethodName := ⟨RX6, "chance", "(ILLayerBook$Loan;I)I"⟩
abbrev cX6_lot : ByteArray := prog_8_method_8_code
def yX6_lot : MethodName := ⟨RX6, "lot", "(II)I"⟩
abbrev cX6_fallLate : ByteArray := prog_8_method_9_code
def yX6_fallLate : MethodName := ⟨RX6, "fallLate", "(LLayerBook$Loan;ILLayerBook$Month;)V"⟩
abbrev cX6_payMonth : ByteArray := prog_8_method_10_code
def yX6_payMonth : MethodName := ⟨RX6, "payMonth", "(LLayerBook$Loan;ILLayerBook$Month;)V"⟩
abbrev cX6_payAll : ByteArray := prog_8_method_11_code
def yX6_payAll : MethodName := ⟨RX6, "payAll", "(LLayerBook$Loan;LLayerBook$Month;JI)V"⟩
abbrev cX6_sell : ByteArray := prog_8_method_12_code
def yX6_sell : MethodName := ⟨RX6, "sell", "(LLayerBook$Loan;LLayerBook$Month;)V"⟩
def RX7 : String := "LayerBook$Sheet"
def TX7 : u_T := fun k => match k with
  | 0 => ("LayerBook$Sheet", "cells", "[I", true)
  | 1 => ("LayerBook$Sheet", "sort", "I", false)
  | _ => ("LayerBook$Sheet", "size", "I", false)
def tyX7 : Nat → FieldType := fun k => match k with
  | 0 => .array .int
  | 1 => .int
  | _ => .int
theorem nmX7 : ∀ a, a < 3 → ∀ b, b < 3 → a ≠ b → (TX7 a).2.1 ≠ (TX7 b).2.1 := by decide +kernel
theorem tyX7_ok : ∀ k, k < 3 → parseFieldDescriptor (TX7 k).2.2.1 = some (tyX7 k) := by decide +kernel
abbrev cX7_init : ByteArray := prog_9_method_1_code
def yX7_init : MethodName := ⟨RX7, "<init>", "()V"⟩
abbrev cX7_lay : ByteArray := prog_9_method_2_code
def yX7_lay : MethodName := ⟨RX7, "lay", "(II)V"⟩
abbrev cX7_holds : ByteArray := prog_9_method_3_code
def yX7_holds : MethodName := ⟨RX7, "holds", "(J)Z"⟩
def RX8 : String := "LayerBook$Tape"
def TX8 : u_T := fun k => match k with
  | 0 => ("LayerBook$Tape", "bytes", "[B", true)
  | 1 => ("LayerBook$Tape", "size", "I", false)
  | 2 => ("LayerBook$Tape", "start", "I", false)
  | 3 => ("LayerBook$Tape", "number", "I", false)
  | 4 => ("LayerBook$Tape", "end", "I", false)
  | _ => ("LayerBook$Tape", "sort", "I", false)
def tyX8 : Nat → FieldType := fun k => match k with
  | 0 => .array .byte
  | 1 => .int
  | 2 => .int
  | 3 => .int
  | 4 => .int
  | _ => .int
theorem nmX8 : ∀ a, a < 6 → ∀ b, b < 6 → a ≠ b → (TX8 a).2.1 ≠ (TX8 b).2.1 := by decide +kernel
theorem tyX8_ok : ∀ k, k < 6 → parseFieldDescriptor (TX8 k).2.2.1 = some (tyX8 k) := by decide +kernel
abbrev cX8_init : ByteArray := prog_10_method_1_code
def yX8_init : MethodName := ⟨RX8, "<init>", "()V"⟩
abbrev cX8_append : ByteArray := prog_10_method_2_code
def yX8_append : MethodName := ⟨RX8, "append", "(IJ)V"⟩
abbrev cX8_begin : ByteArray := prog_10_method_3_code
def yX8_begin : MethodName := ⟨RX8, "begin", "()V"⟩
abbrev cX8_next : ByteArray := prog_10_method_4_code
def yX8_next : MethodName := ⟨RX8, "next", "()V"⟩
abbrev cX8_readNumber : ByteArray := prog_10_method_5_code
def yX8_readNumber : MethodName := ⟨RX8, "readNumber", "()V"⟩
abbrev cX8_at : ByteArray := prog_10_method_6_code
def yX8_at : MethodName := ⟨RX8, "at", "(I)I"⟩
abbrev cX8_isBlank : ByteArray := prog_10_method_7_code
def yX8_isBlank : MethodName := ⟨RX8, "isBlank", "(I)Z"⟩
abbrev cX8_isLetter : ByteArray := prog_10_method_8_code
def yX8_isLetter : MethodName := ⟨RX8, "isLetter", "(I)Z"⟩
abbrev cX8_isDigit : ByteArray := prog_10_method_9_code
def yX8_isDigit : MethodName := ⟨RX8, "isDigit", "(I)Z"⟩
abbrev cX8_isEnd : ByteArray := prog_10_method_10_code
def yX8_isEnd : MethodName := ⟨RX8, "isEnd", "()Z"⟩
abbrev cX8_isNumber : ByteArray := prog_10_method_11_code
def yX8_isNumber : MethodName := ⟨RX8, "isNumber", "()Z"⟩
abbrev cX8_isSign : ByteArray := prog_10_method_12_code
def yX8_isSign : MethodName := ⟨RX8, "isSign", "(C)Z"⟩
abbrev cX8_takesSign : ByteArray := prog_10_method_13_code
def yX8_takesSign : MethodName := ⟨RX8, "takesSign", "(C)Z"⟩
abbrev cX8_takesWord : ByteArray := prog_10_method_14_code
def yX8_takesWord : MethodName := ⟨RX8, "takesWord", "(Ljava/lang/String;)Z"⟩
abbrev cX8_goesOn : ByteArray := prog_10_method_15_code
def yX8_goesOn : MethodName := ⟨RX8, "goesOn", "(Z)Z"⟩
abbrev cX8_which : ByteArray := prog_10_method_16_code
def yX8_which : MethodName := ⟨RX8, "which", "(Ljava/lang/String;)I"⟩
abbrev cX8_isSame : ByteArray := prog_10_method_17_code
def yX8_isSame : MethodName := ⟨RX8, "isSame", "(Ljava/lang/String;II)Z"⟩
def RX9 : String := "LayerBook"
def TX9 : u_T := fun k => match k with
  | 0 => ("LayerBook", "pool", "LLayerBook$Pool;", true)
  | 1 => ("LayerBook", "fall", "LLayerBook$Fall;", true)
  | 2 => ("LayerBook", "otherPool", "LLayerBook$Pool;", true)
  | 3 => ("LayerBook", "otherFall", "LLayerBook$Fall;", true)
  | 4 => ("LayerBook", "otherMonth", "LLayerBook$Month;", true)
  | 5 => ("LayerBook", "months", "[LLayerBook$Month;", true)
  | 6 => ("LayerBook", "orderOf", "[I", true)
  | 7 => ("LayerBook", "tape", "LLayerBook$Tape;", true)
  | 8 => ("LayerBook", "laws", "[LLayerBook$Law;", true)
  | 9 => ("LayerBook", "orders", "[LLayerBook$Order;", true)
  | 10 => ("LayerBook", "sheets", "[LLayerBook$Sheet;", true)
  | 11 => ("LayerBook", "month", "I", false)
  | 12 => ("LayerBook", "lawCount", "I", false)
  | 13 => ("LayerBook", "orderCount", "I", false)
  | _ => ("LayerBook", "forced", "I", false)
def tyX9 : Nat → FieldType := fun k => match k with
  | 0 => .object "LayerBook$Pool"
  | 1 => .object "LayerBook$Fall"
  | 2 => .object "LayerBook$Pool"
  | 3 => .object "LayerBook$Fall"
  | 4 => .object "LayerBook$Month"
  | 5 => .array (.object "LayerBook$Month")
  | 6 => .array .int
  | 7 => .object "LayerBook$Tape"
  | 8 => .array (.object "LayerBook$Law")
  | 9 => .array (.object "LayerBook$Order")
  | 10 => .array (.object "LayerBook$Sheet")
  | 11 => .int
  | 12 => .int
  | 13 => .int
  | _ => .int
theorem nmX9 : ∀ a, a < 15 → ∀ b, b < 15 → a ≠ b → (TX9 a).2.1 ≠ (TX9 b).2.1 := by decide +kernel
theorem tyX9_ok : ∀ k, k < 15 → parseFieldDescriptor (TX9 k).2.2.1 = some (tyX9 k) := by decide +kernel
abbrev cX9_init : ByteArray := prog_1_method_1_code
def yX9_init : MethodName := ⟨RX9, "<init>", "()V"⟩
abbrev cX9_loan : ByteArray := prog_1_method_2_code
def yX9_loan : MethodName := ⟨RX9, "loan", "(IIII)I"⟩
abbrev cX9_loanTold : ByteArray := prog_1_method_3_code
def yX9_loanTold : MethodName := ⟨RX9, "loanTold", "(II)I"⟩
abbrev cX9_paper : ByteArray := prog_1_method_4_code
def yX9_paper : MethodName := ⟨RX9, "paper", "(II)I"⟩
abbrev cX9_paperTold : ByteArray := prog_1_method_5_code
def yX9_paperTold : MethodName := ⟨RX9, "paperTold", "(II)I"⟩
abbrev cX9_life : ByteArray := prog_1_method_6_code
def yX9_life : MethodName := ⟨RX9, "life", "(II)J"⟩
abbrev cX9_tell : ByteArray := prog_1_method_7_code
def yX9_tell : MethodName := ⟨RX9, "tell", "(II)I"⟩
abbrev cX9_trip : ByteArray := prog_1_method_8_code
def yX9_trip : MethodName := ⟨RX9, "trip", "(II)I"⟩
abbrev cX9_feed : ByteArray := prog_1_method_9_code
def yX9_feed : MethodName := ⟨RX9, "feed", "(IJ)I"⟩
abbrev cX9_text : ByteArray := prog_1_method_10_code
def yX9_text : MethodName := ⟨RX9, "text", "()I"⟩
abbrev cX9_force : ByteArray := prog_1_method_11_code
def yX9_force : MethodName := ⟨RX9, "force", "(I)I"⟩
abbrev cX9_says : ByteArray := prog_1_method_12_code
def yX9_says : MethodName := ⟨RX9, "says", "(II)J"⟩
abbrev cX9_order : ByteArray := prog_1_method_13_code
def yX9_order : MethodName := ⟨RX9, "order", "()I"⟩
abbrev cX9_step : ByteArray := prog_1_method_14_code
def yX9_step : MethodName := ⟨RX9, "step", "(III)I"⟩
abbrev cX9_amend : ByteArray := prog_1_method_15_code
def yX9_amend : MethodName := ⟨RX9, "amend", "(II)I"⟩
abbrev cX9_run : ByteArray := prog_1_method_16_code
def yX9_run : MethodName := ⟨RX9, "run", "(I)I"⟩
abbrev cX9_month : ByteArray := prog_1_method_17_code
def yX9_month : MethodName := ⟨RX9, "month", "(II)I"⟩
abbrev cX9_paid : ByteArray := prog_1_method_18_code
def yX9_paid : MethodName := ⟨RX9, "paid", "(II)I"⟩
abbrev cX9_buy : ByteArray := prog_1_method_19_code
def yX9_buy : MethodName := ⟨RX9, "buy", "(I)I"⟩
abbrev cX9_report : ByteArray := prog_1_method_20_code
def yX9_report : MethodName := ⟨RX9, "report", "(IIIII)I"⟩
abbrev cX9_firstUnlike : ByteArray := prog_1_method_21_code
def yX9_firstUnlike : MethodName := ⟨RX9, "firstUnlike", "([IIII)I"⟩
abbrev cX9_beside : ByteArray := prog_1_method_22_code
def yX9_beside : MethodName := ⟨RX9, "beside", "(III)J"⟩
abbrev cX9_count : ByteArray := prog_1_method_23_code
def yX9_count : MethodName := ⟨RX9, "count", "(I)I"⟩
abbrev cX9_sheet : ByteArray := prog_1_method_24_code
def yX9_sheet : MethodName := ⟨RX9, "sheet", "(III)I"⟩
abbrev cX9_cell : ByteArray := prog_1_method_25_code
def yX9_cell : MethodName := ⟨RX9, "cell", "(III)I"⟩
abbrev cX9_loans : ByteArray := prog_1_method_26_code
def yX9_loans : MethodName := ⟨RX9, "loans", "(IIII)I"⟩
abbrev cX9_taken : ByteArray := prog_1_method_27_code
def yX9_taken : MethodName := ⟨RX9, "taken", "(II)I"⟩
abbrev cX9_refusalOf : ByteArray := prog_1_method_28_code
def yX9_refusalOf : MethodName := ⟨RX9, "refusalOf", "(III)I"⟩
abbrev cX9_orderIn : ByteArray := prog_1_method_29_code
def yX9_orderIn : MethodName := ⟨RX9, "orderIn", "(I)LLayerBook$Order;"⟩
abbrev cX9_within : ByteArray := prog_1_method_30_code
def yX9_within : MethodName := ⟨RX9, "within", "(III)Z"⟩
abbrev cX9_commonDivisor : ByteArray := prog_1_method_31_code
def yX9_commonDivisor : MethodName := ⟨RX9, "commonDivisor", "(JJ)J"⟩
def RX10 : String := "LayerBookModel"
def TX10 : u_T := fun k => match k with
  | 0 => ("LayerBookModel", "thrown", "I", false)
  | 1 => ("LayerBookModel", "now", "I", false)
  | 2 => ("LayerBookModel", "loans", "I", false)
  | 3 => ("LayerBookModel", "kind", "[I", true)
  | 4 => ("LayerBookModel", "balance", "[I", true)
  | 5 => ("LayerBookModel", "rate", "[I", true)
  | 6 => ("LayerBookModel", "months", "[I", true)
  | 7 => ("LayerBookModel", "owed", "[I", true)
  | 8 => ("LayerBookModel", "state", "[I", true)
  | 9 => ("LayerBookModel", "pays", "[I", true)
  | 10 => ("LayerBookModel", "failedIn", "[I", true)
  | 11 => ("LayerBookModel", "seed", "I", false)
  | 12 => ("LayerBookModel", "back", "I", false)
  | 13 => ("LayerBookModel", "advances", "I", false)
  | 14 => ("LayerBookModel", "advanced", "I", false)
  | 15 => ("LayerBookModel", "interests", "[J", true)
  | 16 => ("LayerBookModel", "principals", "[J", true)
  | 17 => ("LayerBookModel", "backs", "[J", true)
  | 18 => ("LayerBookModel", "advancedIn", "[J", true)
  | 19 => ("LayerBookModel", "paidBack", "[J", true)
  | 20 => ("LayerBookModel", "poolBegan", "[J", true)
  | 21 => ("LayerBookModel", "poolEnded", "[J", true)
  | 22 => ("LayerBookModel", "losses", "[J", true)
  | 23 => ("LayerBookModel", "lates", "[I", true)
  | 24 => ("LayerBookModel", "texts", "[I", true)
  | 25 => ("LayerBookModel", "textSize", "[I", true)
  | 26 => ("LayerBookModel", "textCount", "I", false)
  | 27 => ("LayerBookModel", "rule", "I", false)
  | 28 => ("LayerBookModel", "tape", "[I", true)
  | 29 => ("LayerBookModel", "taped", "I", false)
  | 30 => ("LayerBookModel", "from", "I", false)
  | 31 => ("LayerBookModel", "size", "I", false)
  | 32 => ("LayerBookModel", "token", "I", false)
  | 33 => ("LayerBookModel", "tokenAt", "I", false)
  | 34 => ("LayerBookModel", "tokenWorth", "J", false)
  | 35 => ("LayerBookModel", "here", "I", false)
  | 36 => ("LayerBookModel", "open", "I", false)
  | 37 => ("LayerBookModel", "bad", "Z", false)
  | 38 => ("LayerBookModel", "fault", "I", false)
  | 39 => ("LayerBookModel", "valueMonth", "I", false)
  | 40 => ("LayerBookModel", "valueRate", "I", false)
  | 41 => ("LayerBookModel", "valueLeft", "I", false)
  | 42 => ("LayerBookModel", "valueOwed", "I", false)
  | 43 => ("LayerBookModel", "valueBalance", "I", false)
  | 44 => ("LayerBookModel", "valueKind", "I", false)
  | 45 => ("LayerBookModel", "orderCount", "I", false)
  | 46 => ("LayerBookModel", "stepCount", "[I", true)
  | 47 => ("LayerBookModel", "stepSort", "[I", true)
  | 48 => ("LayerBookModel", "stepPaper", "[I", true)
  | 49 => ("LayerBookModel", "stepNumber", "[I", true)
  | 50 => ("LayerBookModel", "stepTest", "[I", true)
  | 51 => ("LayerBookModel", "stepField", "[I", true)
  | 52 => ("LayerBookModel", "stepBound", "[I", true)
  | 53 => ("LayerBookModel", "papers", "I", false)
  | 54 => ("LayerBookModel", "began", "[J", true)
  | 55 => ("LayerBookModel", "coupon", "[I", true)
  | 56 => ("LayerBookModel", "paper", "[J", true)
  | 57 => ("LayerBookModel", "shorts", "[J", true)
  | 58 => ("LayerBookModel", "gotInterest", "[J", true)
  | 59 => ("LayerBookModel", "gotPrincipal", "[J", true)
  | 60 => ("LayerBookModel", "gotTimes", "[J", true)
  | 61 => ("LayerBookModel", "written", "[J", true)
  | 62 => ("LayerBookModel", "due", "[J", true)
  | 63 => ("LayerBookModel", "orders", "[I", true)
  | 64 => ("LayerBookModel", "reserve", "J", false)
  | 65 => ("LayerBookModel", "lost", "J", false)
  | 66 => ("LayerBookModel", "restTook", "J", false)
  | 67 => ("LayerBookModel", "isOn", "Z", false)
  | 68 => ("LayerBookModel", "quiet", "I", false)
  | 69 => ("LayerBookModel", "bound", "I", false)
  | 70 => ("LayerBookModel", "cure", "I", false)
  | 71 => ("LayerBookModel", "cashes", "[J", true)
  | 72 => ("LayerBookModel", "reserves", "[J", true)
  | 73 => ("LayerBookModel", "trips", "[Z", true)
  | 74 => ("LayerBookModel", "took", "[J", true)
  | 75 => ("LayerBookModel", "page", "[J", true)
  | 76 => ("LayerBookModel", "pageAt", "I", false)
  | 77 => ("LayerBookModel", "isThere", "[Z", true)
  | 78 => ("LayerBookModel", "sorts", "[I", true)
  | 79 => ("LayerBookModel", "sheetSize", "[I", true)
  | _ => ("LayerBookModel", "items", "[I", true)
def tyX10 : Nat → FieldType := fun k => match k with
  | 0 => .int
  | 1 => .int
  | 2 => .int
  | 3 => .array .int
  | 4 => .array .int
  | 5 => .array .int
  | 6 => .array .int
  | 7 => .array .int
  | 8 => .array .int
  | 9 => .array .int
  | 10 => .array .int
  | 11 => .int
  | 12 => .int
  | 13 => .int
  | 14 => .int
  | 15 => .array .long
  | 16 => .array .long
  | 17 => .array .long
  | 18 => .array .long
  | 19 => .array .long
  | 20 => .array .long
  | 21 => .array .long
  | 22 => .array .long
  | 23 => .array .int
  | 24 => .array .int
  | 25 => .array .int
  | 26 => .int
  | 27 => .int
  | 28 => .array .int
  | 29 => .int
  | 30 => .int
  | 31 => .int
  | 32 => .int
  | 33 => .int
  | 34 => .long
  | 35 => .int
  | 36 => .int
  | 37 => .boolean
  | 38 => .int
  | 39 => .int
  | 40 => .int
  | 41 => .int
  | 42 => .int
  | 43 => .int
  | 44 => .int
  | 45 => .int
  | 46 => .array .int
  | 47 => .array .int
  | 48 => .array .int
  | 49 => .array .int
  | 50 => .array .int
  | 51 => .array .int
  | 52 => .array .int
  | 53 => .int
  | 54 => .array .long
  | 55 => .array .int
  | 56 => .array .long
  | 57 => .array .long
  | 58 => .array .long
  | 59 => .array .long
  | 60 => .array .long
  | 61 => .array .long
  | 62 => .array .long
  | 63 => .array .int
  | 64 => .long
  | 65 => .long
  | 66 => .long
  | 67 => .boolean
  | 68 => .int
  | 69 => .int
  | 70 => .int
  | 71 => .array .long
  | 72 => .array .long
  | 73 => .array .boolean
  | 74 => .array .long
  | 75 => .array .long
  | 76 => .int
  | 77 => .array .boolean
  | 78 => .array .int
  | 79 => .array .int
  | _ => .array .int
theorem nmX10 : ∀ a, a < 81 → ∀ b, b < 81 → a ≠ b → (TX10 a).2.1 ≠ (TX10 b).2.1 := by decide +kernel
theorem tyX10_ok : ∀ k, k < 81 → parseFieldDescriptor (TX10 k).2.2.1 = some (tyX10 k) := by decide +kernel
abbrev cX10_in : ByteArray := prog_12_method_2_code
def yX10_in : MethodName := ⟨RX10, "in", "(III)Z"⟩
abbrev cX10_init : ByteArray := prog_12_method_3_code
def yX10_init : MethodName := ⟨RX10, "<init>", "()V"⟩
abbrev cX10_spell : ByteArray := prog_12_method_4_code
def yX10_spell : MethodName := ⟨RX10, "spell", "(IJ)V"⟩
abbrev cX10_isLoan : ByteArray := prog_12_method_5_code
def yX10_isLoan : MethodName := ⟨RX10, "isLoan", "(I)Z"⟩
abbrev cX10_isTold : ByteArray := prog_12_method_6_code
def yX10_isTold : MethodName := ⟨RX10, "isTold", "(IIII)Z"⟩
abbrev cX10_loan : ByteArray := prog_12_method_7_code
def yX10_loan : MethodName := ⟨RX10, "loan", "(IIII)I"⟩
abbrev cX10_loanTold : ByteArray := prog_12_method_8_code
def yX10_loanTold : MethodName := ⟨RX10, "loanTold", "(II)I"⟩
abbrev cX10_isFixed : ByteArray := prog_12_method_9_code
def yX10_isFixed : MethodName := ⟨RX10, "isFixed", "(I)Z"⟩
abbrev cX10_isReset : ByteArray := prog_12_method_10_code
def yX10_isReset : MethodName := ⟨RX10, "isReset", "(I)Z"⟩
abbrev cX10_interest : ByteArray := prog_12_method_11_code
def yX10_interest : MethodName := ⟨RX10, "interest", "(II)I"⟩
abbrev cX10_leftBy : ByteArray := prog_12_method_12_code
def yX10_leftBy : MethodName := ⟨RX10, "leftBy", "(IIII)I"⟩
abbrev cX10_payFor : ByteArray := prog_12_method_13_code
def yX10_payFor : MethodName := ⟨RX10, "payFor", "(III)I"⟩
abbrev cX10_pool : ByteArray := prog_12_method_14_code
def yX10_pool : MethodName := ⟨RX10, "pool", "()I"⟩
abbrev cX10_principal : ByteArray := prog_12_method_15_code
def yX10_principal : MethodName := ⟨RX10, "principal", "(III)I"⟩
abbrev cX10_tell : ByteArray := prog_12_method_16_code
def yX10_tell : MethodName := ⟨RX10, "tell", "(II)I"⟩
abbrev cX10_buy : ByteArray := prog_12_method_17_code
def yX10_buy : MethodName := ⟨RX10, "buy", "(I)I"⟩
abbrev cX10_within : ByteArray := prog_12_method_18_code
def yX10_within : MethodName := ⟨RX10, "within", "(I)I"⟩
abbrev cX10_lot : ByteArray := prog_12_method_19_code
def yX10_lot : MethodName := ⟨RX10, "lot", "(II)I"⟩
abbrev cX10_paysOff : ByteArray := prog_12_method_20_code
def yX10_paysOff : MethodName := ⟨RX10, "paysOff", "(IIII)V"⟩
abbrev cX10_goes : ByteArray := prog_12_method_21_code
def yX10_goes : MethodName := ⟨RX10, "goes", "(II)V"⟩
abbrev cX10_collect : ByteArray := prog_12_method_22_code
def yX10_collect : MethodName := ⟨RX10, "collect", "(I)V"⟩
abbrev cX10_feed : ByteArray := prog_12_method_23_code
def yX10_feed : MethodName := ⟨RX10, "feed", "(IJ)I"⟩
abbrev cX10_byteAt : ByteArray := prog_12_method_24_code
def yX10_byteAt : MethodName := ⟨RX10, "byteAt", "(I)I"⟩
abbrev cX10_next : ByteArray := prog_12_method_25_code
def yX10_next : MethodName := ⟨RX10, "next", "()V"⟩
abbrev cX10_fail : ByteArray := prog_12_method_26_code
def yX10_fail : MethodName := ⟨RX10, "fail", "()V"⟩
abbrev cX10_isWord : ByteArray := prog_12_method_27_code
def yX10_isWord : MethodName := ⟨RX10, "isWord", "(J)Z"⟩
abbrev cX10_isSign : ByteArray := prog_12_method_28_code
def yX10_isSign : MethodName := ⟨RX10, "isSign", "(I)Z"⟩
abbrev cX10_opens : ByteArray := prog_12_method_29_code
def yX10_opens : MethodName := ⟨RX10, "opens", "()Z"⟩
abbrev cX10_name : ByteArray := prog_12_method_30_code
def yX10_name : MethodName := ⟨RX10, "name", "()I"⟩
abbrev cX10_one : ByteArray := prog_12_method_31_code
def yX10_one : MethodName := ⟨RX10, "one", "()I"⟩
abbrev cX10_term : ByteArray := prog_12_method_32_code
def yX10_term : MethodName := ⟨RX10, "term", "()I"⟩
abbrev cX10_added : ByteArray := prog_12_method_33_code
def yX10_added : MethodName := ⟨RX10, "added", "()I"⟩
abbrev cX10_not : ByteArray := prog_12_method_34_code
def yX10_not : MethodName := ⟨RX10, "not", "()I"⟩
abbrev cX10_both : ByteArray := prog_12_method_35_code
def yX10_both : MethodName := ⟨RX10, "both", "()I"⟩
abbrev cX10_either : ByteArray := prog_12_method_36_code
def yX10_either : MethodName := ⟨RX10, "either", "()I"⟩
abbrev cX10_part : ByteArray := prog_12_method_37_code
def yX10_part : MethodName := ⟨RX10, "part", "(J)I"⟩
abbrev cX10_read : ByteArray := prog_12_method_38_code
def yX10_read : MethodName := ⟨RX10, "read", "(II)I"⟩
abbrev cX10_saysOf : ByteArray := prog_12_method_39_code
def yX10_saysOf : MethodName := ⟨RX10, "saysOf", "(III)I"⟩
abbrev cX10_text : ByteArray := prog_12_method_40_code
def yX10_text : MethodName := ⟨RX10, "text", "()I"⟩
abbrev cX10_force : ByteArray := prog_12_method_41_code
def yX10_force : MethodName := ⟨RX10, "force", "(I)I"⟩
abbrev cX10_says : ByteArray := prog_12_method_42_code
def yX10_says : MethodName := ⟨RX10, "says", "(II)J"⟩
abbrev cX10_numberHere : ByteArray := prog_12_method_43_code
def yX10_numberHere : MethodName := ⟨RX10, "numberHere", "()I"⟩
abbrev cX10_paperHere : ByteArray := prog_12_method_44_code
def yX10_paperHere : MethodName := ⟨RX10, "paperHere", "()I"⟩
abbrev cX10_fieldHere : ByteArray := prog_12_method_45_code
def yX10_fieldHere : MethodName := ⟨RX10, "fieldHere", "()I"⟩
abbrev cX10_readStep : ByteArray := prog_12_method_46_code
def yX10_readStep : MethodName := ⟨RX10, "readStep", "(I)V"⟩
abbrev cX10_order : ByteArray := prog_12_method_47_code
def yX10_order : MethodName := ⟨RX10, "order", "()I"⟩
abbrev cX10_step : ByteArray := prog_12_method_48_code
def yX10_step : MethodName := ⟨RX10, "step", "(III)I"⟩
abbrev cX10_paper : ByteArray := prog_12_method_49_code
def yX10_paper : MethodName := ⟨RX10, "paper", "(II)I"⟩
abbrev cX10_isPaper : ByteArray := prog_12_method_50_code
def yX10_isPaper : MethodName := ⟨RX10, "isPaper", "(I)Z"⟩
abbrev cX10_paperTold : ByteArray := prog_12_method_51_code
def yX10_paperTold : MethodName := ⟨RX10, "paperTold", "(II)I"⟩
abbrev cX10_divisor : ByteArray := prog_12_method_52_code
def yX10_divisor : MethodName := ⟨RX10, "divisor", "(JJ)J"⟩
abbrev cX10_life : ByteArray := prog_12_method_53_code
def yX10_life : MethodName := ⟨RX10, "life", "(II)J"⟩
abbrev cX10_trip : ByteArray := prog_12_method_54_code
def yX10_trip : MethodName := ⟨RX10, "trip", "(II)I"⟩
abbrev cX10_lostNow : ByteArray := prog_12_method_55_code
def yX10_lostNow : MethodName := ⟨RX10, "lostNow", "()J"⟩
abbrev cX10_field : ByteArray := prog_12_method_56_code
def yX10_field : MethodName := ⟨RX10, "field", "(II)J"⟩
abbrev cX10_isSo : ByteArray := prog_12_method_57_code
def yX10_isSo : MethodName := ⟨RX10, "isSo", "(II)Z"⟩
abbrev cX10_wish : ByteArray := prog_12_method_58_code
def yX10_wish : MethodName := ⟨RX10, "wish", "(IIJ)J"⟩
abbrev cX10_pay : ByteArray := prog_12_method_59_code
def yX10_pay : MethodName := ⟨RX10, "pay", "(I)V"⟩
abbrev cX10_anew : ByteArray := prog_12_method_60_code
def yX10_anew : MethodName := ⟨RX10, "anew", "()V"⟩
abbrev cX10_amend : ByteArray := prog_12_method_61_code
def yX10_amend : MethodName := ⟨RX10, "amend", "(II)I"⟩
abbrev cX10_goOn : ByteArray := prog_12_method_62_code
def yX10_goOn : MethodName := ⟨RX10, "goOn", "()V"⟩
abbrev cX10_run : ByteArray := prog_12_method_63_code
def yX10_run : MethodName := ⟨RX10, "run", "(I)I"⟩
abbrev cX10_month : ByteArray := prog_12_method_64_code
def yX10_month : MethodName := ⟨RX10, "month", "(II)I"⟩
abbrev cX10_paid : ByteArray := prog_12_method_65_code
def yX10_paid : MethodName := ⟨RX10, "paid", "(II)I"⟩
abbrev cX10_pass : ByteArray := prog_12_method_66_code
def yX10_pass : MethodName := ⟨RX10, "pass", "(ZJ)J"⟩
abbrev cX10_turn : ByteArray := prog_12_method_67_code
def yX10_turn : MethodName := ⟨RX10, "turn", "(Z)V"⟩
abbrev cX10_beside : ByteArray := prog_12_method_68_code
def yX10_beside : MethodName := ⟨RX10, "beside", "(III)J"⟩
abbrev cX10_count : ByteArray := prog_12_method_69_code
def yX10_count : MethodName := ⟨RX10, "count", "(I)I"⟩
abbrev cX10_isSheet : ByteArray := prog_12_method_70_code
def yX10_isSheet : MethodName := ⟨RX10, "isSheet", "(I)Z"⟩
abbrev cX10_sheet : ByteArray := prog_12_method_71_code
def yX10_sheet : MethodName := ⟨RX10, "sheet", "(III)I"⟩
abbrev cX10_cell : ByteArray := prog_12_method_72_code
def yX10_cell : MethodName := ⟨RX10, "cell", "(III)I"⟩
abbrev cX10_noRow : ByteArray := prog_12_method_73_code
def yX10_noRow : MethodName := ⟨RX10, "noRow", "(IIII)I"⟩
abbrev cX10_report : ByteArray := prog_12_method_74_code
def yX10_report : MethodName := ⟨RX10, "report", "(IIIII)I"⟩
abbrev cX10_loans : ByteArray := prog_12_method_75_code
def yX10_loans : MethodName := ⟨RX10, "loans", "(IIII)I"⟩
abbrev cX10_over : ByteArray := prog_12_method_76_code
def yX10_over : MethodName := ⟨RX10, "over", "(I)I"⟩
abbrev cX10_taken : ByteArray := prog_12_method_77_code
def yX10_taken : MethodName := ⟨RX10, "taken", "(II)I"⟩
def RL : String := "LayerBookLaw"
abbrev cL_law : ByteArray := code
def yL_law : MethodName := ⟨RL, "law", "([I)Z"⟩
abbrev vwCl : List vw_C := [(RX0, TX0, 10), (RX1, TX1, 5), (RX2, TX2, 8), (RX3, TX3, 13), (RX4, TX4, 2), (RX5, TX5, 9), (RX6, TX6, 7), (RX7, TX7, 3), (RX8, TX8, 6), (RX9, TX9, 15), (RX10, TX10, 81)]
end
section
/-! the tables of the worlds: where each cell lies, what it holds -/
def ALL : List Cond := lw_tbl.filter goodWord
theorem mALL {w : Cond} (i : Nat) (h : lw_tbl[i]? = some w) (g : goodWord w = true) : w ∈ ALL := List.mem_filter.mpr ⟨List.mem_of_getElem? h, g⟩
theorem ALL_good {w : Cond} (h : w ∈ ALL) : w ∈ lw_tbl ∧ goodWord w = true := List.mem_filter.mp h
def lay : List (Nat × Nat) := [(9, 0), (6, 0), (20, 0), (2, 0), (2, 1), (2, 2), (2, 3), (2, 4), (2, 5), (2, 6), (2, 7), (2, 8), (2, 9), (2, 10), (2, 11), (0, 0), (21, 0), (5, 0), (5, 1), (5, 2), (5, 3), (5, 4), (6, 1), (20, 1), (2, 12), (2, 13), (2, 14), (2, 15), (2, 16), (2, 17), (2, 18), (2, 19), (2, 20), (2, 21), (2, 22), (2, 23), (0, 1), (21, 1), (5, 5), (5, 6), (5, 7), (5, 8), (5, 9), (3, 61), (28, 61), (22, 0), (23, 0), (8, 0), (24, 0), (25, 0), (26, 0), (27, 0), (3, 0), (28, 0), (3, 1), (28, 1), (3, 2), (28, 2), (3, 3), (28, 3), (3, 4), (28, 4), (3, 5), (28, 5), (3, 6), (28, 6), (3, 7), (28, 7), (3, 8), (28, 8), (3, 9), (28, 9), (3, 10), (28, 10), (3, 11), (28, 11), (3, 12), (28, 12), (3, 13), (28, 13), (3, 14), (28, 14), (3, 15), (28, 15), (3, 16), (28, 16), (3, 17), (28, 17), (3, 18), (28, 18), (3, 19), (28, 19), (3, 20), (28, 20), (3, 21), (28, 21), (3, 22), (28, 22), (3, 23), (28, 23), (3, 24), (28, 24), (3, 25), (28, 25), (3, 26), (28, 26), (3, 27), (28, 27), (3, 28), (28, 28), (3, 29), (28, 29), (3, 30), (28, 30), (3, 31), (28, 31), (3, 32), (28, 32), (3, 33), (28, 33), (3, 34), (28, 34), (3, 35), (28, 35), (3, 36), (28, 36), (3, 37), (28, 37), (3, 38), (28, 38), (3, 39), (28, 39), (3, 40), (28, 40), (3, 41), (28, 41), (3, 42), (28, 42), (3, 43), (28, 43), (3, 44), (28, 44), (3, 45), (28, 45), (3, 46), (28, 46), (3, 47), (28, 47), (3, 48), (28, 48), (3, 49), (28, 49), (3, 50), (28, 50), (3, 51), (28, 51), (3, 52), (28, 52), (3, 53), (28, 53), (3, 54), (28, 54), (3, 55), (28, 55), (3, 56), (28, 56), (3, 57), (28, 57), (3, 58), (28, 58), (3, 59), (28, 59), (3, 60), (28, 60), (1, 0), (29, 0), (30, 0), (31, 0), (1, 1), (29, 1), (30, 1), (31, 1), (1, 2), (29, 2), (30, 2), (31, 2), (1, 3), (29, 3), (30, 3), (31, 3), (1, 4), (29, 4), (30, 4), (31, 4), (1, 5), (29, 5), (30, 5), (31, 5), (4, 0), (32, 0), (33, 0), (33, 1), (33, 2), (33, 3), (33, 4), (33, 5), (33, 6), (33, 7), (33, 8), (33, 9), (4, 1), (32, 1), (33, 10), (33, 11), (33, 12), (33, 13), (33, 14), (33, 15), (33, 16), (33, 17), (33, 18), (33, 19), (4, 2), (32, 2), (33, 20), (33, 21), (33, 22), (33, 23), (33, 24), (33, 25), (33, 26), (33, 27), (33, 28), (33, 29), (4, 3), (32, 3), (33, 30), (33, 31), (33, 32), (33, 33), (33, 34), (33, 35), (33, 36), (33, 37), (33, 38), (33, 39), (4, 4), (32, 4), (33, 40), (33, 41), (33, 42), (33, 43), (33, 44), (33, 45), (33, 46), (33, 47), (33, 48), (33, 49), (4, 5), (32, 5), (33, 50), (33, 51), (33, 52), (33, 53), (33, 54), (33, 55), (33, 56), (33, 57), (33, 58), (33, 59), (7, 0), (34, 0), (7, 1), (34, 1), (7, 2), (34, 2), (7, 3), (34, 3), (10, 0), (40, 0), (41, 0), (42, 0), (43, 0), (44, 0), (45, 0), (46, 0), (47, 0), (48, 0), (49, 0), (50, 0), (51, 0), (52, 0), (53, 0), (54, 0), (55, 0), (56, 0), (57, 0), (58, 0), (59, 0), (60, 0), (61, 0), (62, 0), (63, 0), (64, 0), (65, 0), (66, 0), (67, 0), (68, 0), (69, 0), (70, 0), (71, 0), (72, 0), (73, 0), (74, 0), (75, 0), (76, 0), (77, 0), (78, 0), (79, 0), (80, 0), (81, 0), (82, 0), (83, 0), (84, 0), (85, 0)]
def posLL : List (List Nat) := [[15, 36], [174, 178, 182, 186, 190, 194], [3, 4, 5, 6, 7, 8, 9, 10, 11, 12, 13, 14, 24, 25, 26, 27, 28, 29, 30, 31, 32, 33, 34, 35], [52, 54, 56, 58, 60, 62, 64, 66, 68, 70, 72, 74, 76, 78, 80, 82, 84, 86, 88, 90, 92, 94, 96, 98, 100, 102, 104, 106, 108, 110, 112, 114, 116, 118, 120, 122, 124, 126, 128, 130, 132, 134, 136, 138, 140, 142, 144, 146, 148, 150, 152, 154, 156, 158, 160, 162, 164, 166, 168, 170, 172, 43], [198, 210, 222, 234, 246, 258], [17, 18, 19, 20, 21, 38, 39, 40, 41, 42], [1, 22], [270, 272, 274, 276], [47], [0], [278], [], [], [], [], [], [], [], [], [], [2, 23], [16, 37], [45], [46], [48], [49], [50], [51], [53, 55, 57, 59, 61, 63, 65, 67, 69, 71, 73, 75, 77, 79, 81, 83, 85, 87, 89, 91, 93, 95, 97, 99, 101, 103, 105, 107, 109, 111, 113, 115, 117, 119, 121, 123, 125, 127, 129, 131, 133, 135, 137, 139, 141, 143, 145, 147, 149, 151, 153, 155, 157, 159, 161, 163, 165, 167, 169, 171, 173, 44], [175, 179, 183, 187, 191, 195], [176, 180, 184, 188, 192, 196], [177, 181, 185, 189, 193, 197], [199, 211, 223, 235, 247, 259], [200, 201, 202, 203, 204, 205, 206, 207, 208, 209, 212, 213, 214, 215, 216, 217, 218, 219, 220, 221, 224, 225, 226, 227, 228, 229, 230, 231, 232, 233, 236, 237, 238, 239, 240, 241, 242, 243, 244, 245, 248, 249, 250, 251, 252, 253, 254, 255, 256, 257, 260, 261, 262, 263, 264, 265, 266, 267, 268, 269], [271, 273, 275, 277], [], [], [], [], [], [279], [280], [281], [282], [283], [284], [285], [286], [287], [288], [289], [290], [291], [292], [293], [294], [295], [296], [297], [298], [299], [300], [301], [302], [303], [304], [305], [306], [307], [308], [309], [310], [311], [312], [313], [314], [315], [316], [317], [318], [319], [320], [321], [322], [323], [324]]
def posL (c : Nat) : List Nat := posLL.getD c []
def pos (r : Nat × Nat) : Nat := (posL r.1).getD r.2 0
def cnt (c : Nat) : Nat := (posL c).length
def layF (q : Nat) : Nat × Nat := lay.getD q (999, 0)
abbrev TOT : Nat := 325
theorem lay_pos : ∀ q, q < TOT → pos (layF q) = q := by decide +kernel
theorem pos_lay0 : ∀ c, c < 86 → ∀ i, i < cnt c → layF (pos (c, i)) = (c, i) ∧ pos (c, i) < TOT := by decide +kernel
theorem cnt_out {c : Nat} (h : 86 ≤ c) : cnt c = 0 := by
  have e : posL c = [] := by
    unfold posL
    rw [List.getD_eq_getElem?_getD, List.getElem?_eq_none (Nat.le_trans (by decide +kernel) h)]
    rfl
  unfold cnt
  rw [e]
  rfl
theorem pos_lay {c i : Nat} (h : i < cnt c) : layF (pos (c, i)) = (c, i) ∧ pos (c, i) < TOT := by
  by_cases hc : c < 86
  · exact pos_lay0 c hc i h
  · rw [cnt_out (Nat.le_of_not_lt hc)] at h
    omega
theorem cnt_lt {c i : Nat} (h : i < cnt c) : c < 86 := by
  by_cases hc : c < 86
  · exact hc
  · rw [cnt_out (Nat.le_of_not_lt hc)] at h
    omega
/-- the cell (c, i) is there, when n cells have been made -/
def okA (n c i : Nat) : Prop := i < cnt c ∧ pos (c, i) < n
theorem okT {c i : Nat} (h : i < cnt c) : okA TOT c i := ⟨h, (pos_lay h).2⟩
def nfL : List Nat := [10, 5, 8, 13, 2, 9, 7, 3, 6, 15, 81]
def nf (c : Nat) : Nat := nfL.getD c 0
def tyC (c k : Nat) : FieldType := match c with
  | 0 => tyX0 k
  | 1 => tyX1 k
  | 2 => tyX2 k
  | 3 => tyX3 k
  | 4 => tyX4 k
  | 5 => tyX5 k
  | 6 => tyX6 k
  | 7 => tyX7 k
  | 8 => tyX8 k
  | 9 => tyX9 k
  | _ => tyX10 k
def tagOf (t : FieldType) : Nat := match t with
  | .int => 0
  | .boolean => 0
  | .byte => 0
  | .short => 0
  | .char => 0
  | .long => 1
  | _ => 2
def aTL : List FieldType := [.object "LayerBook$Loan", .object "LayerBook$Paper", .object "LayerBook$Month", .int, .byte, .object "LayerBook$Law", .object "LayerBook$Order", .object "LayerBook$Sheet", .long, .int, .int, .int, .array .int, .int, .int, .int, .int, .int, .int, .int, .int, .int, .int, .int, .int, .int, .int, .int, .long, .long, .long, .long, .long, .long, .long, .long, .int, .int, .int, .int, .int, .int, .int, .int, .int, .int, .int, .long, .int, .long, .long, .long, .long, .long, .long, .long, .int, .long, .long, .boolean, .long, .long, .boolean, .int, .int, .int]
def aNL : List Nat := [12, 5, 61, 62, 160, 6, 6, 4, 10, 160, 4, 40, 10, 6, 40, 0, 0, 0, 0, 0, 12, 12, 12, 12, 12, 12, 12, 12, 61, 61, 61, 61, 61, 61, 61, 61, 61, 1120, 7, 160, 6, 60, 60, 60, 60, 60, 60, 5, 5, 5, 5, 5, 5, 5, 5, 5, 62, 61, 61, 61, 610, 200, 4, 4, 4, 160]
def tixL : List Nat := [4, 5, 6, 0, 3, 7, 8, 9, 1, 0, 0, 0, 10, 0, 0, 0, 0, 0, 0, 0, 0, 0, 0, 0, 0, 0, 0, 0, 1, 1, 1, 1, 1, 1, 1, 1, 0, 0, 0, 0, 0, 0, 0, 0, 0, 0, 0, 1, 0, 1, 1, 1, 1, 1, 1, 1, 0, 1, 1, 2, 1, 1, 2, 0, 0, 0]
def aT (c : Nat) : FieldType := aTL.getD (c - 20) .int
def aN (c : Nat) : Nat := aNL.getD (c - 20) 0
def tix (c : Nat) : Nat := tixL.getD (c - 20) 0
def tysL : List FieldType := [.int, .long, .boolean, .byte, .object "LayerBook$Loan", .object "LayerBook$Paper", .object "LayerBook$Month", .object "LayerBook$Law", .object "LayerBook$Order", .object "LayerBook$Sheet", .array .int]
def tysF (k : Nat) : FieldType := tysL.getD k .int
theorem tix_ok : ∀ c, c < 86 → 20 ≤ c → 0 < cnt c → tysF (tix c) = aT c ∧ tix c < 11 := by decide +kernel
theorem kinds_ok : ∀ c, c < 86 → 0 < cnt c → c < 11 ∨ 20 ≤ c := by decide +kernel
/-- how many slots the first n cells have -/
def szOf (c : Nat) : Nat := if c < 11 then nf c else aN c
def su : Nat → Nat
  | 0 => 0
  | n + 1 => su n + szOf (layF n).1
theorem su_mono {a b : Nat} (h : a ≤ b) : su a ≤ su b := by
  induction b with
  | zero => rw [Nat.le_zero.mp h]; exact Nat.le_refl _
  | succ b ih =>
    rcases Nat.lt_or_ge a (b + 1) with q | q
    · exact Nat.le_trans (ih (by omega)) (Nat.le_add_right _ _)
    · rw [show a = b + 1 by omega]; exact Nat.le_refl _
/-! strings, statics, words that are carried -/
def lenK : List Nat := [8, 15, 3, 2, 3, 33, 4, 21, 9, 2, 26]
def bytK : List (List Int32) := [[40, 41, 59, 43, 45, 42, 60, 61], [102, 97, 105, 108, 32, 108, 97, 116, 101, 32, 101, 97, 114, 108, 121], [110, 111, 116], [111, 114], [97, 110, 100], [109, 111, 110, 116, 104, 32, 114, 97, 116, 101, 32, 108, 101, 102, 116, 32, 111, 119, 101, 100, 32, 98, 97, 108, 97, 110, 99, 101, 32, 107, 105, 110, 100], [114, 101, 115, 116], [102, 101, 101, 32, 112, 97, 121, 32, 111, 119, 110, 32, 112, 97, 114, 116, 32, 107, 101, 101, 112], [97, 32, 98, 32, 99, 32, 100, 32, 101], [105, 102], [109, 111, 110, 116, 104, 32, 108, 97, 116, 101, 32, 108, 111, 115, 116, 32, 99, 111, 118, 101, 114, 32, 116, 114, 105, 112]]
def strR : List (String × Nat × String × Nat) := [("LayerBook$Tape", 48, "();+-*<=", 0), ("LayerBook$Law", 33, "fail late early", 1), ("LayerBook$Law", 79, "not", 2), ("LayerBook$Law", 72, "or", 3), ("LayerBook$Law", 74, "and", 4), ("LayerBook$Law", 87, "month rate left owed balance kind", 5), ("LayerBook$Order", 25, "rest", 6), ("LayerBook$Order", 54, "fee pay own part keep", 7), ("LayerBook$Order", 63, "a b c d e", 8), ("LayerBook$Order", 73, "if", 9), ("LayerBook$Order", 78, "not", 2), ("LayerBook$Order", 80, "month late lost cover trip", 10)]
def fAb : Nat → Int32 := fun j => ([-1, 0, 1, 0, 2, 3] : List Int32).getD j 0
def nestM : List (String × Nat × MethodName × String) := [("LayerBook$Pool", 21, ⟨"LayerBook$Loan", "<init>", "()V"⟩, "LayerBook"), ("LayerBook$Fall", 24, ⟨"LayerBook$Paper", "<init>", "()V"⟩, "LayerBook"), ("LayerBook", 31, ⟨"LayerBook$Month", "<init>", "()V"⟩, "LayerBook"), ("LayerBook", 46, ⟨"LayerBook$Tape", "<init>", "()V"⟩, "LayerBook"), ("LayerBook", 76, ⟨"LayerBook$Law", "<init>", "()V"⟩, "LayerBook"), ("LayerBook", 78, ⟨"LayerBook$Sheet", "<init>", "()V"⟩, "LayerBook")]
def aoW : List String := ["LayerBook$Loan", "LayerBook$Paper", "LayerBook$Month", "LayerBook$Law", "LayerBook$Order", "LayerBook$Sheet"]
/-- what is fixed over the whole run: the launch, the classes, the arrays' classes, the base, the strings and their bytes, the static table, the script -/
abbrev GT : Type := Launch × va_G × (Nat → ClassId) × Nat × (Nat → Nat) × (Nat → Nat) × Nat × Nat × Nat × (Nat → Int32)
abbrev gl (G : GT) : Launch := G.1
abbrev gD (G : GT) : va_G := G.2.1
abbrev gA (G : GT) : Nat → ClassId := G.2.2.1
abbrev gB (G : GT) : Nat := G.2.2.2.1
abbrev gK (G : GT) : Nat → Nat := G.2.2.2.2.1
abbrev gV (G : GT) : Nat → Nat := G.2.2.2.2.2.1
abbrev gT (G : GT) : Nat := G.2.2.2.2.2.2.1
abbrev gS (G : GT) : Nat := G.2.2.2.2.2.2.2.1
abbrev gL (G : GT) : Nat := G.2.2.2.2.2.2.2.2.1
abbrev gX (G : GT) : Nat → Int32 := G.2.2.2.2.2.2.2.2.2
def own (G : GT) : Nat → Prop := fun q => gB G ≤ q
theorem aoA_warm {s U : State} (hW : s.WarmedH U.vm) (hZ : va_Nw (.arrayOver (.array .int)) s) : va_Nw (.arrayOver (.array .int)) U := (show (Cond.arrayOver (.array .int)).before #[] (s.setVm U.vm) = true from by rw [Cond.arrayOver_setVmC hW.alike]; exact hZ)
def Ext (G : GT) (U : State) (H : Heap) : Prop :=
  vk_S 11 lenK bytK (gK G) (gV G) (own G) U H ∧ va_Z "java/lang/String" "COMPACT_STRINGS" "Z" (.int 1) (own G) U H ∧ va_Zq "jdk/internal/util/Preconditions" "SIOOBE_FORMATTER" "Ljava/util/function/BiFunction;" (own G) U H ∧
  va_Z "LayerBook" "ABOVE" "[I" (.ref (gT G)) (own G) U H ∧ va_T .int (gT G) 6 (fun j => .int (fAb j)) (own G) U H ∧ (∀ q ∈ strR, vk_R q.1 q.2.1 q.2.2.1 (gK G q.2.2.2) U) ∧ (∀ q ∈ nestM, va_Nw (.methodLinkNest q.1 q.2.1 q.2.2.1 q.2.2.2) U) ∧
  va_Nw (.fieldLinkNest "LayerBook$Loan" 37 "LayerBook" "ABOVE" "[I" "LayerBook") U ∧ (∀ C ∈ aoW, va_AO C U) ∧ va_Nw (.arrayOver (.array .int)) U ∧ va_X (gS G) (gL G) (gX G) U H ∧ (gS G < H.size ∧ ¬ own G (gS G))
theorem Ext.kept {G : GT} {U : State} {H H1 : Heap} (h : Ext G U H) (hz : H.size ≤ H1.size) (hq : ∀ a : Nat, a < H.size → ¬ own G a → H1[a]? = H[a]?) : Ext G U H1 := by
  obtain ⟨h1, h2, h3, h4, h5, h6, h7, h8, h9, h10, h11, h12, h13⟩ := h
  exact ⟨h1.kept hq, h2.kept hq, h3.kept hq, h4.kept hq, h5.kept hq, h6, h7, h8, h9, h10, h11.kept (hq _ h12 h13), Nat.lt_of_lt_of_le h12 hz, h13⟩
theorem Ext.warm {G : GT} {s U : State} {H : Heap} (hW : s.WarmedH U.vm) (h : Ext G s H) : Ext G U H := by
  obtain ⟨h1, h2, h3, h4, h5, h6, h7, h8, h9, h10, h11, h12⟩ := h
  have hv := hW.alike
  exact ⟨h1.moved hv, h2.moved hv, h3.moved hv, h4.moved hv, h5.moved hv, fun q hq => (h6 q hq).warm hW, fun q hq => (h7 q hq).warmM hW, h8.warmF hW, fun C hC => (h9 C hC).moved hv, aoA_warm hW h10, h11.moved hv, h12⟩
end
section
/-! values of the picture: whole numbers stand for ints and longs, (kind, index) for a cell -/
abbrev AV : Type := Int ⊕ Int ⊕ Option (Nat × Nat)
abbrev vI (x : Int) : AV := .inl x
abbrev vL (x : Int) : AV := .inr (.inl x)
abbrev vR (c i : Nat) : AV := .inr (.inr (some (c, i)))
abbrev vN : AV := .inr (.inr none)
abbrev NN : Type := Nat → Nat → Nat → Int
abbrev RR : Type := Nat → Nat → Nat → Option (Nat × Nat)
def wI (x : Int) : Int := x.bmod 4294967296
def wL (x : Int) : Int := x.bmod 18446744073709551616
theorem wI_id {x : Int} (h1 : -2147483648 ≤ x) (h2 : x < 2147483648) : wI x = x := by
  unfold wI
  rw [Int.bmod_def]
  split <;> omega
theorem wL_id {x : Int} (h1 : -9223372036854775808 ≤ x) (h2 : x < 9223372036854775808) : wL x = x := by
  unfold wL
  rw [Int.bmod_def]
  split <;> omega
theorem wI_rng (x : Int) : -2147483648 ≤ wI x ∧ wI x < 2147483648 := by
  unfold wI
  rw [Int.bmod_def]
  split <;> omega
theorem wL_rng (x : Int) : -9223372036854775808 ≤ wL x ∧ wL x < 9223372036854775808 := by
  unfold wL
  rw [Int.bmod_def]
  split <;> omega
theorem oI_toInt (x : Int) : (Int32.ofInt x).toInt = wI x := by
  unfold wI
  rw [Int32.toInt_ofInt]
theorem oL_toInt (x : Int) : (Int64.ofInt x).toInt = wL x := by
  unfold wL
  rw [Int64.toInt_ofInt]
theorem oI_w (x : Int) : Int32.ofInt (wI x) = Int32.ofInt x := by rw [← oI_toInt, Int32.ofInt_toInt]
theorem oL_w (x : Int) : Int64.ofInt (wL x) = Int64.ofInt x := by rw [← oL_toInt, Int64.ofInt_toInt]
theorem oI_eq {x y : Int} : Int32.ofInt x = Int32.ofInt y ↔ wI x = wI y := by rw [← Int32.toInt_inj, oI_toInt, oI_toInt]
theorem oI_lt {x y : Int} : Int32.ofInt x < Int32.ofInt y ↔ wI x < wI y := by rw [Int32.lt_iff_toInt_lt, oI_toInt, oI_toInt]
theorem oI_le {x y : Int} : Int32.ofInt x ≤ Int32.ofInt y ↔ wI x ≤ wI y := by rw [Int32.le_iff_toInt_le, oI_toInt, oI_toInt]
theorem oL_eq {x y : Int} : Int64.ofInt x = Int64.ofInt y ↔ wL x = wL y := by rw [← Int64.toInt_inj, oL_toInt, oL_toInt]
theorem oL_lt {x y : Int} : Int64.ofInt x < Int64.ofInt y ↔ wL x < wL y := by rw [Int64.lt_iff_toInt_lt, oL_toInt, oL_toInt]
theorem oI_0 : Int32.ofInt 0 = 0 := by decide +kernel
theorem oI_lt0 {x : Int} : Int32.ofInt x < 0 ↔ wI x < 0 := by rw [Int32.lt_iff_toInt_lt, oI_toInt, Int32.toInt_zero]
theorem oI_eq0 {x : Int} : Int32.ofInt x = 0 ↔ wI x = 0 := by rw [← Int32.toInt_inj, oI_toInt, Int32.toInt_zero]
theorem oI_le0 {x : Int} : Int32.ofInt x ≤ 0 ↔ wI x ≤ 0 := by rw [Int32.le_iff_toInt_le, oI_toInt, Int32.toInt_zero]
theorem oI_gt0 {x : Int} : 0 < Int32.ofInt x ↔ 0 < wI x := by rw [Int32.lt_iff_toInt_lt, oI_toInt, Int32.toInt_zero]
theorem oI_ge0 {x : Int} : 0 ≤ Int32.ofInt x ↔ 0 ≤ wI x := by rw [Int32.le_iff_toInt_le, oI_toInt, Int32.toInt_zero]
theorem oI_of {v : Int32} {x : Int} (h : v.toInt = x) : v = Int32.ofInt x := by rw [← h, Int32.ofInt_toInt]
theorem oL_of {v : Int64} {x : Int} (h : v.toInt = x) : v = Int64.ofInt x := by rw [← h, Int64.ofInt_toInt]
theorem oL_eq0 {x : Int} : Int64.ofInt x = 0 ↔ wL x = 0 := by rw [← Int64.toInt_inj, oL_toInt, Int64.toInt_zero]
theorem oI_div (x y : Int) : Int32.ofInt x / Int32.ofInt y = Int32.ofInt ((wI x).tdiv (wI y)) := by
  apply Int32.toInt_inj.mp
  rw [Int32.toInt_div, oI_toInt, oI_toInt, oI_toInt]
  rfl
theorem oL_div (x y : Int) : Int64.ofInt x / Int64.ofInt y = Int64.ofInt ((wL x).tdiv (wL y)) := by
  apply Int64.toInt_inj.mp
  rw [Int64.toInt_div, oL_toInt, oL_toInt, oL_toInt]
  rfl
theorem oI_rem (x y : Int) : Int32.ofInt x - Int32.ofInt x / Int32.ofInt y * Int32.ofInt y = Int32.ofInt ((wI x).tmod (wI y)) := by
  rw [oI_div, ← oI_w y, ← Int32.ofInt_mul, ← oI_w x, ← Int32.ofInt_sub, Int.tmod_def, Int.mul_comm (wI y)]
theorem oL_rem (x y : Int) : Int64.ofInt x - Int64.ofInt x / Int64.ofInt y * Int64.ofInt y = Int64.ofInt ((wL x).tmod (wL y)) := by
  rw [oL_div, ← oL_w y, ← Int64.ofInt_mul, ← oL_w x, ← Int64.ofInt_sub, Int.tmod_def, Int.mul_comm (wL y)]
theorem oI_L (x : Int) : (Int32.ofInt x).toInt64 = Int64.ofInt (wI x) := by
  apply Int64.toInt_inj.mp
  rw [Int32.toInt_toInt64, oI_toInt, oL_toInt, wL_id]
  · have := (wI_rng x).1; omega
  · have := (wI_rng x).2; omega
theorem oL_I (x : Int) : (Int64.ofInt x).toInt32 = Int32.ofInt x := by
  apply Int32.toInt_inj.mp
  rw [Int64.toInt_toInt32, oL_toInt, oI_toInt]
  unfold wL wI
  rw [Int.bmod_bmod_of_dvd]
  exact ⟨4294967296, by decide +kernel⟩
def ad (G : GT) (r : Nat × Nat) : Nat := if r.1 = 200 then gK G r.2 else if r.1 = 201 then gV G r.2 else if r.1 = 202 then gT G else if r.1 = 203 then gS G else gB G + pos r
def cv (G : GT) (v : AV) : Value := match v with
  | .inl x => .int (Int32.ofInt x)
  | .inr (.inl x) => .long (Int64.ofInt x)
  | .inr (.inr r) => va_rf (r.map (ad G))
def slot (G : GT) (N : NN) (R : RR) (c i : Nat) (t : FieldType) (k : Nat) : Value := match tagOf t with
  | 0 => .int (Int32.ofInt (N c i k))
  | 1 => .long (Int64.ofInt (N c i k))
  | _ => va_rf ((R c i k).map (ad G))
def arrE (G : GT) (N : NN) (R : RR) (c i : Nat) : (Nat → Int32) ⊕ (Nat → Int64) ⊕ (Nat → UInt32) ⊕ (Nat → UInt64) ⊕ (Nat → Option Nat) := match tagOf (aT c) with
  | 0 => .inl (fun j => Int32.ofInt (N c i j))
  | 1 => .inr (.inl (fun j => Int64.ofInt (N c i j)))
  | _ => .inr (.inr (.inr (.inr (fun j => (R c i j).map (ad G)))))
def EE (G : GT) (N : NN) (R : RR) (r : Nat × Nat) : va_E := if r.1 < 11 then .inr (r.1, (List.range (nf r.1)).map (fun k => slot G N R r.1 r.2 (tyC r.1 k) k)) else .inl (gA G (tix r.1), aN r.1, arrE G N R r.1 r.2)
def ws (G : GT) (n : Nat) (N : NN) (R : RR) : va_W := (List.range n).map (fun q => (gB G + q, EE G N R (layF q)))
def tys (G : GT) : List (ClassId × FieldType) := (List.range 11).map (fun k => (gA G k, tysF k))
theorem ad_ok {G : GT} {c i : Nat} (h : i < cnt c) : ad G (c, i) = gB G + pos (c, i) := by
  have := cnt_lt h
  unfold ad
  rw [if_neg (by show ¬ c = 200; omega), if_neg (by show ¬ c = 201; omega), if_neg (by show ¬ c = 202; omega), if_neg (by show ¬ c = 203; omega)]
theorem ws_len (G : GT) (n : Nat) (N : NN) (R : RR) : (ws G n N R).length = n := by simp [ws]
theorem ws_get {G : GT} {n : Nat} {N : NN} {R : RR} {q : Nat} (h : q < n) : (ws G n N R)[q]? = some (gB G + q, EE G N R (layF q)) := by
  unfold ws
  rw [List.getElem?_map, List.getElem?_range h]
  rfl
theorem ws_at {G : GT} {n : Nat} {N : NN} {R : RR} {c i : Nat} (h : okA n c i) : (ws G n N R)[pos (c, i)]? = some (ad G (c, i), EE G N R (c, i)) := by
  rw [ws_get h.2, (pos_lay h.1).1, ad_ok h.1]
theorem ws_D (G : GT) (n : Nat) (N : NN) (R : RR) : va_D (own G) (ws G n N R) := by
  have key : ∀ (k : Nat) (q : Nat × va_E), (ws G n N R)[k]? = some q → q.1 = gB G + k := by
    intro k q hk
    have hl : k < n := by
      have := (List.getElem?_eq_some_iff.mp hk).1
      rwa [ws_len] at this
    rw [ws_get hl] at hk
    cases hk
    rfl
  refine ⟨fun i j p q hi hj he => ?_, fun k q hk => ?_⟩
  · rw [key i p hi, key j q hj] at he
    omega
  · show gB G ≤ q.1
    rw [key k q hk]
    omega
/-- one cell changed -/
theorem ws_set {G : GT} {n : Nat} {N N' : NN} {R R' : RR} {c i : Nat} {x : va_E} (hn : n ≤ TOT) (h : okA n c i) (hx : EE G N' R' (c, i) = x) (ho : ∀ r, r ≠ (c, i) → EE G N' R' r = EE G N R r) : (ws G n N R).set (pos (c, i)) (ad G (c, i), x) = ws G n N' R' := by
  apply List.ext_getElem?
  intro q
  by_cases hq : q < n
  · by_cases e : pos (c, i) = q
    · subst e
      rw [List.getElem?_set_self (by rw [ws_len]; exact hq), ws_at h, hx]
    · rw [List.getElem?_set_ne e, ws_get hq, ws_get hq, ho]
      intro hr
      apply e
      rw [← hr]
      exact lay_pos q (Nat.lt_of_lt_of_le hq hn)
  · rw [List.getElem?_eq_none (by rw [List.length_set, ws_len]; omega), List.getElem?_eq_none (by rw [ws_len]; omega)]
/-- one number, one reference changed -/
def up3 (N : NN) (c i k : Nat) (v : Int) : NN := fun c' i' k' => if c' = c ∧ i' = i ∧ k' = k then v else N c' i' k'
def upR (R : RR) (c i k : Nat) (v : Option (Nat × Nat)) : RR := fun c' i' k' => if c' = c ∧ i' = i ∧ k' = k then v else R c' i' k'
theorem EE_obj {G : GT} {N : NN} {R : RR} {c i : Nat} (h : c < 11) : EE G N R (c, i) = .inr (c, (List.range (nf c)).map (fun k => slot G N R c i (tyC c k) k)) := if_pos h
theorem EE_arr {G : GT} {N : NN} {R : RR} {c i : Nat} (h : 20 ≤ c) : EE G N R (c, i) = .inl (gA G (tix c), aN c, arrE G N R c i) := if_neg (show ¬ c < 11 by omega)
theorem EE_other {G : GT} {N N' : NN} {R R' : RR} {c i : Nat} (hN : ∀ c' i' k', ¬ (c' = c ∧ i' = i) → N' c' i' k' = N c' i' k') (hR : ∀ c' i' k', ¬ (c' = c ∧ i' = i) → R' c' i' k' = R c' i' k') (r : Nat × Nat) (hr : r ≠ (c, i)) : EE G N' R' r = EE G N R r := by
  obtain ⟨c', i'⟩ := r
  have hne : ¬ (c' = c ∧ i' = i) := fun q => hr (by rw [q.1, q.2])
  unfold EE
  have e1 : ∀ k, slot G N' R' c' i' (tyC c' k) k = slot G N R c' i' (tyC c' k) k := by
    intro k
    unfold slot
    rw [hN c' i' k hne, hR c' i' k hne]
  have e2 : arrE G N' R' c' i' = arrE G N R c' i' := by
    unfold arrE
    have a1 : (fun j => Int32.ofInt (N' c' i' j)) = fun j => Int32.ofInt (N c' i' j) := funext fun j => by rw [hN c' i' j hne]
    have a2 : (fun j => Int64.ofInt (N' c' i' j)) = fun j => Int64.ofInt (N c' i' j) := funext fun j => by rw [hN c' i' j hne]
    have a3 : (fun j => (R' c' i' j).map (ad G)) = fun j => (R c' i' j).map (ad G) := funext fun j => by rw [hR c' i' j hne]
    rw [a1, a2, a3]
  rw [e2]
  simp only [e1]
theorem up3_o {N : NN} {c i k : Nat} {v : Int} : ∀ c' i' k', ¬ (c' = c ∧ i' = i) → up3 N c i k v c' i' k' = N c' i' k' := fun _ _ _ h => if_neg fun q => h ⟨q.1, q.2.1⟩
theorem upR_o {R : RR} {c i k : Nat} {v : Option (Nat × Nat)} : ∀ c' i' k', ¬ (c' = c ∧ i' = i) → upR R c i k v c' i' k' = R c' i' k' := fun _ _ _ h => if_neg fun q => h ⟨q.1, q.2.1⟩
end
section
/-! AW: from here on the method goes to its end, over any heap that holds the picture -/
def isL (v : AV) : Bool := match v with
  | .inr (.inl _) => true
  | _ => false
theorem cv_isL (G : GT) (v : AV) : ((cv G v).category == 2) = isL v := by
  rcases v with x | x | r
  · rfl
  · rfl
  · cases r <;> rfl
def cvl (G : GT) (ls : List (Nat × AV)) : List (Nat × Value) := ls.map (fun q => (q.1, cv G q.2))
def ls1 (i : Nat) (v : AV) (ls : List (Nat × AV)) : List (Nat × AV) := (i, v) :: ls.filter (fun q => !(q.1 == i) && !(q.1 + 1 == i && isL q.2))
def ls2 (i : Nat) (v : AV) (ls : List (Nat × AV)) : List (Nat × AV) := (i, v) :: ls.filter (fun q => !(q.1 == i) && (!(q.1 == i + 1) && !(q.1 + 1 == i && isL q.2)))
theorem cvl_1 (G : GT) (i : Nat) (v : AV) (ls : List (Nat × AV)) : (i, cv G v) :: (cvl G ls).filter (fun q => !(q.1 == i) && !(q.1 + 1 == i && q.2.category == 2)) = cvl G (ls1 i v ls) := by
  unfold cvl ls1
  rw [List.filter_map, List.map_cons]
  congr 2
  apply List.filter_congr
  intro q _
  simp only [Function.comp_apply, cv_isL]
theorem cvl_2 (G : GT) (i : Nat) (v : AV) (ls : List (Nat × AV)) : (i, cv G v) :: (cvl G ls).filter (fun q => !(q.1 == i) && (!(q.1 == i + 1) && !(q.1 + 1 == i && q.2.category == 2))) = cvl G (ls2 i v ls) := by
  unfold cvl ls2
  rw [List.filter_map, List.map_cons]
  congr 2
  apply List.filter_congr
  intro q _
  simp only [Function.comp_apply, cv_isL]
theorem lk_mem {i : Nat} {v : AV} : ∀ {ls : List (Nat × AV)}, ls.lookup i = some v → (i, v) ∈ ls
  | [], h => by cases h
  | (j, w) :: l, h => by
    rw [List.lookup_cons] at h
    by_cases e : i = j
    · subst e
      simp at h
      rw [h]
      exact List.mem_cons_self
    · rw [show (i == j) = false from by simp [e]] at h
      exact List.mem_cons_of_mem _ (lk_mem h)
theorem cvl_at {G : GT} {la : Array Slot} {nL : Nat} {ls : List (Nat × AV)} (h : lv_has la nL (cvl G ls)) {i : Nat} {v : AV} (hk : ls.lookup i = some v) : la[i]? = some (.val (cv G v)) := h.2.2 (i, cv G v) (List.mem_map.mpr ⟨(i, v), lk_mem hk, rfl⟩)
theorem cvl_pos {G : GT} {i : Nat} {v : AV} {ls : List (Nat × AV)} (hk : ls.lookup i = some v) : ∃ k : Nat, (cvl G ls)[k]? = some (i, cv G v) := by
  obtain ⟨k, hk⟩ := List.getElem?_of_mem (lk_mem hk)
  exact ⟨k, by unfold cvl; rw [List.getElem?_map, hk]; rfl⟩
abbrev ZT : Type := List Frame → Array Value → State → State → Prop
def AC (G : GT) (o : String) (cc : ByteArray) (nL : Nat) (ret : Option FieldType) (ini : Bool) (n0 : Nat) (p : Program) (s : State) (m : MethodId) (args : Array Value) (meth : Method) (c : Code) : Prop :=
  p.tables.exec = Jvm.exec ∧ c.code = cc ∧ c.maxLocals = nL ∧ meth.sig.returnType = ret ∧ meth.locks = false ∧ (∀ w ∈ ALL, w.before args s = true) ∧ s.vm.findClass o = some m.cls ∧ (ini = true → meth.name = "<init>") ∧ Ext G s s.heap ∧ va_K (gD G) vwCl (tys G) s ∧ s.heap.size = gB G + n0
def AW (G : GT) (o : String) (cc : ByteArray) (nL : Nat) (ret : Option FieldType) (ini : Bool) (rm : Room) (n0 : Nat) (Z : ZT) (pc : Nat) (ls : List (Nat × AV)) (st : List AV) (n : Nat) (N : NN) (R : RR) : Prop :=
  ∀ (p : Program) (e : Env) (s : State) (m : MethodId) (args : Array Value) (below : List Frame) (meth : Method) (c : Code) (H : Heap) (locs : List Loc) (la : Array Slot),
    AC G o cc nL ret ini n0 p s m args meth c → n ≤ TOT ∧ n0 ≤ n → va_P (gD G) vwCl (ws G n N R) H → va_S (own G) s.heap H locs → H.size = gB G + n → lv_has la nL (cvl G ls) →
    W p (gl G) e rm s m args below meth c H locs (n - n0) (su n - su n0) (Z below args s) (F0 m pc la (st.map (cv G)))
section AWR
variable {G : GT} {o : String} {cc : ByteArray} {nL : Nat} {ret : Option FieldType} {ini : Bool} {rm : Room} {n0 : Nat} {Z : ZT} {pc : Nat} {ls : List (Nat × AV)} {st : List AV} {n : Nat} {N : NN} {R : RR}
theorem A_iconst  {k v : Int} (hd : decode cc pc = .ok (.iconst k, 1)) (hv : k = v) (h : AW G o cc nL ret ini rm n0 Z (pc + 1) ls (vI v :: st) n N R) : AW G o cc nL ret ini rm n0 Z pc ls st n N R := by
  intro p e s m args below meth c H locs la C hn hP hS hz hl
  subst hv
  exact lv_iconst C.1 C.2.1 hd rfl (h p e s m args below meth c H locs la C hn hP hS hz hl)
theorem A_bipush  {k v : Int} (hd : decode cc pc = .ok (.bipush k, 2)) (hv : (Int8.ofInt k).toInt32 = Int32.ofInt v) (h : AW G o cc nL ret ini rm n0 Z (pc + 2) ls (vI v :: st) n N R) : AW G o cc nL ret ini rm n0 Z pc ls st n N R := by
  intro p e s m args below meth c H locs la C hn hP hS hz hl
  exact lv_bipush C.1 C.2.1 hd hv (h p e s m args below meth c H locs la C hn hP hS hz hl)
theorem A_sipush  {k v : Int} (hd : decode cc pc = .ok (.sipush k, 3)) (hv : (Int16.ofInt k).toInt32 = Int32.ofInt v) (h : AW G o cc nL ret ini rm n0 Z (pc + 3) ls (vI v :: st) n N R) : AW G o cc nL ret ini rm n0 Z pc ls st n N R := by
  intro p e s m args below meth c H locs la C hn hP hS hz hl
  exact lv_sipush C.1 C.2.1 hd hv (h p e s m args below meth c H locs la C hn hP hS hz hl)
theorem A_lconst  {k : Fin 2} {v : Int} (hd : decode cc pc = .ok (.lconst k, 1)) (hv : Int64.ofNat (k : Nat) = Int64.ofInt v) (h : AW G o cc nL ret ini rm n0 Z (pc + 1) ls (vL v :: st) n N R) : AW G o cc nL ret ini rm n0 Z pc ls st n N R := by
  intro p e s m args below meth c H locs la C hn hP hS hz hl
  exact lv_lconst C.1 C.2.1 hd hv (h p e s m args below meth c H locs la C hn hP hS hz hl)
theorem A_null  (hd : decode cc pc = .ok (.aconst_null, 1)) (h : AW G o cc nL ret ini rm n0 Z (pc + 1) ls (vN :: st) n N R) : AW G o cc nL ret ini rm n0 Z pc ls st n N R := by
  intro p e s m args below meth c H locs la C hn hP hS hz hl
  exact lv_null C.1 C.2.1 hd (h p e s m args below meth c H locs la C hn hP hS hz hl)
theorem A_ldc  {v : Int32} {x : Int} {k : Nat} (hd : decode cc pc = .ok (.ldc k, 2)) (hw : Cond.constant o k v ∈ ALL) (hv : v = Int32.ofInt x) (h : AW G o cc nL ret ini rm n0 Z (pc + 2) ls (vI x :: st) n N R) : AW G o cc nL ret ini rm n0 Z pc ls st n N R := by
  intro p e s m args below meth c H locs la C hn hP hS hz hl
  subst hv
  exact lv_ldc C.1 C.2.1 C.2.2.2.2.2.2.1 (C.2.2.2.2.2.1 _ hw) hd (h p e s m args below meth c H locs la C hn hP hS hz hl)
theorem A_ldc2  {v : Int64} {x : Int} {k : Nat} (hd : decode cc pc = .ok (.ldc2_w k, 3)) (hw : Cond.constantLong o k v ∈ ALL) (hv : v = Int64.ofInt x) (h : AW G o cc nL ret ini rm n0 Z (pc + 3) ls (vL x :: st) n N R) : AW G o cc nL ret ini rm n0 Z pc ls st n N R := by
  intro p e s m args below meth c H locs la C hn hP hS hz hl
  subst hv
  exact lv_ldc2 C.1 C.2.1 C.2.2.2.2.2.2.1 (C.2.2.2.2.2.1 _ hw) hd (h p e s m args below meth c H locs la C hn hP hS hz hl)
theorem A_ldcS  {tx : String} {k q : Nat} (hd : decode cc pc = .ok (.ldc k, 2)) (hw : (o, k, tx, q) ∈ strR) (h : AW G o cc nL ret ini rm n0 Z (pc + 2) ls (vR 200 q :: st) n N R) : AW G o cc nL ret ini rm n0 Z pc ls st n N R := by
  intro p e s m args below meth c H locs la C hn hP hS hz hl
  exact va_ldcS C.1 C.2.1 C.2.2.2.2.2.2.1 (C.2.2.2.2.2.2.2.2.1.2.2.2.2.2.1 _ hw) hd (h p e s m args below meth c H locs la C hn hP hS hz hl)
theorem A_iload_n  {k : Fin 4} {i : Nat} {x : Int} (hd : decode cc pc = .ok (.iload_n k, 1)) (hi : (k : Nat) = i) (hk : ls.lookup i = some (vI x)) (h : AW G o cc nL ret ini rm n0 Z (pc + 1) ls (vI x :: st) n N R) : AW G o cc nL ret ini rm n0 Z pc ls st n N R := by
  intro p e s m args below meth c H locs la C hn hP hS hz hl
  exact lv_iload_n C.1 C.2.1 hd hi (cvl_at hl hk) (h p e s m args below meth c H locs la C hn hP hS hz hl)
theorem A_iload  {i : Nat} {x : Int} (hd : decode cc pc = .ok (.iload i, 2)) (hk : ls.lookup i = some (vI x)) (h : AW G o cc nL ret ini rm n0 Z (pc + 2) ls (vI x :: st) n N R) : AW G o cc nL ret ini rm n0 Z pc ls st n N R := by
  intro p e s m args below meth c H locs la C hn hP hS hz hl
  exact lv_iload C.1 C.2.1 hd (cvl_at hl hk) (h p e s m args below meth c H locs la C hn hP hS hz hl)
theorem A_lload_n  {k : Fin 4} {i : Nat} {x : Int} (hd : decode cc pc = .ok (.lload_n k, 1)) (hi : (k : Nat) = i) (hk : ls.lookup i = some (vL x)) (h : AW G o cc nL ret ini rm n0 Z (pc + 1) ls (vL x :: st) n N R) : AW G o cc nL ret ini rm n0 Z pc ls st n N R := by
  intro p e s m args below meth c H locs la C hn hP hS hz hl
  exact lv_lload_n C.1 C.2.1 hd hi (cvl_at hl hk) (h p e s m args below meth c H locs la C hn hP hS hz hl)
theorem A_lload  {i : Nat} {x : Int} (hd : decode cc pc = .ok (.lload i, 2)) (hk : ls.lookup i = some (vL x)) (h : AW G o cc nL ret ini rm n0 Z (pc + 2) ls (vL x :: st) n N R) : AW G o cc nL ret ini rm n0 Z pc ls st n N R := by
  intro p e s m args below meth c H locs la C hn hP hS hz hl
  exact lv_lload C.1 C.2.1 hd (cvl_at hl hk) (h p e s m args below meth c H locs la C hn hP hS hz hl)
theorem A_aload_n  {k : Fin 4} {i c0 i0 : Nat} (hd : decode cc pc = .ok (.aload_n k, 1)) (hi : (k : Nat) = i) (hk : ls.lookup i = some (vR c0 i0)) (h : AW G o cc nL ret ini rm n0 Z (pc + 1) ls (vR c0 i0 :: st) n N R) : AW G o cc nL ret ini rm n0 Z pc ls st n N R := by
  intro p e s m args below meth c H locs la C hn hP hS hz hl
  exact lv_aload_n C.1 C.2.1 hd hi (cvl_at hl hk) (h p e s m args below meth c H locs la C hn hP hS hz hl)
theorem A_aload  {i c0 i0 : Nat} (hd : decode cc pc = .ok (.aload i, 2)) (hk : ls.lookup i = some (vR c0 i0)) (h : AW G o cc nL ret ini rm n0 Z (pc + 2) ls (vR c0 i0 :: st) n N R) : AW G o cc nL ret ini rm n0 Z pc ls st n N R := by
  intro p e s m args below meth c H locs la C hn hP hS hz hl
  exact lv_aload C.1 C.2.1 hd (cvl_at hl hk) (h p e s m args below meth c H locs la C hn hP hS hz hl)
theorem A_istore_n  {k : Fin 4} {i : Nat} {x : Int} {ls' : List (Nat × AV)} (hd : decode cc pc = .ok (.istore_n k, 1)) (hi : (k : Nat) = i) (hlt : i < nL) (he : ls1 i (vI x) ls = ls') (h : AW G o cc nL ret ini rm n0 Z (pc + 1) ls' st n N R) : AW G o cc nL ret ini rm n0 Z pc ls (vI x :: st) n N R := by
  intro p e s m args below meth c H locs la C hn hP hS hz hl
  subst he
  exact lv_istore_n C.1 C.2.1 hd hi hl hlt (cvl_1 G i (vI x) ls) (fun la2 hl2 => h p e s m args below meth c H locs la2 C hn hP hS hz hl2)
theorem A_istore  {i : Nat} {x : Int} {ls' : List (Nat × AV)} (hd : decode cc pc = .ok (.istore i, 2)) (hlt : i < nL) (he : ls1 i (vI x) ls = ls') (h : AW G o cc nL ret ini rm n0 Z (pc + 2) ls' st n N R) : AW G o cc nL ret ini rm n0 Z pc ls (vI x :: st) n N R := by
  intro p e s m args below meth c H locs la C hn hP hS hz hl
  subst he
  exact lv_istore C.1 C.2.1 hd hl hlt (cvl_1 G i (vI x) ls) (fun la2 hl2 => h p e s m args below meth c H locs la2 C hn hP hS hz hl2)
theorem A_lstore_n  {k : Fin 4} {i : Nat} {x : Int} {ls' : List (Nat × AV)} (hd : decode cc pc = .ok (.lstore_n k, 1)) (hi : (k : Nat) = i) (hlt : i + 1 < nL) (he : ls2 i (vL x) ls = ls') (h : AW G o cc nL ret ini rm n0 Z (pc + 1) ls' st n N R) : AW G o cc nL ret ini rm n0 Z pc ls (vL x :: st) n N R := by
  intro p e s m args below meth c H locs la C hn hP hS hz hl
  subst he
  exact lv_lstore_n C.1 C.2.1 hd hi hl hlt (cvl_2 G i (vL x) ls) (fun la2 hl2 => h p e s m args below meth c H locs la2 C hn hP hS hz hl2)
theorem A_lstore  {i : Nat} {x : Int} {ls' : List (Nat × AV)} (hd : decode cc pc = .ok (.lstore i, 2)) (hlt : i + 1 < nL) (he : ls2 i (vL x) ls = ls') (h : AW G o cc nL ret ini rm n0 Z (pc + 2) ls' st n N R) : AW G o cc nL ret ini rm n0 Z pc ls (vL x :: st) n N R := by
  intro p e s m args below meth c H locs la C hn hP hS hz hl
  subst he
  exact lv_lstore C.1 C.2.1 hd hl hlt (cvl_2 G i (vL x) ls) (fun la2 hl2 => h p e s m args below meth c H locs la2 C hn hP hS hz hl2)
theorem A_astore_n  {k : Fin 4} {i : Nat} {c0 i0 : Nat} {ls' : List (Nat × AV)} (hd : decode cc pc = .ok (.astore_n k, 1)) (hi : (k : Nat) = i) (hlt : i < nL) (he : ls1 i (vR c0 i0) ls = ls') (h : AW G o cc nL ret ini rm n0 Z (pc + 1) ls' st n N R) : AW G o cc nL ret ini rm n0 Z pc ls (vR c0 i0 :: st) n N R := by
  intro p e s m args below meth c H locs la C hn hP hS hz hl
  subst he
  exact lv_astore_n C.1 C.2.1 hd hi hl hlt (cvl_1 G i (vR c0 i0) ls) (fun la2 hl2 => h p e s m args below meth c H locs la2 C hn hP hS hz hl2)
theorem A_astore  {i : Nat} {c0 i0 : Nat} {ls' : List (Nat × AV)} (hd : decode cc pc = .ok (.astore i, 2)) (hlt : i < nL) (he : ls1 i (vR c0 i0) ls = ls') (h : AW G o cc nL ret ini rm n0 Z (pc + 2) ls' st n N R) : AW G o cc nL ret ini rm n0 Z pc ls (vR c0 i0 :: st) n N R := by
  intro p e s m args below meth c H locs la C hn hP hS hz hl
  subst he
  exact lv_astore C.1 C.2.1 hd hl hlt (cvl_1 G i (vR c0 i0) ls) (fun la2 hl2 => h p e s m args below meth c H locs la2 C hn hP hS hz hl2)
theorem A_iinc  {i : Nat} {x k v : Int} {ls' : List (Nat × AV)} (hd : decode cc pc = .ok (.iinc i k, 3)) (hlt : i < nL) (hk : ls.lookup i = some (vI x)) (hv : x + k = v) (he : ls1 i (vI v) ls = ls') (h : AW G o cc nL ret ini rm n0 Z (pc + 3) ls' st n N R) : AW G o cc nL ret ini rm n0 Z pc ls st n N R := by
  intro p e s m args below meth c H locs la C hn hP hS hz hl
  subst he
  subst hv
  obtain ⟨q, hq⟩ := cvl_pos (G := G) hk
  exact lv_iinc C.1 C.2.1 hd hl hq (Int32.ofInt_add _ _).symm hlt (cvl_1 G i (vI (x + k)) ls) (fun la2 hl2 => h p e s m args below meth c H locs la2 C hn hP hS hz hl2)
theorem A_iadd  {x y : Int} (hd : decode cc pc = .ok (.iadd, 1)) (h : AW G o cc nL ret ini rm n0 Z (pc + 1) ls (vI (x + y) :: st) n N R) : AW G o cc nL ret ini rm n0 Z pc ls (vI y :: vI x :: st) n N R := by
  intro p e s m args below meth c H locs la C hn hP hS hz hl
  refine lv_iadd C.1 C.2.1 hd ?_
  rw [← Int32.ofInt_add]
  exact h p e s m args below meth c H locs la C hn hP hS hz hl
theorem A_ladd  {x y : Int} (hd : decode cc pc = .ok (.ladd, 1)) (h : AW G o cc nL ret ini rm n0 Z (pc + 1) ls (vL (x + y) :: st) n N R) : AW G o cc nL ret ini rm n0 Z pc ls (vL y :: vL x :: st) n N R := by
  intro p e s m args below meth c H locs la C hn hP hS hz hl
  refine lv_ladd C.1 C.2.1 hd ?_
  rw [← Int64.ofInt_add]
  exact h p e s m args below meth c H locs la C hn hP hS hz hl
theorem A_isub  {x y : Int} (hd : decode cc pc = .ok (.isub, 1)) (h : AW G o cc nL ret ini rm n0 Z (pc + 1) ls (vI (x - y) :: st) n N R) : AW G o cc nL ret ini rm n0 Z pc ls (vI y :: vI x :: st) n N R := by
  intro p e s m args below meth c H locs la C hn hP hS hz hl
  refine lv_isub C.1 C.2.1 hd ?_
  rw [← Int32.ofInt_sub]
  exact h p e s m args below meth c H locs la C hn hP hS hz hl
theorem A_lsub  {x y : Int} (hd : decode cc pc = .ok (.lsub, 1)) (h : AW G o cc nL ret ini rm n0 Z (pc + 1) ls (vL (x - y) :: st) n N R) : AW G o cc nL ret ini rm n0 Z pc ls (vL y :: vL x :: st) n N R := by
  intro p e s m args below meth c H locs la C hn hP hS hz hl
  refine lv_lsub C.1 C.2.1 hd ?_
  rw [← Int64.ofInt_sub]
  exact h p e s m args below meth c H locs la C hn hP hS hz hl
theorem A_imul  {x y : Int} (hd : decode cc pc = .ok (.imul, 1)) (h : AW G o cc nL ret ini rm n0 Z (pc + 1) ls (vI (x * y) :: st) n N R) : AW G o cc nL ret ini rm n0 Z pc ls (vI y :: vI x :: st) n N R := by
  intro p e s m args below meth c H locs la C hn hP hS hz hl
  refine lv_imul C.1 C.2.1 hd ?_
  rw [← Int32.ofInt_mul]
  exact h p e s m args below meth c H locs la C hn hP hS hz hl
theorem A_lmul  {x y : Int} (hd : decode cc pc = .ok (.lmul, 1)) (h : AW G o cc nL ret ini rm n0 Z (pc + 1) ls (vL (x * y) :: st) n N R) : AW G o cc nL ret ini rm n0 Z pc ls (vL y :: vL x :: st) n N R := by
  intro p e s m args below meth c H locs la C hn hP hS hz hl
  refine lv_lmul C.1 C.2.1 hd ?_
  rw [← Int64.ofInt_mul]
  exact h p e s m args below meth c H locs la C hn hP hS hz hl
theorem A_ineg  {x : Int} (hd : decode cc pc = .ok (.ineg, 1)) (h : AW G o cc nL ret ini rm n0 Z (pc + 1) ls (vI (-x) :: st) n N R) : AW G o cc nL ret ini rm n0 Z pc ls (vI x :: st) n N R := by
  intro p e s m args below meth c H locs la C hn hP hS hz hl
  refine lv_ineg C.1 C.2.1 hd ?_
  rw [← Int32.ofInt_neg]
  exact h p e s m args below meth c H locs la C hn hP hS hz hl
theorem A_lneg  {x : Int} (hd : decode cc pc = .ok (.lneg, 1)) (h : AW G o cc nL ret ini rm n0 Z (pc + 1) ls (vL (-x) :: st) n N R) : AW G o cc nL ret ini rm n0 Z pc ls (vL x :: st) n N R := by
  intro p e s m args below meth c H locs la C hn hP hS hz hl
  refine lv_lneg C.1 C.2.1 hd ?_
  rw [← Int64.ofInt_neg]
  exact h p e s m args below meth c H locs la C hn hP hS hz hl
theorem A_idiv  {x y : Int} (hd : decode cc pc = .ok (.idiv, 1)) (hne : wI y ≠ 0) (h : AW G o cc nL ret ini rm n0 Z (pc + 1) ls (vI ((wI x).tdiv (wI y)) :: st) n N R) : AW G o cc nL ret ini rm n0 Z pc ls (vI y :: vI x :: st) n N R := by
  intro p e s m args below meth c H locs la C hn hP hS hz hl
  refine lv_idiv C.1 C.2.1 hd (fun q => hne (oI_eq0.mp q)) ?_
  rw [oI_div]
  exact h p e s m args below meth c H locs la C hn hP hS hz hl
theorem A_irem  {x y : Int} (hd : decode cc pc = .ok (.irem, 1)) (hne : wI y ≠ 0) (h : AW G o cc nL ret ini rm n0 Z (pc + 1) ls (vI ((wI x).tmod (wI y)) :: st) n N R) : AW G o cc nL ret ini rm n0 Z pc ls (vI y :: vI x :: st) n N R := by
  intro p e s m args below meth c H locs la C hn hP hS hz hl
  refine lv_irem C.1 C.2.1 hd (fun q => hne (oI_eq0.mp q)) ?_
  rw [oI_rem]
  exact h p e s m args below meth c H locs la C hn hP hS hz hl
theorem A_ldiv  {x y : Int} (hd : decode cc pc = .ok (.ldiv, 1)) (hne : wL y ≠ 0) (h : AW G o cc nL ret ini rm n0 Z (pc + 1) ls (vL ((wL x).tdiv (wL y)) :: st) n N R) : AW G o cc nL ret ini rm n0 Z pc ls (vL y :: vL x :: st) n N R := by
  intro p e s m args below meth c H locs la C hn hP hS hz hl
  refine lv_ldiv C.1 C.2.1 hd (fun q => hne (oL_eq0.mp q)) ?_
  rw [oL_div]
  exact h p e s m args below meth c H locs la C hn hP hS hz hl
theorem A_lrem  {x y : Int} (hd : decode cc pc = .ok (.lrem, 1)) (hne : wL y ≠ 0) (h : AW G o cc nL ret ini rm n0 Z (pc + 1) ls (vL ((wL x).tmod (wL y)) :: st) n N R) : AW G o cc nL ret ini rm n0 Z pc ls (vL y :: vL x :: st) n N R := by
  intro p e s m args below meth c H locs la C hn hP hS hz hl
  refine lv_lrem C.1 C.2.1 hd (fun q => hne (oL_eq0.mp q)) ?_
  rw [oL_rem]
  exact h p e s m args below meth c H locs la C hn hP hS hz hl
def andI (x y : Int) : Int := (Int32.ofInt x &&& Int32.ofInt y).toInt
def andL (x y : Int) : Int := (Int64.ofInt x &&& Int64.ofInt y).toInt
def orL (x y : Int) : Int := (Int64.ofInt x ||| Int64.ofInt y).toInt
def shlL (x y : Int) : Int := (Int64.ofInt x <<< ((Int32.ofInt y).toInt64 &&& 63)).toInt
def shrL (x y : Int) : Int := (Int64.ofInt x >>> ((Int32.ofInt y).toInt64 &&& 63)).toInt
def ushrL (x y : Int) : Int := (((Int64.ofInt x).toUInt64 >>> ((Int32.ofInt y).toInt64.toUInt64 &&& Int64.toUInt64 63)).toInt64).toInt
def i2bI (x : Int) : Int := (Int32.ofInt x).toInt8.toInt32.toInt
def i2sI (x : Int) : Int := (Int32.ofInt x).toInt16.toInt32.toInt
def i2cI (x : Int) : Int := ((Int32.ofInt x).toUInt32 % 65536).toInt32.toInt
def cmpI (a b : Int) : Int := if b < a then 1 else if a = b then 0 else -1
theorem A_iand  {x y : Int} (hd : decode cc pc = .ok (.iand, 1)) (h : AW G o cc nL ret ini rm n0 Z (pc + 1) ls (vI (andI x y) :: st) n N R) : AW G o cc nL ret ini rm n0 Z pc ls (vI y :: vI x :: st) n N R := by
  intro p e s m args below meth c H locs la C hn hP hS hz hl
  refine lv_iand C.1 C.2.1 hd ?_
  rw [oI_of (x := andI x y) rfl]
  exact h p e s m args below meth c H locs la C hn hP hS hz hl
theorem A_land  {x y : Int} (hd : decode cc pc = .ok (.land, 1)) (h : AW G o cc nL ret ini rm n0 Z (pc + 1) ls (vL (andL x y) :: st) n N R) : AW G o cc nL ret ini rm n0 Z pc ls (vL y :: vL x :: st) n N R := by
  intro p e s m args below meth c H locs la C hn hP hS hz hl
  refine lv_land C.1 C.2.1 hd ?_
  rw [oL_of (x := andL x y) rfl]
  exact h p e s m args below meth c H locs la C hn hP hS hz hl
theorem A_lor  {x y : Int} (hd : decode cc pc = .ok (.lor, 1)) (h : AW G o cc nL ret ini rm n0 Z (pc + 1) ls (vL (orL x y) :: st) n N R) : AW G o cc nL ret ini rm n0 Z pc ls (vL y :: vL x :: st) n N R := by
  intro p e s m args below meth c H locs la C hn hP hS hz hl
  refine lv_lor C.1 C.2.1 hd ?_
  rw [oL_of (x := orL x y) rfl]
  exact h p e s m args below meth c H locs la C hn hP hS hz hl
theorem A_lshl  {x y : Int} (hd : decode cc pc = .ok (.lshl, 1)) (h : AW G o cc nL ret ini rm n0 Z (pc + 1) ls (vL (shlL x y) :: st) n N R) : AW G o cc nL ret ini rm n0 Z pc ls (vI y :: vL x :: st) n N R := by
  intro p e s m args below meth c H locs la C hn hP hS hz hl
  exact lv_lshl C.1 C.2.1 hd (oL_of (x := shlL x y) rfl) (h p e s m args below meth c H locs la C hn hP hS hz hl)
theorem A_lshr  {x y : Int} (hd : decode cc pc = .ok (.lshr, 1)) (h : AW G o cc nL ret ini rm n0 Z (pc + 1) ls (vL (shrL x y) :: st) n N R) : AW G o cc nL ret ini rm n0 Z pc ls (vI y :: vL x :: st) n N R := by
  intro p e s m args below meth c H locs la C hn hP hS hz hl
  exact lv_lshr C.1 C.2.1 hd (oL_of (x := shrL x y) rfl) (h p e s m args below meth c H locs la C hn hP hS hz hl)
theorem A_lushr  {x y : Int} (hd : decode cc pc = .ok (.lushr, 1)) (h : AW G o cc nL ret ini rm n0 Z (pc + 1) ls (vL (ushrL x y) :: st) n N R) : AW G o cc nL ret ini rm n0 Z pc ls (vI y :: vL x :: st) n N R := by
  intro p e s m args below meth c H locs la C hn hP hS hz hl
  exact lv_lushr C.1 C.2.1 hd (oL_of (x := ushrL x y) rfl) (h p e s m args below meth c H locs la C hn hP hS hz hl)
theorem A_i2b  {x : Int} (hd : decode cc pc = .ok (.i2b, 1)) (h : AW G o cc nL ret ini rm n0 Z (pc + 1) ls (vI (i2bI x) :: st) n N R) : AW G o cc nL ret ini rm n0 Z pc ls (vI x :: st) n N R := by
  intro p e s m args below meth c H locs la C hn hP hS hz hl
  exact lv_i2b C.1 C.2.1 hd (oI_of (x := i2bI x) rfl) (h p e s m args below meth c H locs la C hn hP hS hz hl)
theorem A_i2s  {x : Int} (hd : decode cc pc = .ok (.i2s, 1)) (h : AW G o cc nL ret ini rm n0 Z (pc + 1) ls (vI (i2sI x) :: st) n N R) : AW G o cc nL ret ini rm n0 Z pc ls (vI x :: st) n N R := by
  intro p e s m args below meth c H locs la C hn hP hS hz hl
  exact lv_i2s C.1 C.2.1 hd (oI_of (x := i2sI x) rfl) (h p e s m args below meth c H locs la C hn hP hS hz hl)
theorem A_i2c  {x : Int} (hd : decode cc pc = .ok (.i2c, 1)) (h : AW G o cc nL ret ini rm n0 Z (pc + 1) ls (vI (i2cI x) :: st) n N R) : AW G o cc nL ret ini rm n0 Z pc ls (vI x :: st) n N R := by
  intro p e s m args below meth c H locs la C hn hP hS hz hl
  exact lv_i2c C.1 C.2.1 hd (oI_of (x := i2cI x) rfl) (h p e s m args below meth c H locs la C hn hP hS hz hl)
theorem A_i2l  {x : Int} (hd : decode cc pc = .ok (.i2l, 1)) (h : AW G o cc nL ret ini rm n0 Z (pc + 1) ls (vL (wI x) :: st) n N R) : AW G o cc nL ret ini rm n0 Z pc ls (vI x :: st) n N R := by
  intro p e s m args below meth c H locs la C hn hP hS hz hl
  exact lv_i2l C.1 C.2.1 hd (oI_L x) (h p e s m args below meth c H locs la C hn hP hS hz hl)
theorem A_l2i  {x : Int} (hd : decode cc pc = .ok (.l2i, 1)) (h : AW G o cc nL ret ini rm n0 Z (pc + 1) ls (vI x :: st) n N R) : AW G o cc nL ret ini rm n0 Z pc ls (vL x :: st) n N R := by
  intro p e s m args below meth c H locs la C hn hP hS hz hl
  exact lv_l2i C.1 C.2.1 hd (oL_I x) (h p e s m args below meth c H locs la C hn hP hS hz hl)
theorem cmp_o (x y : Int) : lg_cmp (Int64.ofInt x) (Int64.ofInt y) = Int32.ofInt (cmpI (wL x) (wL y)) := by
  unfold lg_cmp cmpI
  by_cases h1 : Int64.ofInt y < Int64.ofInt x
  · rw [if_pos h1, if_pos (oL_lt.mp h1)]
    decide +kernel
  · rw [if_neg h1, if_neg (fun q => h1 (oL_lt.mpr q))]
    by_cases h2 : Int64.ofInt x = Int64.ofInt y
    · rw [if_pos h2, if_pos (oL_eq.mp h2)]
      decide +kernel
    · rw [if_neg h2, if_neg (fun q => h2 (oL_eq.mpr q))]
      decide +kernel
theorem A_lcmp  {x y : Int} (hd : decode cc pc = .ok (.lcmp, 1)) (h : AW G o cc nL ret ini rm n0 Z (pc + 1) ls (vI (cmpI (wL x) (wL y)) :: st) n N R) : AW G o cc nL ret ini rm n0 Z pc ls (vL y :: vL x :: st) n N R := by
  intro p e s m args below meth c H locs la C hn hP hS hz hl
  refine W.lcmp C.1 C.2.1 hd ?_
  rw [cmp_o]
  exact h p e s m args below meth c H locs la C hn hP hS hz hl
theorem cv_c1 {G : GT} {v : AV} (h : isL v = false) : (cv G v).category = 1 := by
  rcases v with x | x | r
  · rfl
  · cases h
  · cases r <;> rfl
theorem cv_c2 {G : GT} {v : AV} (h : isL v = true) : (cv G v).category = 2 := by
  rcases v with x | x | r
  · cases h
  · rfl
  · cases r <;> cases h
theorem A_dup  {v : AV} (hd : decode cc pc = .ok (.dup, 1)) (hv : isL v = false) (h : AW G o cc nL ret ini rm n0 Z (pc + 1) ls (v :: v :: st) n N R) : AW G o cc nL ret ini rm n0 Z pc ls (v :: st) n N R := by
  intro p e s m args below meth c H locs la C hn hP hS hz hl
  exact lv_dup C.1 C.2.1 hd (cv_c1 hv) (h p e s m args below meth c H locs la C hn hP hS hz hl)
theorem A_pop  {v : AV} (hd : decode cc pc = .ok (.pop, 1)) (hv : isL v = false) (h : AW G o cc nL ret ini rm n0 Z (pc + 1) ls (st) n N R) : AW G o cc nL ret ini rm n0 Z pc ls (v :: st) n N R := by
  intro p e s m args below meth c H locs la C hn hP hS hz hl
  exact lv_pop C.1 C.2.1 hd (cv_c1 hv) (h p e s m args below meth c H locs la C hn hP hS hz hl)
theorem A_dup2  {v w : AV} (hd : decode cc pc = .ok (.dup2, 1)) (hv : isL v = false) (hw : isL w = false) (h : AW G o cc nL ret ini rm n0 Z (pc + 1) ls (v :: w :: v :: w :: st) n N R) : AW G o cc nL ret ini rm n0 Z pc ls (v :: w :: st) n N R := by
  intro p e s m args below meth c H locs la C hn hP hS hz hl
  exact lv_dup2_11 C.1 C.2.1 hd (cv_c1 hv) (cv_c1 hw) (h p e s m args below meth c H locs la C hn hP hS hz hl)
theorem A_dup2L  {v : AV} (hd : decode cc pc = .ok (.dup2, 1)) (hv : isL v = true) (h : AW G o cc nL ret ini rm n0 Z (pc + 1) ls (v :: v :: st) n N R) : AW G o cc nL ret ini rm n0 Z pc ls (v :: st) n N R := by
  intro p e s m args below meth c H locs la C hn hP hS hz hl
  exact lv_dup2_2 C.1 C.2.1 hd (cv_c2 hv) (h p e s m args below meth c H locs la C hn hP hS hz hl)
theorem A_if_eq {x : Int} {off : Int} {tgt : Nat} (hd : decode cc pc = .ok (.ifCond .eq off, 3)) (hg : (pc : Int) + off = (tgt : Int)) (ht : (wI x = 0) → AW G o cc nL ret ini rm n0 Z tgt ls st n N R) (hf : ¬ (wI x = 0) → AW G o cc nL ret ini rm n0 Z (pc + 3) ls st n N R) : AW G o cc nL ret ini rm n0 Z pc ls (vI x :: st) n N R := by
  intro p e s m args below meth c H locs la C hn hP hS hz hl
  exact lv_if_eq C.1 C.2.1 hd hg (fun q => ht (oI_eq0.mp q) p e s m args below meth c H locs la C hn hP hS hz hl) (fun q => hf (fun z => q (oI_eq0.mpr z)) p e s m args below meth c H locs la C hn hP hS hz hl)
theorem A_icmp_eq {x y : Int} {off : Int} {tgt : Nat} (hd : decode cc pc = .ok (.if_icmp .eq off, 3)) (hg : (pc : Int) + off = (tgt : Int)) (ht : (wI x = wI y) → AW G o cc nL ret ini rm n0 Z tgt ls st n N R) (hf : ¬ (wI x = wI y) → AW G o cc nL ret ini rm n0 Z (pc + 3) ls st n N R) : AW G o cc nL ret ini rm n0 Z pc ls (vI y :: vI x :: st) n N R := by
  intro p e s m args below meth c H locs la C hn hP hS hz hl
  exact lv_icmp_eq C.1 C.2.1 hd hg (fun q => ht (oI_eq.mp q) p e s m args below meth c H locs la C hn hP hS hz hl) (fun q => hf (fun z => q (oI_eq.mpr z)) p e s m args below meth c H locs la C hn hP hS hz hl)
theorem A_if_ne {x : Int} {off : Int} {tgt : Nat} (hd : decode cc pc = .ok (.ifCond .ne off, 3)) (hg : (pc : Int) + off = (tgt : Int)) (ht : (wI x ≠ 0) → AW G o cc nL ret ini rm n0 Z tgt ls st n N R) (hf : ¬ (wI x ≠ 0) → AW G o cc nL ret ini rm n0 Z (pc + 3) ls st n N R) : AW G o cc nL ret ini rm n0 Z pc ls (vI x :: st) n N R := by
  intro p e s m args below meth c H locs la C hn hP hS hz hl
  exact lv_if_ne C.1 C.2.1 hd hg (fun q => ht (fun z => q (oI_eq0.mpr z)) p e s m args below meth c H locs la C hn hP hS hz hl) (fun q => hf (fun z => z (oI_eq0.mp q)) p e s m args below meth c H locs la C hn hP hS hz hl)
theorem A_icmp_ne {x y : Int} {off : Int} {tgt : Nat} (hd : decode cc pc = .ok (.if_icmp .ne off, 3)) (hg : (pc : Int) + off = (tgt : Int)) (ht : (wI x ≠ wI y) → AW G o cc nL ret ini rm n0 Z tgt ls st n N R) (hf : ¬ (wI x ≠ wI y) → AW G o cc nL ret ini rm n0 Z (pc + 3) ls st n N R) : AW G o cc nL ret ini rm n0 Z pc ls (vI y :: vI x :: st) n N R := by
  intro p e s m args below meth c H locs la C hn hP hS hz hl
  exact lv_icmp_ne C.1 C.2.1 hd hg (fun q => ht (fun z => q (oI_eq.mpr z)) p e s m args below meth c H locs la C hn hP hS hz hl) (fun q => hf (fun z => z (oI_eq.mp q)) p e s m args below meth c H locs la C hn hP hS hz hl)
theorem A_if_lt {x : Int} {off : Int} {tgt : Nat} (hd : decode cc pc = .ok (.ifCond .lt off, 3)) (hg : (pc : Int) + off = (tgt : Int)) (ht : (wI x < 0) → AW G o cc nL ret ini rm n0 Z tgt ls st n N R) (hf : ¬ (wI x < 0) → AW G o cc nL ret ini rm n0 Z (pc + 3) ls st n N R) : AW G o cc nL ret ini rm n0 Z pc ls (vI x :: st) n N R := by
  intro p e s m args below meth c H locs la C hn hP hS hz hl
  exact lv_if_lt C.1 C.2.1 hd hg (fun q => ht (oI_lt0.mp q) p e s m args below meth c H locs la C hn hP hS hz hl) (fun q => hf (fun z => q (oI_lt0.mpr z)) p e s m args below meth c H locs la C hn hP hS hz hl)
theorem A_icmp_lt {x y : Int} {off : Int} {tgt : Nat} (hd : decode cc pc = .ok (.if_icmp .lt off, 3)) (hg : (pc : Int) + off = (tgt : Int)) (ht : (wI x < wI y) → AW G o cc nL ret ini rm n0 Z tgt ls st n N R) (hf : ¬ (wI x < wI y) → AW G o cc nL ret ini rm n0 Z (pc + 3) ls st n N R) : AW G o cc nL ret ini rm n0 Z pc ls (vI y :: vI x :: st) n N R := by
  intro p e s m args below meth c H locs la C hn hP hS hz hl
  exact lv_icmp_lt C.1 C.2.1 hd hg (fun q => ht (oI_lt.mp q) p e s m args below meth c H locs la C hn hP hS hz hl) (fun q => hf (fun z => q (oI_lt.mpr z)) p e s m args below meth c H locs la C hn hP hS hz hl)
theorem A_if_ge {x : Int} {off : Int} {tgt : Nat} (hd : decode cc pc = .ok (.ifCond .ge off, 3)) (hg : (pc : Int) + off = (tgt : Int)) (ht : (0 ≤ wI x) → AW G o cc nL ret ini rm n0 Z tgt ls st n N R) (hf : ¬ (0 ≤ wI x) → AW G o cc nL ret ini rm n0 Z (pc + 3) ls st n N R) : AW G o cc nL ret ini rm n0 Z pc ls (vI x :: st) n N R := by
  intro p e s m args below meth c H locs la C hn hP hS hz hl
  exact lv_if_ge C.1 C.2.1 hd hg (fun q => ht (oI_ge0.mp q) p e s m args below meth c H locs la C hn hP hS hz hl) (fun q => hf (fun z => q (oI_ge0.mpr z)) p e s m args below meth c H locs la C hn hP hS hz hl)
theorem A_icmp_ge {x y : Int} {off : Int} {tgt : Nat} (hd : decode cc pc = .ok (.if_icmp .ge off, 3)) (hg : (pc : Int) + off = (tgt : Int)) (ht : (wI y ≤ wI x) → AW G o cc nL ret ini rm n0 Z tgt ls st n N R) (hf : ¬ (wI y ≤ wI x) → AW G o cc nL ret ini rm n0 Z (pc + 3) ls st n N R) : AW G o cc nL ret ini rm n0 Z pc ls (vI y :: vI x :: st) n N R := by
  intro p e s m args below meth c H locs la C hn hP hS hz hl
  exact lv_icmp_ge C.1 C.2.1 hd hg (fun q => ht (oI_le.mp q) p e s m args below meth c H locs la C hn hP hS hz hl) (fun q => hf (fun z => q (oI_le.mpr z)) p e s m args below meth c H locs la C hn hP hS hz hl)
theorem A_if_gt {x : Int} {off : Int} {tgt : Nat} (hd : decode cc pc = .ok (.ifCond .gt off, 3)) (hg : (pc : Int) + off = (tgt : Int)) (ht : (0 < wI x) → AW G o cc nL ret ini rm n0 Z tgt ls st n N R) (hf : ¬ (0 < wI x) → AW G o cc nL ret ini rm n0 Z (pc + 3) ls st n N R) : AW G o cc nL ret ini rm n0 Z pc ls (vI x :: st) n N R := by
  intro p e s m args below meth c H locs la C hn hP hS hz hl
  exact lv_if_gt C.1 C.2.1 hd hg (fun q => ht (oI_gt0.mp q) p e s m args below meth c H locs la C hn hP hS hz hl) (fun q => hf (fun z => q (oI_gt0.mpr z)) p e s m args below meth c H locs la C hn hP hS hz hl)
theorem A_icmp_gt {x y : Int} {off : Int} {tgt : Nat} (hd : decode cc pc = .ok (.if_icmp .gt off, 3)) (hg : (pc : Int) + off = (tgt : Int)) (ht : (wI y < wI x) → AW G o cc nL ret ini rm n0 Z tgt ls st n N R) (hf : ¬ (wI y < wI x) → AW G o cc nL ret ini rm n0 Z (pc + 3) ls st n N R) : AW G o cc nL ret ini rm n0 Z pc ls (vI y :: vI x :: st) n N R := by
  intro p e s m args below meth c H locs la C hn hP hS hz hl
  exact lv_icmp_gt C.1 C.2.1 hd hg (fun q => ht (oI_lt.mp q) p e s m args below meth c H locs la C hn hP hS hz hl) (fun q => hf (fun z => q (oI_lt.mpr z)) p e s m args below meth c H locs la C hn hP hS hz hl)
theorem A_if_le {x : Int} {off : Int} {tgt : Nat} (hd : decode cc pc = .ok (.ifCond .le off, 3)) (hg : (pc : Int) + off = (tgt : Int)) (ht : (wI x ≤ 0) → AW G o cc nL ret ini rm n0 Z tgt ls st n N R) (hf : ¬ (wI x ≤ 0) → AW G o cc nL ret ini rm n0 Z (pc + 3) ls st n N R) : AW G o cc nL ret ini rm n0 Z pc ls (vI x :: st) n N R := by
  intro p e s m args below meth c H locs la C hn hP hS hz hl
  exact lv_if_le C.1 C.2.1 hd hg (fun q => ht (oI_le0.mp q) p e s m args below meth c H locs la C hn hP hS hz hl) (fun q => hf (fun z => q (oI_le0.mpr z)) p e s m args below meth c H locs la C hn hP hS hz hl)
theorem A_icmp_le {x y : Int} {off : Int} {tgt : Nat} (hd : decode cc pc = .ok (.if_icmp .le off, 3)) (hg : (pc : Int) + off = (tgt : Int)) (ht : (wI x ≤ wI y) → AW G o cc nL ret ini rm n0 Z tgt ls st n N R) (hf : ¬ (wI x ≤ wI y) → AW G o cc nL ret ini rm n0 Z (pc + 3) ls st n N R) : AW G o cc nL ret ini rm n0 Z pc ls (vI y :: vI x :: st) n N R := by
  intro p e s m args below meth c H locs la C hn hP hS hz hl
  exact lv_icmp_le C.1 C.2.1 hd hg (fun q => ht (oI_le.mp q) p e s m args below meth c H locs la C hn hP hS hz hl) (fun q => hf (fun z => q (oI_le.mpr z)) p e s m args below meth c H locs la C hn hP hS hz hl)
theorem A_lcmp_eq {x y : Int} {off : Int} {pc1 tgt : Nat} (hd : decode cc pc = .ok (.lcmp, 1)) (hp : pc + 1 = pc1) (hd2 : decode cc pc1 = .ok (.ifCond .eq off, 3)) (hg : (pc1 : Int) + off = (tgt : Int)) (ht : (wL x = wL y) → AW G o cc nL ret ini rm n0 Z tgt ls st n N R) (hf : ¬ (wL x = wL y) → AW G o cc nL ret ini rm n0 Z (pc1 + 3) ls st n N R) : AW G o cc nL ret ini rm n0 Z pc ls (vL y :: vL x :: st) n N R := by
  subst hp
  have e1 : wI (cmpI (wL x) (wL y)) = cmpI (wL x) (wL y) := wI_id (by unfold cmpI; split <;> (try split) <;> omega) (by unfold cmpI; split <;> (try split) <;> omega)
  refine A_lcmp hd (A_if_eq hd2 hg (fun q => ht ?_) (fun q => hf (fun z => q ?_)))
  all_goals rw [e1] at *
  all_goals unfold cmpI at *
  all_goals (split at * <;> (try split at *) <;> omega)
theorem A_lcmp_ne {x y : Int} {off : Int} {pc1 tgt : Nat} (hd : decode cc pc = .ok (.lcmp, 1)) (hp : pc + 1 = pc1) (hd2 : decode cc pc1 = .ok (.ifCond .ne off, 3)) (hg : (pc1 : Int) + off = (tgt : Int)) (ht : (wL x ≠ wL y) → AW G o cc nL ret ini rm n0 Z tgt ls st n N R) (hf : ¬ (wL x ≠ wL y) → AW G o cc nL ret ini rm n0 Z (pc1 + 3) ls st n N R) : AW G o cc nL ret ini rm n0 Z pc ls (vL y :: vL x :: st) n N R := by
  subst hp
  have e1 : wI (cmpI (wL x) (wL y)) = cmpI (wL x) (wL y) := wI_id (by unfold cmpI; split <;> (try split) <;> omega) (by unfold cmpI; split <;> (try split) <;> omega)
  refine A_lcmp hd (A_if_ne hd2 hg (fun q => ht ?_) (fun q => hf (fun z => q ?_)))
  all_goals rw [e1] at *
  all_goals unfold cmpI at *
  all_goals (split at * <;> (try split at *) <;> omega)
theorem A_lcmp_lt {x y : Int} {off : Int} {pc1 tgt : Nat} (hd : decode cc pc = .ok (.lcmp, 1)) (hp : pc + 1 = pc1) (hd2 : decode cc pc1 = .ok (.ifCond .lt off, 3)) (hg : (pc1 : Int) + off = (tgt : Int)) (ht : (wL x < wL y) → AW G o cc nL ret ini rm n0 Z tgt ls st n N R) (hf : ¬ (wL x < wL y) → AW G o cc nL ret ini rm n0 Z (pc1 + 3) ls st n N R) : AW G o cc nL ret ini rm n0 Z pc ls (vL y :: vL x :: st) n N R := by
  subst hp
  have e1 : wI (cmpI (wL x) (wL y)) = cmpI (wL x) (wL y) := wI_id (by unfold cmpI; split <;> (try split) <;> omega) (by unfold cmpI; split <;> (try split) <;> omega)
  refine A_lcmp hd (A_if_lt hd2 hg (fun q => ht ?_) (fun q => hf (fun z => q ?_)))
  all_goals rw [e1] at *
  all_goals unfold cmpI at *
  all_goals (split at * <;> (try split at *) <;> omega)
theorem A_lcmp_ge {x y : Int} {off : Int} {pc1 tgt : Nat} (hd : decode cc pc = .ok (.lcmp, 1)) (hp : pc + 1 = pc1) (hd2 : decode cc pc1 = .ok (.ifCond .ge off, 3)) (hg : (pc1 : Int) + off = (tgt : Int)) (ht : (wL y ≤ wL x) → AW G o cc nL ret ini rm n0 Z tgt ls st n N R) (hf : ¬ (wL y ≤ wL x) → AW G o cc nL ret ini rm n0 Z (pc1 + 3) ls st n N R) : AW G o cc nL ret ini rm n0 Z pc ls (vL y :: vL x :: st) n N R := by
  subst hp
  have e1 : wI (cmpI (wL x) (wL y)) = cmpI (wL x) (wL y) := wI_id (by unfold cmpI; split <;> (try split) <;> omega) (by unfold cmpI; split <;> (try split) <;> omega)
  refine A_lcmp hd (A_if_ge hd2 hg (fun q => ht ?_) (fun q => hf (fun z => q ?_)))
  all_goals rw [e1] at *
  all_goals unfold cmpI at *
  all_goals (split at * <;> (try split at *) <;> omega)
theorem A_lcmp_gt {x y : Int} {off : Int} {pc1 tgt : Nat} (hd : decode cc pc = .ok (.lcmp, 1)) (hp : pc + 1 = pc1) (hd2 : decode cc pc1 = .ok (.ifCond .gt off, 3)) (hg : (pc1 : Int) + off = (tgt : Int)) (ht : (wL y < wL x) → AW G o cc nL ret ini rm n0 Z tgt ls st n N R) (hf : ¬ (wL y < wL x) → AW G o cc nL ret ini rm n0 Z (pc1 + 3) ls st n N R) : AW G o cc nL ret ini rm n0 Z pc ls (vL y :: vL x :: st) n N R := by
  subst hp
  have e1 : wI (cmpI (wL x) (wL y)) = cmpI (wL x) (wL y) := wI_id (by unfold cmpI; split <;> (try split) <;> omega) (by unfold cmpI; split <;> (try split) <;> omega)
  refine A_lcmp hd (A_if_gt hd2 hg (fun q => ht ?_) (fun q => hf (fun z => q ?_)))
  all_goals rw [e1] at *
  all_goals unfold cmpI at *
  all_goals (split at * <;> (try split at *) <;> omega)
theorem A_lcmp_le {x y : Int} {off : Int} {pc1 tgt : Nat} (hd : decode cc pc = .ok (.lcmp, 1)) (hp : pc + 1 = pc1) (hd2 : decode cc pc1 = .ok (.ifCond .le off, 3)) (hg : (pc1 : Int) + off = (tgt : Int)) (ht : (wL x ≤ wL y) → AW G o cc nL ret ini rm n0 Z tgt ls st n N R) (hf : ¬ (wL x ≤ wL y) → AW G o cc nL ret ini rm n0 Z (pc1 + 3) ls st n N R) : AW G o cc nL ret ini rm n0 Z pc ls (vL y :: vL x :: st) n N R := by
  subst hp
  have e1 : wI (cmpI (wL x) (wL y)) = cmpI (wL x) (wL y) := wI_id (by unfold cmpI; split <;> (try split) <;> omega) (by unfold cmpI; split <;> (try split) <;> omega)
  refine A_lcmp hd (A_if_le hd2 hg (fun q => ht ?_) (fun q => hf (fun z => q ?_)))
  all_goals rw [e1] at *
  all_goals unfold cmpI at *
  all_goals (split at * <;> (try split at *) <;> omega)
theorem A_goto  {off : Int} {tgt : Nat} (hd : decode cc pc = .ok (.goto off, 3)) (hg : (pc : Int) + off = (tgt : Int)) (h : AW G o cc nL ret ini rm n0 Z tgt ls st n N R) : AW G o cc nL ret ini rm n0 Z pc ls st n N R := by
  intro p e s m args below meth c H locs la C hn hP hS hz hl
  exact lv_goto C.1 C.2.1 hd hg (h p e s m args below meth c H locs la C hn hP hS hz hl)
theorem A_ifnull  {c0 i0 : Nat} {off : Int} (hd : decode cc pc = .ok (.ifnull off, 3)) (h : AW G o cc nL ret ini rm n0 Z (pc + 3) ls st n N R) : AW G o cc nL ret ini rm n0 Z pc ls (vR c0 i0 :: st) n N R := by
  intro p e s m args below meth c H locs la C hn hP hS hz hl
  exact lv_ifnull C.1 C.2.1 hd (h p e s m args below meth c H locs la C hn hP hS hz hl)
theorem A_ifnullN  {off : Int} {tgt : Nat} (hd : decode cc pc = .ok (.ifnull off, 3)) (hg : (pc : Int) + off = (tgt : Int)) (h : AW G o cc nL ret ini rm n0 Z tgt ls st n N R) : AW G o cc nL ret ini rm n0 Z pc ls (vN :: st) n N R := by
  intro p e s m args below meth c H locs la C hn hP hS hz hl
  exact lv_ifnullN C.1 C.2.1 hd hg (h p e s m args below meth c H locs la C hn hP hS hz hl)
theorem A_ifnonnull  {c0 i0 : Nat} {off : Int} {tgt : Nat} (hd : decode cc pc = .ok (.ifnonnull off, 3)) (hg : (pc : Int) + off = (tgt : Int)) (h : AW G o cc nL ret ini rm n0 Z tgt ls st n N R) : AW G o cc nL ret ini rm n0 Z pc ls (vR c0 i0 :: st) n N R := by
  intro p e s m args below meth c H locs la C hn hP hS hz hl
  exact lv_ifnonnull C.1 C.2.1 hd hg (h p e s m args below meth c H locs la C hn hP hS hz hl)
theorem A_ifnonnullN  {off : Int} (hd : decode cc pc = .ok (.ifnonnull off, 3)) (h : AW G o cc nL ret ini rm n0 Z (pc + 3) ls st n N R) : AW G o cc nL ret ini rm n0 Z pc ls (vN :: st) n N R := by
  intro p e s m args below meth c H locs la C hn hP hS hz hl
  exact lv_ifnonnullN C.1 C.2.1 hd (h p e s m args below meth c H locs la C hn hP hS hz hl)
theorem A_tableOut {x lo hi dflt : Int} {offs : Array Int} {len tgt : Nat} (hd : decode cc pc = .ok (.tableswitch dflt lo hi offs, len)) (hx : wI x < lo ∨ hi < wI x) (hg : (pc : Int) + dflt = (tgt : Int)) (h : AW G o cc nL ret ini rm n0 Z tgt ls st n N R) : AW G o cc nL ret ini rm n0 Z pc ls (vI x :: st) n N R := by
  intro p e s m args below meth c H locs la C hn hP hS hz hl
  exact lv_tableOut C.1 C.2.1 hd (by rw [oI_toInt]; exact hx) hg (h p e s m args below meth c H locs la C hn hP hS hz hl)
theorem A_tableIn {x lo hi dflt off k : Int} {offs : Array Int} {len tgt : Nat} (hd : decode cc pc = .ok (.tableswitch dflt lo hi offs, len)) (hx : wI x = k) (h1 : lo ≤ k ∧ k ≤ hi) (ho : offs[(k - lo).toNat]? = some off) (hg : (pc : Int) + off = (tgt : Int)) (h : AW G o cc nL ret ini rm n0 Z tgt ls st n N R) : AW G o cc nL ret ini rm n0 Z pc ls (vI x :: st) n N R := by
  intro p e s m args below meth c H locs la C hn hP hS hz hl
  subst hx
  exact lv_tableIn C.1 C.2.1 hd (by rw [oI_toInt]; omega) (by rw [oI_toInt]; omega) (by rw [oI_toInt]; exact ho) hg (h p e s m args below meth c H locs la C hn hP hS hz hl)
theorem A_locals {ls' : List (Nat × AV)} (hs : ∀ q ∈ ls', q ∈ ls) (h : AW G o cc nL ret ini rm n0 Z pc ls' st n N R) : AW G o cc nL ret ini rm n0 Z pc ls st n N R := by
  intro p e s m args below meth c H locs la C hn hP hS hz hl
  refine h p e s m args below meth c H locs la C hn hP hS hz ⟨hl.1, hl.2.1, fun q hq => hl.2.2 q ?_⟩
  obtain ⟨r, hr, rfl⟩ := List.mem_map.mp hq
  exact List.mem_map.mpr ⟨r, hs r hr, rfl⟩
end AWR
end
section
/-! rows of the heap -/
/-- what the tables say of the class of kind c -/
def CF (c : Nat) (C : String) (T : u_T) (n : Nat) : Prop := vwCl[c]? = some (C, T, n) ∧ nf c = n ∧ c < 11 ∧ (∀ w ∈ u_ws C T n, w ∈ ALL) ∧ (∀ k, k < n → parseFieldDescriptor (T k).2.2.1 = some (tyC c k)) ∧ (∀ a, a < n → ∀ b, b < n → a ≠ b → (T a).2.1 ≠ (T b).2.1)
/-- the field k of kind c, named by entry idx of the class o: its type, whether it's final -/
def FW (o : String) (idx c k : Nat) (ty : FieldType) (fin : Bool) : Prop := ∃ (C : String) (T : u_T) (n : Nat), CF c C T n ∧ Cond.fieldLink o idx (T k).1 (T k).2.1 (T k).2.2.1 ∈ ALL ∧ k < n ∧ tyC c k = ty ∧ (T k).2.2.2 = fin ∧ (fin = true → (T k).1 = o)
theorem rng_set {n k : Nat} {f g : Nat → Value} {v : Value} (hk : g k = v) (ho : ∀ j, j ≠ k → g j = f j) : ((List.range n).map f).set k v = (List.range n).map g := by
  apply List.ext_getElem?
  intro q
  by_cases e : k = q
  · subst e
    by_cases hq : k < n
    · rw [List.getElem?_set_self (by simpa using hq), List.getElem?_map, List.getElem?_range hq, Option.map_some, hk]
    · rw [List.getElem?_eq_none (by simp; omega), List.getElem?_eq_none (by simp; omega)]
  · rw [List.getElem?_set_ne e, List.getElem?_map, List.getElem?_map]
    by_cases hq : q < n
    · rw [List.getElem?_range hq, Option.map_some, Option.map_some, ho q (fun z => e z.symm)]
    · rw [List.getElem?_eq_none (by simp; omega)]
      rfl
theorem slot_0 {G : GT} {N : NN} {R : RR} {c i k : Nat} {t : FieldType} (h : tagOf t = 0) : slot G N R c i t k = cv G (vI (N c i k)) := by unfold slot; rw [h]; rfl
theorem slot_1 {G : GT} {N : NN} {R : RR} {c i k : Nat} {t : FieldType} (h : tagOf t = 1) : slot G N R c i t k = cv G (vL (N c i k)) := by unfold slot; rw [h]; rfl
theorem slot_2 {G : GT} {N : NN} {R : RR} {c i k : Nat} {t : FieldType} (h : tagOf t = 2) : slot G N R c i t k = cv G (.inr (.inr (R c i k))) := by unfold slot; rw [h]; rfl
theorem slot_o {G : GT} {N N' : NN} {R R' : RR} {c i k : Nat} {t : FieldType} (h1 : N' c i k = N c i k) (h2 : R' c i k = R c i k) : slot G N' R' c i t k = slot G N R c i t k := by unfold slot; rw [h1, h2]
theorem up3_s {N : NN} {c i k : Nat} {v : Int} : up3 N c i k v c i k = v := if_pos ⟨rfl, rfl, rfl⟩
theorem up3_n {N : NN} {c i k j : Nat} {v : Int} (h : j ≠ k) : up3 N c i k v c i j = N c i j := if_neg fun q => h q.2.2
theorem upR_s {R : RR} {c i k : Nat} {v : Option (Nat × Nat)} : upR R c i k v c i k = v := if_pos ⟨rfl, rfl, rfl⟩
theorem upR_n {R : RR} {c i k j : Nat} {v : Option (Nat × Nat)} (h : j ≠ k) : upR R c i k v c i j = R c i j := if_neg fun q => h q.2.2
theorem ws_put {G : GT} {n : Nat} {N N' : NN} {R R' : RR} {c i : Nat} {H H1 : Heap} (hP : va_P (gD G) vwCl (ws G n N R) H) (hn : n ≤ TOT) (ho : okA n c i) (he : va_at (gD G) vwCl (ad G (c, i), EE G N' R' (c, i)) H1) (oq : ∀ q : Nat, q ≠ ad G (c, i) → H1[q]? = H[q]?) (hN : ∀ c' i' k', ¬ (c' = c ∧ i' = i) → N' c' i' k' = N c' i' k') (hR : ∀ c' i' k', ¬ (c' = c ∧ i' = i) → R' c' i' k' = R c' i' k') : va_P (gD G) vwCl (ws G n N' R') H1 := by
  have h1 := hP.set (ws_D G n N R) (ws_at ho) he oq
  rwa [ws_set hn ho rfl (fun r hr => EE_other hN hR r hr)] at h1
theorem ad_own {G : GT} {c i : Nat} (h : i < cnt c) : own G (ad G (c, i)) := by
  show gB G ≤ _
  rw [ad_ok h]
  omega
section AWH
variable {G : GT} {o : String} {cc : ByteArray} {nL : Nat} {ret : Option FieldType} {ini : Bool} {rm : Room} {n0 : Nat} {Z : ZT} {pc : Nat} {ls : List (Nat × AV)} {st : List AV} {n : Nat} {N : NN} {R : RR}
theorem A_getV {idx c i k : Nat} {ty : FieldType} {fin : Bool} {v : AV} (hd : decode cc pc = .ok (.getfield idx, 3)) (F : FW o idx c k ty fin) (ho : okA n c i) (hv : slot G N R c i ty k = cv G v) (h : AW G o cc nL ret ini rm n0 Z (pc + 3) ls (v :: st) n N R) : AW G o cc nL ret ini rm n0 Z pc ls (vR c i :: st) n N R := by
  intro p e s m args below meth cx H locs la C hn hP hS hz hl
  obtain ⟨Cn, T, nn, F, hw, hk, hty, -⟩ := F
  have ha := ws_at (G := G) (N := N) (R := R) ho
  rw [EE_obj F.2.2.1] at ha
  refine va_get C.1 C.2.1 C.2.2.2.2.2.1 F.2.2.2.1 C.2.2.2.2.2.2.1 C.2.2.2.2.2.2.2.2.2.1 hP _ ha F.1 k hk (C.2.2.2.2.2.1 _ hw) (fun x hx => hx) (v := cv G v) ?_ hd (h p e s m args below meth cx H locs la C hn hP hS hz hl)
  rw [List.getElem?_map, List.getElem?_range (by rw [F.2.1]; exact hk), Option.map_some, hty, hv]
theorem A_getI {idx c i k : Nat} {ty : FieldType} {fin : Bool} (hd : decode cc pc = .ok (.getfield idx, 3)) (F : FW o idx c k ty fin) (ht : tagOf ty = 0) (ho : okA n c i) (h : AW G o cc nL ret ini rm n0 Z (pc + 3) ls (vI (N c i k) :: st) n N R) : AW G o cc nL ret ini rm n0 Z pc ls (vR c i :: st) n N R := A_getV hd F ho (slot_0 ht) h
theorem A_getL {idx c i k : Nat} {ty : FieldType} {fin : Bool} (hd : decode cc pc = .ok (.getfield idx, 3)) (F : FW o idx c k ty fin) (ht : tagOf ty = 1) (ho : okA n c i) (h : AW G o cc nL ret ini rm n0 Z (pc + 3) ls (vL (N c i k) :: st) n N R) : AW G o cc nL ret ini rm n0 Z pc ls (vR c i :: st) n N R := A_getV hd F ho (slot_1 ht) h
theorem A_getR {idx c i k c2 i2 : Nat} {ty : FieldType} {fin : Bool} (hd : decode cc pc = .ok (.getfield idx, 3)) (F : FW o idx c k ty fin) (ht : tagOf ty = 2) (ho : okA n c i) (hr : R c i k = some (c2, i2)) (h : AW G o cc nL ret ini rm n0 Z (pc + 3) ls (vR c2 i2 :: st) n N R) : AW G o cc nL ret ini rm n0 Z pc ls (vR c i :: st) n N R := A_getV hd F ho ((slot_2 ht).trans (by rw [hr])) h
theorem A_getN {idx c i k : Nat} {ty : FieldType} {fin : Bool} (hd : decode cc pc = .ok (.getfield idx, 3)) (F : FW o idx c k ty fin) (ht : tagOf ty = 2) (ho : okA n c i) (hr : R c i k = none) (h : AW G o cc nL ret ini rm n0 Z (pc + 3) ls (vN :: st) n N R) : AW G o cc nL ret ini rm n0 Z pc ls (vR c i :: st) n N R := A_getV hd F ho ((slot_2 ht).trans (by rw [hr])) h
theorem A_putV {idx c i k : Nat} {ty : FieldType} {fin : Bool} {v : AV} {N' : NN} {R' : RR} (hd : decode cc pc = .ok (.putfield idx, 3)) (F : FW o idx c k ty fin) (hfi : fin = true → ini = true) (ho : okA n c i) (hn1 : narrow ty (cv G v) = cv G v) (hf1 : fits ty (cv G v) = true)
    (hv : slot G N' R' c i ty k = cv G v) (hs : ∀ j, j ≠ k → N' c i j = N c i j ∧ R' c i j = R c i j) (hN : ∀ c' i' k', ¬ (c' = c ∧ i' = i) → N' c' i' k' = N c' i' k') (hR : ∀ c' i' k', ¬ (c' = c ∧ i' = i) → R' c' i' k' = R c' i' k')
    (h : AW G o cc nL ret ini rm n0 Z (pc + 3) ls st n N' R') : AW G o cc nL ret ini rm n0 Z pc ls (v :: vR c i :: st) n N R := by
  intro p e s m args below meth cx H locs la C hn hP hS hz hl
  obtain ⟨Cn, T, nn, F, hw, hk, hty, hfin, hdecl⟩ := F
  have hts := C.2.2.2.2.2.1
  have hK := C.2.2.2.2.2.2.2.2.2.1
  have hown := C.2.2.2.2.2.2.1
  have hin := F.2.2.2.1
  have hap := va_apart (own := o) hts hin (tyC c) F.2.2.2.2.1 F.2.2.2.2.2 hK F.1
  have ha := ws_at (G := G) (N := N) (R := R) ho
  rw [EE_obj F.2.2.1] at ha
  obtain ⟨r, h1, cell, q1, q2, q3, q4⟩ := hP _ _ ha
  have hr : r = (Cn, T, nn) := Option.some.inj (h1.symm.trans F.1)
  subst hr
  obtain ⟨hSl, hfc, kC, hkC, hkind⟩ := hK.1 c _ F.1
  obtain ⟨cf, kf, fi, f, hi, hsl⟩ := hSl k hk
  have hlay := hts _ (hin _ (u_in_lay hk))
  have hst := (u_facts hfc hkC (u_lays hts hin hk) hi).1
  have hd2 : parseFieldDescriptor (T k).2.2.1 = some ty := by rw [← hty]; exact F.2.2.2.2.1 k hk
  have hll : k < ((List.range (nf c)).map (fun k => slot G N R c i (tyC c k) k)).length := by simpa [F.2.1] using hk
  have fin2 : ∀ H' : Heap, H'[ad G (c, i)]? = some (cell.setSlot (gD G |>.2 c k) (cv G v)) → H'.size = H.size → (∀ q, q ≠ ad G (c, i) → H'[q]? = H[q]?) → W p (gl G) e rm s m args below meth cx H' (locs ++ [⟨ad G (c, i), (gD G).2 c k⟩]) (n - n0) (su n - su n0) (Z below args s) (F0 m (pc + 3) la (st.map (cv G))) := by
    intro H' e1 e2 e3
    refine h p e s m args below meth cx H' _ la C hn (ws_put hP hn.1 ho ?_ e3 hN hR) (hS.put e2 e3 (ad_own ho.1)) (e2.trans hz) hl
    rw [EE_obj F.2.2.1]
    refine ⟨_, F.1, ?_⟩
    rw [← rng_set (n := nf c) (k := k) (f := fun k => slot G N R c i (tyC c k) k) (g := fun k => slot G N' R' c i (tyC c k) k) (v := cv G v) (by show slot G N' R' c i (tyC c k) k = _; rw [hty, hv]) (fun j hj => slot_o (hs j hj).1 (hs j hj).2)]
    exact t_OB.to (V := updV (vp_V _) k (cv G v)) ⟨_, e1, q2, q3, t_set q4 hap hk (cv G v)⟩ (fun j _ => vp_updV_set hll (cv G v) j)
  cases fin with
  | false =>
    unfold u_lay at hlay
    rw [if_neg (by rw [hfin]; decide)] at hlay
    have h6 := u_store hfc hkC hkind hlay hi hd2 hn1 hf1
    refine W.putK C.1 C.2.1 (f := f) ⟨hown, hts _ hw, ⟨_, _, _, hi⟩, hst⟩ (by rw [q2]; exact h6) q1 q3 (by rw [hsl]; exact k2_hasslot (q4 k hk)) rfl rfl hd fun H' e1 e2 e3 => ?_
    rw [hsl] at e1 ⊢
    exact fin2 H' e1 e2 e3
  | true =>
    unfold u_lay at hlay
    rw [if_pos hfin] at hlay
    have hcf : m.cls = cf := by
      obtain ⟨_, _, c', _, _, _, -, -, hf', -, -, -, hown2, -⟩ := Cond.laysFinal_spec hlay
      have e1 : c' = cf := by have := hi.symm.trans hf'; simp at this; exact this.1.symm
      rw [hdecl rfl] at hown2
      rw [← e1]; exact Option.some.inj (hown.symm.trans hown2)
    have h6 := u_fits hfc hkC hkind (Or.inr hlay) hi hd2 hn1 hf1
    refine W.putFinK C.1 C.2.1 hown (hts _ hw) hi hst hcf (C.2.2.2.2.2.2.2.1 (hfi rfl)) (by rw [q2]; exact h6) q1 q3 (by rw [hsl]; exact k2_hasslot (q4 k hk)) rfl rfl hd fun H' e1 e2 e3 => ?_
    rw [hsl] at e1 ⊢
    exact fin2 H' e1 e2 e3
theorem A_putI {idx c i k : Nat} {x : Int} (hd : decode cc pc = .ok (.putfield idx, 3)) (F : FW o idx c k .int false) (ho : okA n c i) (h : AW G o cc nL ret ini rm n0 Z (pc + 3) ls st n (up3 N c i k x) R) : AW G o cc nL ret ini rm n0 Z pc ls (vI x :: vR c i :: st) n N R :=
  A_putV hd F (fun q => by cases q) ho rfl rfl ((slot_0 rfl).trans (by rw [up3_s])) (fun j hj => ⟨up3_n hj, rfl⟩) up3_o (fun _ _ _ _ => rfl) h
theorem A_putL {idx c i k : Nat} {x : Int} (hd : decode cc pc = .ok (.putfield idx, 3)) (F : FW o idx c k .long false) (ho : okA n c i) (h : AW G o cc nL ret ini rm n0 Z (pc + 3) ls st n (up3 N c i k x) R) : AW G o cc nL ret ini rm n0 Z pc ls (vL x :: vR c i :: st) n N R :=
  A_putV hd F (fun q => by cases q) ho rfl rfl ((slot_1 rfl).trans (by rw [up3_s])) (fun j hj => ⟨up3_n hj, rfl⟩) up3_o (fun _ _ _ _ => rfl) h
theorem A_putZ {idx c i k : Nat} {x : Int} (hd : decode cc pc = .ok (.putfield idx, 3)) (F : FW o idx c k .boolean false) (ho : okA n c i) (hx : x = 0 ∨ x = 1) (h : AW G o cc nL ret ini rm n0 Z (pc + 3) ls st n (up3 N c i k x) R) : AW G o cc nL ret ini rm n0 Z pc ls (vI x :: vR c i :: st) n N R :=
  A_putV hd F (fun q => by cases q) ho (by rcases hx with rfl | rfl <;> rfl) (by rcases hx with rfl | rfl <;> rfl) ((slot_0 rfl).trans (by rw [up3_s])) (fun j hj => ⟨up3_n hj, rfl⟩) up3_o (fun _ _ _ _ => rfl) h
theorem A_putR {idx c i k c2 i2 : Nat} {ty : FieldType} {fin : Bool} (hd : decode cc pc = .ok (.putfield idx, 3)) (F : FW o idx c k ty fin) (hfi : fin = true → ini = true) (ht : tagOf ty = 2) (ht2 : ∀ a, narrow ty (.ref a) = .ref a ∧ fits ty (.ref a) = true) (ho : okA n c i) (h : AW G o cc nL ret ini rm n0 Z (pc + 3) ls st n N (upR R c i k (some (c2, i2)))) : AW G o cc nL ret ini rm n0 Z pc ls (vR c2 i2 :: vR c i :: st) n N R :=
  A_putV hd F hfi ho (ht2 _).1 (ht2 _).2 ((slot_2 ht).trans (by rw [upR_s])) (fun j hj => ⟨rfl, upR_n hj⟩) (fun _ _ _ _ => rfl) upR_o h
theorem A_putN {idx c i k : Nat} {ty : FieldType} {fin : Bool} (hd : decode cc pc = .ok (.putfield idx, 3)) (F : FW o idx c k ty fin) (hfi : fin = true → ini = true) (ht : tagOf ty = 2) (ht2 : narrow ty .null = .null ∧ fits ty .null = true) (ho : okA n c i) (h : AW G o cc nL ret ini rm n0 Z (pc + 3) ls st n N (upR R c i k none)) : AW G o cc nL ret ini rm n0 Z pc ls (vN :: vR c i :: st) n N R :=
  A_putV hd F hfi ho ht2.1 ht2.2 ((slot_2 ht).trans (by rw [upR_s])) (fun j hj => ⟨rfl, upR_n hj⟩) (fun _ _ _ _ => rfl) upR_o h
end AWH
end
section
/-! rows of arrays -/
theorem tys_at {G : GT} {c i : Nat} (h2 : 20 ≤ c) (h : i < cnt c) : (tys G)[tix c]? = some (gA G (tix c), aT c) := by
  have h1 := cnt_lt h
  obtain ⟨e1, e2⟩ := tix_ok c h1 h2 (by omega)
  unfold tys
  rw [List.getElem?_map, List.getElem?_range e2, Option.map_some, e1]
theorem ix_in {x : Int} {j n : Nat} (hj : wI x = (j : Int)) (hlt : j < n) : vp_in (Int32.ofInt x) n := by
  rw [vp_in_iff, oI_toInt, hj]
  omega
theorem ix_cl {x : Int} {j : Nat} (hj : wI x = (j : Int)) : (Int32.ofInt x).toNatClampNeg = j := by
  show (Int32.ofInt x).toInt.toNat = j
  rw [oI_toInt, hj]
  rfl
theorem arrE_0 {G : GT} {N : NN} {R : RR} {c i : Nat} (h : tagOf (aT c) = 0) : arrE G N R c i = .inl (fun j => Int32.ofInt (N c i j)) := by unfold arrE; rw [h]; rfl
theorem arrE_1 {G : GT} {N : NN} {R : RR} {c i : Nat} (h : tagOf (aT c) = 1) : arrE G N R c i = .inr (.inl (fun j => Int64.ofInt (N c i j))) := by unfold arrE; rw [h]; rfl
theorem arrE_2 {G : GT} {N : NN} {R : RR} {c i : Nat} (h : tagOf (aT c) = 2) : arrE G N R c i = .inr (.inr (.inr (.inr (fun j => (R c i j).map (ad G))))) := by unfold arrE; rw [h]; rfl
theorem tag_ref {t : FieldType} (h : tagOf t = 2) : t.isReference = true ∨ t = .float ∨ t = .double := by
  cases t <;> first | (cases h; done) | exact Or.inl rfl | exact Or.inr (Or.inl rfl) | exact Or.inr (Or.inr rfl)
def wB (x : Int) : Int := (vp_nar .byte (Int32.ofInt x)).toInt
section AWA
variable {G : GT} {o : String} {cc : ByteArray} {nL : Nat} {ret : Option FieldType} {ini : Bool} {rm : Room} {n0 : Nat} {Z : ZT} {pc : Nat} {ls : List (Nat × AV)} {st : List AV} {n : Nat} {N : NN} {R : RR}
theorem A_iald {c i j : Nat} {x : Int} (hd : decode cc pc = .ok (.iaload, 1)) (h2 : 20 ≤ c) (hT : aT c = .int) (ho : okA n c i) (hj : wI x = (j : Int)) (hlt : j < aN c) (h : AW G o cc nL ret ini rm n0 Z (pc + 1) ls (vI (N c i j) :: st) n N R) : AW G o cc nL ret ini rm n0 Z pc ls (vI x :: vR c i :: st) n N R := by
  intro p e s m args below meth cx H locs la C hn hP hS hz hl
  have ha := ws_at (G := G) (N := N) (R := R) ho
  rw [EE_arr h2, arrE_0 (by rw [hT]; rfl)] at ha
  refine va_iald C.1 C.2.1 C.2.2.2.2.2.2.2.2.2.1 hP _ _ ha (by rw [tys_at h2 ho.1, hT]) (ix_in hj hlt) hd ?_
  rw [ix_cl hj]
  exact h p e s m args below meth cx H locs la C hn hP hS hz hl
theorem A_bald {c i j : Nat} {x : Int} (hd : decode cc pc = .ok (.baload, 1)) (h2 : 20 ≤ c) (hT : aT c = .byte) (ho : okA n c i) (hj : wI x = (j : Int)) (hlt : j < aN c) (h : AW G o cc nL ret ini rm n0 Z (pc + 1) ls (vI (N c i j) :: st) n N R) : AW G o cc nL ret ini rm n0 Z pc ls (vI x :: vR c i :: st) n N R := by
  intro p e s m args below meth cx H locs la C hn hP hS hz hl
  have ha := ws_at (G := G) (N := N) (R := R) ho
  rw [EE_arr h2, arrE_0 (by rw [hT]; rfl)] at ha
  refine va_bald C.1 C.2.1 C.2.2.2.2.2.2.2.2.2.1 hP _ _ ha (by rw [tys_at h2 ho.1, hT]) (ix_in hj hlt) hd ?_
  rw [ix_cl hj]
  exact h p e s m args below meth cx H locs la C hn hP hS hz hl
theorem A_zald {c i j : Nat} {x : Int} (hd : decode cc pc = .ok (.baload, 1)) (h2 : 20 ≤ c) (hT : aT c = .boolean) (ho : okA n c i) (hj : wI x = (j : Int)) (hlt : j < aN c) (h : AW G o cc nL ret ini rm n0 Z (pc + 1) ls (vI (N c i j) :: st) n N R) : AW G o cc nL ret ini rm n0 Z pc ls (vI x :: vR c i :: st) n N R := by
  intro p e s m args below meth cx H locs la C hn hP hS hz hl
  have ha := ws_at (G := G) (N := N) (R := R) ho
  rw [EE_arr h2, arrE_0 (by rw [hT]; rfl)] at ha
  refine va_zald C.1 C.2.1 C.2.2.2.2.2.2.2.2.2.1 hP _ _ ha (by rw [tys_at h2 ho.1, hT]) (ix_in hj hlt) hd ?_
  rw [ix_cl hj]
  exact h p e s m args below meth cx H locs la C hn hP hS hz hl
theorem A_lald {c i j : Nat} {x : Int} (hd : decode cc pc = .ok (.laload, 1)) (h2 : 20 ≤ c) (hT : aT c = .long) (ho : okA n c i) (hj : wI x = (j : Int)) (hlt : j < aN c) (h : AW G o cc nL ret ini rm n0 Z (pc + 1) ls (vL (N c i j) :: st) n N R) : AW G o cc nL ret ini rm n0 Z pc ls (vI x :: vR c i :: st) n N R := by
  intro p e s m args below meth cx H locs la C hn hP hS hz hl
  have ha := ws_at (G := G) (N := N) (R := R) ho
  rw [EE_arr h2, arrE_1 (by rw [hT]; rfl)] at ha
  refine va_lald C.1 C.2.1 C.2.2.2.2.2.2.2.2.2.1 hP _ _ ha (by rw [tys_at h2 ho.1, hT]) (ix_in hj hlt) hd ?_
  rw [ix_cl hj]
  exact h p e s m args below meth cx H locs la C hn hP hS hz hl
theorem A_aald {c i j c2 i2 : Nat} {x : Int} (hd : decode cc pc = .ok (.aaload, 1)) (h2 : 20 ≤ c) (hT : tagOf (aT c) = 2 ∧ (aT c).isReference = true) (ho : okA n c i) (hj : wI x = (j : Int)) (hlt : j < aN c) (hr : R c i j = some (c2, i2)) (h : AW G o cc nL ret ini rm n0 Z (pc + 1) ls (vR c2 i2 :: st) n N R) : AW G o cc nL ret ini rm n0 Z pc ls (vI x :: vR c i :: st) n N R := by
  intro p e s m args below meth cx H locs la C hn hP hS hz hl
  have ha := ws_at (G := G) (N := N) (R := R) ho
  rw [EE_arr h2, arrE_2 hT.1] at ha
  have hin := ix_in hj hlt
  have hlt2 : (Int32.ofInt x).toNatClampNeg < aN c := by rw [ix_cl hj]; exact hlt
  refine W.aald (v := cv G (vR c2 i2)) (ty := aT c) C.1 C.2.1 (hP _ _ ha) ((C.2.2.2.2.2.2.2.2.2.1.2 _ _ (tys_at h2 ho.1)).1 (aN c) (fun j => va_rf ((R c i j).map (ad G)))) hT.2 (fun q => by cases q) (by show ¬ (_ ∨ (arrV _ _ _).slots.size ≤ _); rw [arrV_size]; exact hin) (by show (arrV _ _ _).slots[_]? = _; rw [arrV_read _ _ hlt2, ix_cl hj]; show some (va_rf ((R c i j).map (ad G))) = _; rw [hr]; rfl) rfl rfl hd ?_
  exact h p e s m args below meth cx H locs la C hn hP hS hz hl
theorem A_alen {c i : Nat} {v : Int} (hd : decode cc pc = .ok (.arraylength, 1)) (h2 : 20 ≤ c) (ho : okA n c i) (hv : (aN c : Int) = v) (h : AW G o cc nL ret ini rm n0 Z (pc + 1) ls (vI v :: st) n N R) : AW G o cc nL ret ini rm n0 Z pc ls (vR c i :: st) n N R := by
  intro p e s m args below meth cx H locs la C hn hP hS hz hl
  have ha := ws_at (G := G) (N := N) (R := R) ho
  rw [EE_arr h2] at ha
  subst hv
  exact va_alen C.1 C.2.1 C.2.2.2.2.2.2.2.2.2.1 hP _ _ ha (tys_at h2 ho.1) (v := Int32.ofInt (aN c : Int)) rfl hd (h p e s m args below meth cx H locs la C hn hP hS hz hl)
theorem upd_f {N : NN} {c i j : Nat} {v : Int} : (fun q => Int32.ofInt (up3 N c i j v c i q)) = upd (fun q => Int32.ofInt (N c i q)) j (Int32.ofInt v) := by
  funext q
  unfold upd
  by_cases e : q = j
  · subst e; rw [up3_s, if_pos rfl]
  · rw [up3_n e, if_neg e]
theorem A_iast {c i j : Nat} {x v : Int} (hd : decode cc pc = .ok (.iastore, 1)) (h2 : 20 ≤ c) (hT : aT c = .int) (ho : okA n c i) (hj : wI x = (j : Int)) (hlt : j < aN c) (h : AW G o cc nL ret ini rm n0 Z (pc + 1) ls st n (up3 N c i j v) R) : AW G o cc nL ret ini rm n0 Z pc ls (vI v :: vI x :: vR c i :: st) n N R := by
  intro p e s m args below meth cx H locs la C hn hP hS hz hl
  have ha := ws_at (G := G) (N := N) (R := R) ho
  rw [EE_arr h2, arrE_0 (by rw [hT]; rfl)] at ha
  refine W.iast C.1 C.2.1 (hP _ _ ha) (by have := (C.2.2.2.2.2.2.2.2.2.1.2 _ _ (tys_at (G := G) h2 ho.1)).1 (aN c) (fun q => .int (Int32.ofInt (N c i q))); rw [hT] at this; exact this) (fun q => by cases q) (by show ¬ (_ ∨ (arrV _ _ _).slots.size ≤ _); rw [arrV_size]; exact ix_in hj hlt) rfl rfl hd fun H1 e1 z oq => ?_
  refine h p e s m args below meth cx H1 _ la C hn (ws_put hP hn.1 ho ?_ oq up3_o (fun _ _ _ _ => rfl)) (hS.put z oq (ad_own ho.1)) (z.trans hz) hl
  rw [EE_arr h2, arrE_0 (by rw [hT]; rfl)]
  show H1[_]? = some (vp_cell _ _)
  rw [e1, vp_cell_i]
  show some ((arrV _ _ _).setSlot _ _) = _
  rw [arrV_store, ix_cl hj]
  show some (arrV (gA G (tix c)) (aN c) _) = some (arrV (gA G (tix c)) (aN c) (fun q => Value.int (Int32.ofInt (up3 N c i j v c i q))))
  refine congrArg some (congrArg (arrV (gA G (tix c)) (aN c)) (funext fun q => ?_))
  by_cases e : q = j
  · subst e; simp [updV, up3_s]
  · simp [updV, e, up3_n e]
theorem A_bast {c i j : Nat} {x v : Int} (hd : decode cc pc = .ok (.bastore, 1)) (h2 : 20 ≤ c) (hT : aT c = .byte) (ho : okA n c i) (hj : wI x = (j : Int)) (hlt : j < aN c) (h : AW G o cc nL ret ini rm n0 Z (pc + 1) ls st n (up3 N c i j (wB v)) R) : AW G o cc nL ret ini rm n0 Z pc ls (vI v :: vI x :: vR c i :: st) n N R := by
  intro p e s m args below meth cx H locs la C hn hP hS hz hl
  have ha := ws_at (G := G) (N := N) (R := R) ho
  rw [EE_arr h2, arrE_0 (by rw [hT]; rfl)] at ha
  refine W.bast C.1 C.2.1 (hP _ _ ha) (by have := (C.2.2.2.2.2.2.2.2.2.1.2 _ _ (tys_at (G := G) h2 ho.1)).1 (aN c) (fun q => .int (Int32.ofInt (N c i q))); rw [hT] at this; exact this) (fun q => by cases q) (by show ¬ (_ ∨ (arrV _ _ _).slots.size ≤ _); rw [arrV_size]; exact ix_in hj hlt) rfl rfl hd fun H1 e1 z oq => ?_
  refine h p e s m args below meth cx H1 _ la C hn (ws_put hP hn.1 ho ?_ oq up3_o (fun _ _ _ _ => rfl)) (hS.put z oq (ad_own ho.1)) (z.trans hz) hl
  rw [EE_arr h2, arrE_0 (by rw [hT]; rfl)]
  show H1[_]? = some (vp_cell _ _)
  rw [e1, vp_cell_i]
  show some ((arrV _ _ _).setSlot _ _) = _
  rw [arrV_store, ix_cl hj]
  show some (arrV (gA G (tix c)) (aN c) _) = some (arrV (gA G (tix c)) (aN c) (fun q => Value.int (Int32.ofInt (up3 N c i j (wB v) c i q))))
  refine congrArg some (congrArg (arrV (gA G (tix c)) (aN c)) (funext fun q => ?_))
  by_cases e : q = j
  · subst e
    simp only [updV, if_true, up3_s, wB, Int32.ofInt_toInt]
    first | rfl | simp [vp_nar, narrow]
  · simp [updV, e, up3_n e]
theorem A_zast {c i j : Nat} {x v : Int} (hd : decode cc pc = .ok (.bastore, 1)) (h2 : 20 ≤ c) (hT : aT c = .boolean) (ho : okA n c i) (hj : wI x = (j : Int)) (hlt : j < aN c) (hv : v = 0 ∨ v = 1) (h : AW G o cc nL ret ini rm n0 Z (pc + 1) ls st n (up3 N c i j v) R) : AW G o cc nL ret ini rm n0 Z pc ls (vI v :: vI x :: vR c i :: st) n N R := by
  intro p e s m args below meth cx H locs la C hn hP hS hz hl
  have ha := ws_at (G := G) (N := N) (R := R) ho
  rw [EE_arr h2, arrE_0 (by rw [hT]; rfl)] at ha
  refine W.zast C.1 C.2.1 (hP _ _ ha) (by have := (C.2.2.2.2.2.2.2.2.2.1.2 _ _ (tys_at (G := G) h2 ho.1)).1 (aN c) (fun q => .int (Int32.ofInt (N c i q))); rw [hT] at this; exact this) (fun q => by cases q) (by show ¬ (_ ∨ (arrV _ _ _).slots.size ≤ _); rw [arrV_size]; exact ix_in hj hlt) rfl rfl hd fun H1 e1 z oq => ?_
  refine h p e s m args below meth cx H1 _ la C hn (ws_put hP hn.1 ho ?_ oq up3_o (fun _ _ _ _ => rfl)) (hS.put z oq (ad_own ho.1)) (z.trans hz) hl
  rw [EE_arr h2, arrE_0 (by rw [hT]; rfl)]
  show H1[_]? = some (vp_cell _ _)
  rw [e1, vp_cell_i]
  show some ((arrV _ _ _).setSlot _ _) = _
  rw [arrV_store, ix_cl hj]
  show some (arrV (gA G (tix c)) (aN c) _) = some (arrV (gA G (tix c)) (aN c) (fun q => Value.int (Int32.ofInt (up3 N c i j v c i q))))
  refine congrArg some (congrArg (arrV (gA G (tix c)) (aN c)) (funext fun q => ?_))
  by_cases e : q = j
  · subst e
    simp only [updV, if_true, up3_s]
    rcases hv with rfl | rfl <;> rfl
  · simp [updV, e, up3_n e]
theorem A_last {c i j : Nat} {x v : Int} (hd : decode cc pc = .ok (.lastore, 1)) (h2 : 20 ≤ c) (hT : aT c = .long) (ho : okA n c i) (hj : wI x = (j : Int)) (hlt : j < aN c) (h : AW G o cc nL ret ini rm n0 Z (pc + 1) ls st n (up3 N c i j v) R) : AW G o cc nL ret ini rm n0 Z pc ls (vL v :: vI x :: vR c i :: st) n N R := by
  intro p e s m args below meth cx H locs la C hn hP hS hz hl
  have ha := ws_at (G := G) (N := N) (R := R) ho
  rw [EE_arr h2, arrE_1 (by rw [hT]; rfl)] at ha
  refine W.last C.1 C.2.1 (hP _ _ ha) (by have := (C.2.2.2.2.2.2.2.2.2.1.2 _ _ (tys_at (G := G) h2 ho.1)).1 (aN c) (fun q => .long (Int64.ofInt (N c i q))); rw [hT] at this; exact this) (fun q => by cases q) (by show ¬ (_ ∨ (arrV _ _ _).slots.size ≤ _); rw [arrV_size]; exact ix_in hj hlt) rfl rfl hd fun H1 e1 z oq => ?_
  refine h p e s m args below meth cx H1 _ la C hn (ws_put hP hn.1 ho ?_ oq up3_o (fun _ _ _ _ => rfl)) (hS.put z oq (ad_own ho.1)) (z.trans hz) hl
  rw [EE_arr h2, arrE_1 (by rw [hT]; rfl)]
  show H1[_]? = some (vp_cell _ _)
  rw [e1, vp_cell_l]
  show some ((arrV _ _ _).setSlot _ _) = _
  rw [arrV_store, ix_cl hj]
  show some (arrV (gA G (tix c)) (aN c) _) = some (arrV (gA G (tix c)) (aN c) (fun q => Value.long (Int64.ofInt (up3 N c i j v c i q))))
  refine congrArg some (congrArg (arrV (gA G (tix c)) (aN c)) (funext fun q => ?_))
  by_cases e : q = j
  · subst e; simp [updV, up3_s]
  · simp [updV, e, up3_n e]
end AWA
end
section
/-! contracts, returns, calls -/
def rmL (L n0 n1 : Nat) : Room := { frames := 8 + L, cells := n1 - n0, slots := su n1 - su n0, locals := 400 + 40 * L }
abbrev QT : Type := Option AV → NN → RR → Prop
def QcOf (G : GT) (n1 : Nat) (Q : QT) : Array Value → State → Outcome → State → Prop := fun _ st oc t =>
  (∃ (r : Option AV) (N' : NN) (R' : RR), oc = .returned (r.map (cv G)) ∧ Q r N' R' ∧ va_P (gD G) vwCl (ws G n1 N' R') t.heap ∧ t.heap.size = gB G + n1) ∧ va_F (own G) st t
def Wd (G : GT) (n : Nat) (N : NN) (R : RR) (U : State) : Prop := Ext G U U.heap ∧ va_K (gD G) vwCl (tys G) U ∧ va_P (gD G) vwCl (ws G n N R) U.heap ∧ U.heap.size = gB G + n
def Ctr (G : GT) (y : MethodName) (cc : ByteArray) (nL : Nat) (ret : Option FieldType) (L n0 n1 : Nat) (av : List AV) (N : NN) (R : RR) (Q : QT) : Prop :=
  Met (gl G) y (.code y cc nL ret :: ALL) (rmL L n0 n1) (va_Pc (av.map (cv G)) (Wd G n0 N R)) (QcOf G n1 Q) (n1 - n0) (su n1 - su n0) (own G)
def ZQ (G : GT) (n0 n1 : Nat) (Q : QT) : ZT := fun below args s => MQ below (QcOf G n1 Q) args s (n1 - n0) (su n1 - su n0) (own G)
def avl : Nat → List AV → List (Nat × AV)
  | _, [] => []
  | i, v :: vs => (i, v) :: avl (if isL v then i + 2 else i + 1) vs
theorem avl_cv (G : GT) : ∀ (i : Nat) (av : List AV), lv_args i (av.map (cv G)) = cvl G (avl i av)
  | _, [] => rfl
  | i, v :: vs => by
    show (i, cv G v) :: lv_args (if (cv G v).category = 2 then i + 2 else i + 1) (vs.map (cv G)) = (i, cv G v) :: cvl G (avl (if isL v then i + 2 else i + 1) vs)
    have e := cv_isL G v
    rw [avl_cv]
    cases hv : isL v
    · rw [hv] at e
      have e2 : ¬ (cv G v).category = 2 := by simpa using e
      rw [if_neg e2]
      rfl
    · rw [hv] at e
      have e2 : (cv G v).category = 2 := by simpa using e
      rw [if_pos e2]
      rfl
theorem Ctr.ofAW {G : GT} {y : MethodName} {cc : ByteArray} {nL : Nat} {ret : Option FieldType} {L n0 n1 : Nat} {av : List AV} {N : NN} {R : RR} {Q : QT} (o : String) (ini : Bool) (ho : y.cls = o) (hy : plainName y.cls = true) (hi : ini = true → y.name = "<init>") (hlen : (lg_sl (av.map (cv G))).length ≤ nL) (hn0 : n0 ≤ TOT)
    (h : AW G o cc nL ret ini (rmL L n0 n1) n0 (ZQ G n0 n1 Q) 0 (avl 0 av) [] n0 N R) : Ctr G y cc nL ret L n0 n1 av N R Q := by
  refine Met.ofW (cc := cc) (maxL := nL) (ret := ret) hy rfl ?_
  intro p e s m args below meth c s₁ B hml hv
  obtain ⟨rfl, hE, hK, hP, hz⟩ := hv
  have hts := atoms_spec B.pre
  rw [lg_entry_eq]
  have hl := lv_entry (av.map (cv G)) hlen
  rw [avl_cv] at hl
  have := h p e s m _ below meth c s.heap [] _ ⟨B.exec, B.bytes, hml, B.returns, B.notSynchronized, fun w hw => hts w (List.mem_cons_of_mem _ hw), by rw [← ho]; exact findClass_of_methodNamed B.named, fun q => by rw [(name_of_methodNamed B.named B.method).1]; exact hi q, hE, hK, hz⟩ ⟨hn0, Nat.le_refl _⟩ hP va_S.rf hz hl
  rw [Nat.sub_self, Nat.sub_self] at this
  exact this
theorem Ctr.mono {G : GT} {y : MethodName} {cc : ByteArray} {nL : Nat} {ret : Option FieldType} {L n0 n1 : Nat} {av : List AV} {N : NN} {R : RR} {Q Q' : QT} (h : Ctr G y cc nL ret L n0 n1 av N R Q) (hq : ∀ r N' R', Q r N' R' → Q' r N' R') : Ctr G y cc nL ret L n0 n1 av N R Q' := by
  intro p e ha hc hk s m args below hf happ hp htr
  obtain ⟨k, oc, h1, h2, h3, ⟨⟨r, N', R', g1, g2, g3⟩, g4⟩, h5⟩ := h p e ha hc hk s m args below hf happ hp htr
  exact ⟨k, oc, h1, h2, h3, ⟨⟨r, N', R', g1, hq _ _ _ g2, g3⟩, g4⟩, h5⟩
theorem all_good {ws : List Cond} (h : ∀ w ∈ ws, w ∈ ALL) : GoodIn ALL ws := fun w hw => ⟨h w hw, good_of_word (ALL_good (h w hw)).2⟩
section AWC
variable {G : GT} {o : String} {cc : ByteArray} {nL : Nat} {ret : Option FieldType} {ini : Bool} {rm : Room} {n0 : Nat} {Z : ZT} {pc : Nat} {ls : List (Nat × AV)} {st : List AV} {n : Nat} {N : NN} {R : RR} {Q : QT} {n1 : Nat}
theorem A_iret {x : Int} (hd : decode cc pc = .ok (.ireturn, 1)) (hq : Q (some (vI x)) N R) : AW G o cc nL (some .int) ini rm n0 (ZQ G n0 n1 Q) pc ls [vI x] n1 N R := by
  intro p e s m args below meth cx H locs la C hn hP hS hz hl
  refine W.iret C.1 C.2.1 C.2.2.2.1 (fun t ht _ => ⟨⟨some (vI x), N, R, rfl, hq, by rw [ht]; exact hP, by rw [ht]; exact hz⟩, hS.F ht⟩) hS.2.2 hd C.2.2.2.2.1
theorem A_zret {x : Int} (hd : decode cc pc = .ok (.ireturn, 1)) (hx : x = 0 ∨ x = 1) (hq : Q (some (vI x)) N R) : AW G o cc nL (some .boolean) ini rm n0 (ZQ G n0 n1 Q) pc ls [vI x] n1 N R := by
  intro p e s m args below meth cx H locs la C hn hP hS hz hl
  refine W.zret C.1 C.2.1 C.2.2.2.1 (by rcases hx with rfl | rfl <;> rfl) (fun t ht _ => ⟨⟨some (vI x), N, R, rfl, hq, by rw [ht]; exact hP, by rw [ht]; exact hz⟩, hS.F ht⟩) hS.2.2 hd C.2.2.2.2.1
theorem A_xret {x : Int} {ty : FieldType} (hd : decode cc pc = .ok (.ireturn, 1)) (hx : narrow ty (.int (Int32.ofInt x)) = .int (Int32.ofInt x)) (hq : Q (some (vI x)) N R) : AW G o cc nL (some ty) ini rm n0 (ZQ G n0 n1 Q) pc ls [vI x] n1 N R := by
  intro p e s m args below meth cx H locs la C hn hP hS hz hl
  refine W.zret C.1 C.2.1 C.2.2.2.1 hx (fun t ht _ => ⟨⟨some (vI x), N, R, rfl, hq, by rw [ht]; exact hP, by rw [ht]; exact hz⟩, hS.F ht⟩) hS.2.2 hd C.2.2.2.2.1
theorem A_lret {x : Int} (hd : decode cc pc = .ok (.lreturn, 1)) (hq : Q (some (vL x)) N R) : AW G o cc nL (some .long) ini rm n0 (ZQ G n0 n1 Q) pc ls [vL x] n1 N R := by
  intro p e s m args below meth cx H locs la C hn hP hS hz hl
  refine W.lret C.1 C.2.1 C.2.2.2.1 (fun t ht _ => ⟨⟨some (vL x), N, R, rfl, hq, by rw [ht]; exact hP, by rw [ht]; exact hz⟩, hS.F ht⟩) hS.2.2 hd C.2.2.2.2.1
theorem A_vret (hd : decode cc pc = .ok (.return_, 1)) (hq : Q none N R) : AW G o cc nL none ini rm n0 (ZQ G n0 n1 Q) pc ls [] n1 N R := by
  intro p e s m args below meth cx H locs la C hn hP hS hz hl
  refine W.vret C.1 C.2.1 C.2.2.2.1 (fun t ht _ => ⟨⟨none, N, R, rfl, hq, by rw [ht]; exact hP, by rw [ht]; exact hz⟩, hS.F ht⟩) hS.2.2 hd C.2.2.2.2.1
theorem A_aret {r : Option (Nat × Nat)} {C0 : String} (hd : decode cc pc = .ok (.areturn, 1)) (hq : Q (some (.inr (.inr r))) N R) : AW G o cc nL (some (.object C0)) ini rm n0 (ZQ G n0 n1 Q) pc ls [.inr (.inr r)] n1 N R := by
  intro p e s m args below meth cx H locs la C hn hP hS hz hl
  refine W.aret C.1 C.2.1 C.2.2.2.1 (Or.inl ⟨_, rfl⟩) (by cases r with | none => exact Or.inl rfl | some a => exact Or.inr ⟨_, rfl⟩) (fun t ht _ => ⟨⟨some (.inr (.inr r)), N, R, rfl, hq, by rw [ht]; exact hP, by rw [ht]; exact hz⟩, hS.F ht⟩) hS.2.2 hd C.2.2.2.2.1
theorem A_ofRun {p : Program} {e : Env} {s : State} {m : MethodId} {args : Array Value} {below : List Frame} {meth : Method} {c : Code} {H : Heap} {locs : List Loc} {la : Array Slot} {st0 : List Value} {a : Array Value}
    (hr : va_Run p (gl G) e rm s m args below meth c H locs (n - n0) (su n - su n0) (n1 - n) (su n1 - su n) (F0 m pc la st0) (st.map (cv G)) (QcOf G n1 Q a) (own G)) (C : AC G o cc nL ret ini n0 p s m args meth c) (hn : n0 ≤ n ∧ n ≤ n1 ∧ n1 ≤ TOT) (hS : va_S (own G) s.heap H locs) (hl : lv_has la nL (cvl G ls))
    (kk : ∀ r N' R', Q r N' R' → AW G o cc nL ret ini rm n0 Z (pc + 3) ls (r.toList ++ st) n1 N' R') : W p (gl G) e rm s m args below meth c H locs (n - n0) (su n - su n0) (Z below args s) (F0 m pc la st0) := by
  intro T hT X
  obtain ⟨v, st₀, t, T', L, h0, X', hL, e1, e2, ⟨⟨r, N', R', hv, hq, hP1, hz1⟩, hz, hk⟩, stp⟩ := hr T hT X
  cases hv
  rw [h0] at hz hk
  have hS1 : va_S (own G) s.heap T'.heap (locs ++ L) := ⟨Nat.le_trans hS.1 (by rw [e1]; exact hz), fun q h1 h2 => by rw [e1, hk q (Nat.lt_of_lt_of_le h1 hS.1) h2]; exact hS.2.1 q h1 h2, fun q hq => by
    rcases List.mem_append.mp hq with h | h
    · exact hS.2.2 q h
    · exact hL q h⟩
  have w := kk r N' R' hq p e s m args below meth c T'.heap (locs ++ L) la C ⟨hn.2.2, Nat.le_trans hn.1 hn.2.1⟩ (by rw [e1]; exact hP1) hS1 (by rw [e1]; exact hz1) hl
  have m1 := su_mono hn.1
  have m2 := su_mono hn.2.1
  have c1 : n1 - n0 = n - n0 + (n1 - n) := by omega
  have c2 : su n1 - su n0 = su n - su n0 + (su n1 - su n) := by omega
  rw [c1, c2] at w
  obtain ⟨t2, a1, b1⟩ := w T' rfl X'
  refine ⟨t2, stp t2 ?_, b1⟩
  have es : (r.map (cv G)).toList ++ st.map (cv G) = (r.toList ++ st).map (cv G) := by cases r <;> rfl
  rw [es]
  exact a1
theorem Wd_blind (av : List Value) : FrameBlind (va_Pc av (Wd G n N R)) := fun a U g mk q => by
  obtain ⟨q0, hE, hK, hP, hz⟩ := q
  exact ⟨q0, Ext.warm (s := U) (U := U.calling g mk a) (State.WarmedH.refl U) hE, va_K.moved (u := U) (U := U.calling g mk a) (Vm.Alike.refl U.vm) hK, hP, hz⟩
theorem Wd_now {p : Program} {s : State} {m : MethodId} {args : Array Value} {meth : Method} {c : Code} {H : Heap} {locs : List Loc} (C : AC G o cc nL ret ini n0 p s m args meth c) (hP : va_P (gD G) vwCl (ws G n N R) H) (hS : va_S (own G) s.heap H locs) (hz : H.size = gB G + n) (U : State) (hU : U.heap = H) (hW : s.WarmedH U.vm) : Wd G n N R U := by
  refine ⟨?_, va_K.moved hW.alike C.2.2.2.2.2.2.2.2.2.1, by rw [hU]; exact hP, by rw [hU]; exact hz⟩
  rw [hU]
  exact Ext.warm hW ((C.2.2.2.2.2.2.2.2.1).kept hS.1 hS.2.1)
/-- what the tables say of a method that entry idx of the class o names -/
def MW (y : MethodName) (cc' : ByteArray) (nL' : Nat) (ret' : Option FieldType) (np : Nat) : Prop :=
  Cond.initialized y.cls ∈ ALL ∧ Cond.code y cc' nL' ret' ∈ ALL ∧ (y.cls ≠ "java/lang/invoke/MethodHandle" ∧ y.cls ≠ "java/lang/invoke/VarHandle" ∧ (parseMethodDescriptor y.desc).map (fun d => d.parameters.length) = some np)
def MWV (o : String) (idx : Nat) (y : MethodName) : Prop := Cond.methodLink o idx y ∈ ALL ∧ Cond.instanceMethod y ∈ ALL ∧ Cond.selects y.cls y y ∈ ALL
def MWS (o : String) (idx : Nat) (y : MethodName) : Prop := Cond.methodLink o idx y ∈ ALL ∧ Cond.static y ∈ ALL
def MWI (o : String) (idx : Nat) (y : MethodName) : Prop := Cond.methodLink o idx y ∈ ALL ∧ Cond.instanceMethod y ∈ ALL ∧ y.name = "<init>"
def MWN (o : String) (idx : Nat) (y : MethodName) : Prop := (o, idx, y, "LayerBook") ∈ nestM ∧ Cond.instanceMethod y ∈ ALL ∧ y.name = "<init>"
theorem st_room {st : List AV} {m : MethodId} {pc : Nat} {la : Array Slot} {s0 : List Value} (h : (st.map fun v => if isL v then 2 else 1).sum ≤ 8) : 2 * (F0 m pc la s0).monitorRoom + ((st.map (cv G)).map fun v => v.category).sum ≤ 8 := by
  apply lv_room
  rw [List.map_map]
  have e : (st.map ((fun v => v.category) ∘ cv G)) = st.map fun v => if isL v then 2 else 1 := by
    apply List.map_congr_left
    intro v _
    show (cv G v).category = _
    cases hv : isL v
    · exact cv_c1 hv
    · exact cv_c2 hv
  rw [e]
  exact h
theorem A_callV {idx c i np L nL' : Nat} {y : MethodName} {cc' : ByteArray} {ret' : Option FieldType} {av : List AV} {C0 : String} {T0 : u_T} {k0 : Nat} (hd : decode cc pc = .ok (.invokevirtual idx, 3)) (hw : MWV o idx y) (hm : MW y cc' nL' ret' np) (hrv : vwCl[c]? = some (C0, T0, k0) ∧ y.cls = C0 ∧ c < 11) (ho : okA n c i) (hnp : av.length = np) (hst : (st.map fun v => if isL v then 2 else 1).sum ≤ 8)
    (hn1 : n ≤ n1 ∧ n1 ≤ TOT) (hro : (rmL L n n1).frames + 1 ≤ rm.frames ∧ 8 + (nL' + 11) + (rmL L n n1).locals ≤ rm.locals) (hce : n1 - n0 ≤ rm.cells ∧ su n1 - su n0 ≤ rm.slots)
    (h : Ctr G y cc' nL' ret' L n n1 (vR c i :: av) N R (fun r N' R' => AW G o cc nL ret ini rm n0 Z (pc + 3) ls (r.toList ++ st) n1 N' R')) {stk : List AV} (hs : stk = av.reverse ++ vR c i :: st) : AW G o cc nL ret ini rm n0 Z pc ls stk n N R := by
  intro p e s m args below meth cx H locs la C hn hP hS hz hl
  subst hs
  have ha := ws_at (G := G) (N := N) (R := R) ho
  rw [EE_obj hrv.2.2] at ha
  have hts := C.2.2.2.2.2.1
  have had : cv G (vR c i) = .ref (ad G (c, i)) := rfl
  have m1 := su_mono hn.2
  have m2 := su_mono hn1.1
  refine A_ofRun (G := G) (o := o) (cc := cc) (nL := nL) (ret := ret) (ini := ini) (ls := ls) (Z := Z) (Q := fun r N' R' => AW G o cc nL ret ini rm n0 Z (pc + 3) ls (r.toList ++ st) n1 N' R') (a := (Value.ref (ad G (c, i)) :: av.map (cv G)).toArray) (va_runV (As := av.map (cv G)) (b := ad G (c, i)) ⟨C.1, C.2.1, C.2.2.1, C.2.2.2.2.2.2.1, hts⟩ h (cwV (C := y.cls) np hts (all_good (fun w hw2 => ?_)) rfl rfl rfl ⟨rfl, hm.2.2⟩ hro) ⟨Wd_blind _, ?_, fun U hU hW => ⟨rfl, Wd_now C hP hS hz U hU hW⟩⟩ rfl (by rw [List.length_map]; exact hnp) hl.1 ?_ (st_room hst) hd ⟨by omega, by omega⟩) C ⟨hn.2, hn1⟩ hS hl (fun r N' R' q => q)
  · unfold wsV at hw2
    simp only [List.cons_append, List.nil_append, List.mem_cons] at hw2
    rcases hw2 with rfl | rfl | rfl | rfl | rfl | hw2
    · exact hw.1
    · exact hw.2.1
    · exact hw.2.2
    · exact hm.1
    · exact hm.2.1
    · exact hw2
  · have := va_recv C.2.2.2.2.2.2.2.2.2.1 hP hrv.1 ha
    rwa [hrv.2.1]
  · show (av.reverse ++ vR c i :: st).map (cv G) = (av.map (cv G)).reverse ++ .ref (ad G (c, i)) :: st.map (cv G)
    rw [List.map_append, List.map_reverse]
    rfl
theorem A_callS {idx np L nL' : Nat} {y : MethodName} {cc' : ByteArray} {ret' : Option FieldType} {av : List AV} (hd : decode cc pc = .ok (.invokestatic idx, 3)) (hw : MWS o idx y) (hm : MW y cc' nL' ret' np) (hnp : av.length = np) (hst : (st.map fun v => if isL v then 2 else 1).sum ≤ 8)
    (hn1 : n ≤ n1 ∧ n1 ≤ TOT) (hro : (rmL L n n1).frames + 1 ≤ rm.frames ∧ 8 + (nL' + 11) + (rmL L n n1).locals ≤ rm.locals) (hce : n1 - n0 ≤ rm.cells ∧ su n1 - su n0 ≤ rm.slots)
    (h : Ctr G y cc' nL' ret' L n n1 av N R (fun r N' R' => AW G o cc nL ret ini rm n0 Z (pc + 3) ls (r.toList ++ st) n1 N' R')) {stk : List AV} (hs : stk = av.reverse ++ st) : AW G o cc nL ret ini rm n0 Z pc ls stk n N R := by
  intro p e s m args below meth cx H locs la C hn hP hS hz hl
  subst hs
  have hts := C.2.2.2.2.2.1
  have m1 := su_mono hn.2
  have m2 := su_mono hn1.1
  refine A_ofRun (G := G) (o := o) (cc := cc) (nL := nL) (ret := ret) (ini := ini) (ls := ls) (Z := Z) (Q := fun r N' R' => AW G o cc nL ret ini rm n0 Z (pc + 3) ls (r.toList ++ st) n1 N' R') (a := (av.map (cv G)).toArray) (va_runS (As := av.map (cv G)) ⟨C.1, C.2.1, C.2.2.1, C.2.2.2.2.2.2.1, hts⟩ h (va_cwS np hts (all_good (fun w hw2 => ?_)) rfl rfl rfl hm.2.2 hro) ⟨Wd_blind _, fun U hU hW => ⟨rfl, Wd_now C hP hS hz U hU hW⟩⟩ rfl (by rw [List.length_map]; exact hnp) hl.1 ?_ (st_room hst) hd ⟨by omega, by omega⟩) C ⟨hn.2, hn1⟩ hS hl (fun r N' R' q => q)
  · unfold va_wsS at hw2
    simp only [List.cons_append, List.nil_append, List.mem_cons] at hw2
    rcases hw2 with rfl | rfl | rfl | rfl | hw2
    · exact hw.1
    · exact hw.2
    · exact hm.1
    · exact hm.2.1
    · exact hw2
  · show (av.reverse ++ st).map (cv G) = (av.map (cv G)).reverse ++ st.map (cv G)
    rw [List.map_append, List.map_reverse]
theorem A_callI {idx c i np L nL' : Nat} {y : MethodName} {cc' : ByteArray} {av : List AV} (hd : decode cc pc = .ok (.invokespecial idx, 3)) (hw : MWI o idx y) (hm : MW y cc' nL' none np) (hnp : av.length = np) (hst : (st.map fun v => if isL v then 2 else 1).sum ≤ 8)
    (hn1 : n ≤ n1 ∧ n1 ≤ TOT) (hro : (rmL L n n1).frames + 1 ≤ rm.frames ∧ 8 + (nL' + 11) + (rmL L n n1).locals ≤ rm.locals) (hce : n1 - n0 ≤ rm.cells ∧ su n1 - su n0 ≤ rm.slots)
    (h : Ctr G y cc' nL' none L n n1 (vR c i :: av) N R (fun r N' R' => AW G o cc nL ret ini rm n0 Z (pc + 3) ls (r.toList ++ st) n1 N' R')) {stk : List AV} (hs : stk = av.reverse ++ vR c i :: st) : AW G o cc nL ret ini rm n0 Z pc ls stk n N R := by
  intro p e s m args below meth cx H locs la C hn hP hS hz hl
  subst hs
  have hts := C.2.2.2.2.2.1
  have m1 := su_mono hn.2
  have m2 := su_mono hn1.1
  refine A_ofRun (G := G) (o := o) (cc := cc) (nL := nL) (ret := ret) (ini := ini) (ls := ls) (Z := Z) (Q := fun r N' R' => AW G o cc nL ret ini rm n0 Z (pc + 3) ls (r.toList ++ st) n1 N' R') (a := (Value.ref (ad G (c, i)) :: av.map (cv G)).toArray) (va_runI (As := av.map (cv G)) (b := ad G (c, i)) ⟨C.1, C.2.1, C.2.2.1, C.2.2.2.2.2.2.1, hts⟩ h (cwI np hts (all_good (fun w hw2 => ?_)) rfl rfl rfl (hts _ hm.1) (hts _ hw.1) (hts _ hw.2.1) hw.2.2 hm.2.2 hro) ⟨Wd_blind _, fun U hU hW => ⟨rfl, Wd_now C hP hS hz U hU hW⟩⟩ rfl (by rw [List.length_map]; exact hnp) hl.1 ?_ (st_room hst) hd ⟨by omega, by omega⟩) C ⟨hn.2, hn1⟩ hS hl (fun r N' R' q => q)
  · rcases List.mem_cons.mp hw2 with rfl | hw2
    · exact hm.2.1
    · exact hw2
  · show (av.reverse ++ vR c i :: st).map (cv G) = (av.map (cv G)).reverse ++ .ref (ad G (c, i)) :: st.map (cv G)
    rw [List.map_append, List.map_reverse]
    rfl
theorem A_callN {idx c i np L nL' : Nat} {y : MethodName} {cc' : ByteArray} {av : List AV} (hd : decode cc pc = .ok (.invokespecial idx, 3)) (hw : MWN o idx y) (hm : MW y cc' nL' none np) (hnp : av.length = np) (hst : (st.map fun v => if isL v then 2 else 1).sum ≤ 8)
    (hn1 : n ≤ n1 ∧ n1 ≤ TOT) (hro : (rmL L n n1).frames + 1 ≤ rm.frames ∧ 8 + (nL' + 11) + (rmL L n n1).locals ≤ rm.locals) (hce : n1 - n0 ≤ rm.cells ∧ su n1 - su n0 ≤ rm.slots)
    (h : Ctr G y cc' nL' none L n n1 (vR c i :: av) N R (fun r N' R' => AW G o cc nL ret ini rm n0 Z (pc + 3) ls (r.toList ++ st) n1 N' R')) {stk : List AV} (hs : stk = av.reverse ++ vR c i :: st) : AW G o cc nL ret ini rm n0 Z pc ls stk n N R := by
  intro p e s m args below meth cx H locs la C hn hP hS hz hl
  subst hs
  have hts := C.2.2.2.2.2.1
  have m1 := su_mono hn.2
  have m2 := su_mono hn1.1
  refine A_ofRun (G := G) (o := o) (cc := cc) (nL := nL) (ret := ret) (ini := ini) (ls := ls) (Z := Z) (Q := fun r N' R' => AW G o cc nL ret ini rm n0 Z (pc + 3) ls (r.toList ++ st) n1 N' R') (a := (Value.ref (ad G (c, i)) :: av.map (cv G)).toArray) (va_runIN (As := av.map (cv G)) (b := ad G (c, i)) (host := "LayerBook") ⟨C.1, C.2.1, C.2.2.1, C.2.2.2.2.2.2.1, hts⟩ h ⟨va_cnB np hts (all_good (fun w hw2 => ?_)) rfl rfl rfl (C.2.2.2.2.2.2.2.2.1.2.2.2.2.2.2.1 _ hw.1) (hts _ hm.1) hm.2.2 hro, hw.2.2, hts _ hw.2.1⟩ ⟨Wd_blind _, fun U hU hW => ⟨rfl, Wd_now C hP hS hz U hU hW⟩⟩ rfl (by rw [List.length_map]; exact hnp) hl.1 ?_ (st_room hst) hd ⟨by omega, by omega⟩) C ⟨hn.2, hn1⟩ hS hl (fun r N' R' q => q)
  · rcases List.mem_cons.mp hw2 with rfl | hw2
    · exact hm.2.1
    · exact hw2
  · show (av.reverse ++ vR c i :: st).map (cv G) = (av.map (cv G)).reverse ++ .ref (ad G (c, i)) :: st.map (cv G)
    rw [List.map_append, List.map_reverse]
    rfl
end AWC
end
