section
-- ===== PART A: goes FIRST, ahead of the names: the tables' words, and 'selects' of the private methods out of them =====
/-- a private method of a class that the tables say can be made, by its rows of tables_1 -/
def lw_okq (q : MethodName × Nat) : Prop := (q.1.cls ≠ "java/lang/invoke/MethodHandle" ∧ q.1.cls ≠ "java/lang/invoke/VarHandle") ∧ Cond.instantiable q.1.cls q.2 ∈ tables_1 ∧ Cond.privateMethod q.1 ∈ tables_1 ∧ Cond.instanceMethod q.1 ∈ tables_1
theorem lw_p0 : lw_okq (⟨"TimberList", "cutWhilePossible", "(LTimberList$Part;)I"⟩, 8) := ⟨⟨by decide +kernel, by decide +kernel⟩, List.mem_of_getElem? (i := 31) (by decide +kernel), List.mem_of_getElem? (i := 114) (by decide +kernel), List.mem_of_getElem? (i := 115) (by decide +kernel)⟩
theorem lw_p1 : lw_okq (⟨"TimberList", "tightestBoard", "(LTimberList$Part;)LTimberList$Board;"⟩, 8) := ⟨⟨by decide +kernel, by decide +kernel⟩, List.mem_of_getElem? (i := 31) (by decide +kernel), List.mem_of_getElem? (i := 118) (by decide +kernel), List.mem_of_getElem? (i := 119) (by decide +kernel)⟩
theorem lw_p2 : lw_okq (⟨"TimberList$Board", "earliestPlace", "(LTimberList$Part;I)I"⟩, 5) := ⟨⟨by decide +kernel, by decide +kernel⟩, List.mem_of_getElem? (i := 125) (by decide +kernel), List.mem_of_getElem? (i := 123) (by decide +kernel), List.mem_of_getElem? (i := 124) (by decide +kernel)⟩
theorem lw_p3 : lw_okq (⟨"TimberList$Board", "roomStart", "(II)I"⟩, 5) := ⟨⟨by decide +kernel, by decide +kernel⟩, List.mem_of_getElem? (i := 125) (by decide +kernel), List.mem_of_getElem? (i := 129) (by decide +kernel), List.mem_of_getElem? (i := 130) (by decide +kernel)⟩
theorem lw_p4 : lw_okq (⟨"TimberList$Board", "roomEnd", "(II)I"⟩, 5) := ⟨⟨by decide +kernel, by decide +kernel⟩, List.mem_of_getElem? (i := 125) (by decide +kernel), List.mem_of_getElem? (i := 135) (by decide +kernel), List.mem_of_getElem? (i := 136) (by decide +kernel)⟩
theorem lw_p5 : lw_okq (⟨"TimberList$Board", "earliestWithin", "(IILTimberList$Part;)I"⟩, 5) := ⟨⟨by decide +kernel, by decide +kernel⟩, List.mem_of_getElem? (i := 125) (by decide +kernel), List.mem_of_getElem? (i := 139) (by decide +kernel), List.mem_of_getElem? (i := 140) (by decide +kernel)⟩
theorem lw_p6 : lw_okq (⟨"TimberList$Board", "firstWorse", "(II)I"⟩, 5) := ⟨⟨by decide +kernel, by decide +kernel⟩, List.mem_of_getElem? (i := 125) (by decide +kernel), List.mem_of_getElem? (i := 143) (by decide +kernel), List.mem_of_getElem? (i := 144) (by decide +kernel)⟩
theorem lw_p7 : lw_okq (⟨"TimberList$Board", "firstGood", "(II)I"⟩, 5) := ⟨⟨by decide +kernel, by decide +kernel⟩, List.mem_of_getElem? (i := 125) (by decide +kernel), List.mem_of_getElem? (i := 151) (by decide +kernel), List.mem_of_getElem? (i := 152) (by decide +kernel)⟩
theorem lw_p8 : lw_okq (⟨"TimberList$Board", "roomLengthAround", "(II)I"⟩, 5) := ⟨⟨by decide +kernel, by decide +kernel⟩, List.mem_of_getElem? (i := 125) (by decide +kernel), List.mem_of_getElem? (i := 155) (by decide +kernel), List.mem_of_getElem? (i := 156) (by decide +kernel)⟩
theorem lw_p9 : lw_okq (⟨"TimberList", "cutSingle", "(LTimberList$Part;LTimberList$Board;I)V"⟩, 8) := ⟨⟨by decide +kernel, by decide +kernel⟩, List.mem_of_getElem? (i := 31) (by decide +kernel), List.mem_of_getElem? (i := 159) (by decide +kernel), List.mem_of_getElem? (i := 160) (by decide +kernel)⟩
theorem lw_p10 : lw_okq (⟨"TimberList", "takeFromBoards", "(LTimberList$Cutting;)V"⟩, 8) := ⟨⟨by decide +kernel, by decide +kernel⟩, List.mem_of_getElem? (i := 31) (by decide +kernel), List.mem_of_getElem? (i := 210) (by decide +kernel), List.mem_of_getElem? (i := 211) (by decide +kernel)⟩
theorem lw_p11 : lw_okq (⟨"TimberList$Board", "insertPiece", "(LTimberList$Piece;)V"⟩, 5) := ⟨⟨by decide +kernel, by decide +kernel⟩, List.mem_of_getElem? (i := 125) (by decide +kernel), List.mem_of_getElem? (i := 214) (by decide +kernel), List.mem_of_getElem? (i := 215) (by decide +kernel)⟩
theorem lw_p12 : lw_okq (⟨"java/util/ArrayList", "rangeCheckForAdd", "(I)V"⟩, 3) := ⟨⟨by decide +kernel, by decide +kernel⟩, List.mem_of_getElem? (i := 39) (by decide +kernel), List.mem_of_getElem? (i := 222) (by decide +kernel), List.mem_of_getElem? (i := 223) (by decide +kernel)⟩
theorem lw_p13 : lw_okq (⟨"java/lang/Throwable", "fillInStackTrace", "(I)Ljava/lang/Throwable;"⟩, 6) := ⟨⟨by decide +kernel, by decide +kernel⟩, List.mem_of_getElem? (i := 264) (by decide +kernel), List.mem_of_getElem? (i := 262) (by decide +kernel), List.mem_of_getElem? (i := 263) (by decide +kernel)⟩
theorem lw_p14 : lw_okq (⟨"java/util/ArrayList", "outOfBoundsMsg", "(I)Ljava/lang/String;"⟩, 3) := ⟨⟨by decide +kernel, by decide +kernel⟩, List.mem_of_getElem? (i := 39) (by decide +kernel), List.mem_of_getElem? (i := 267) (by decide +kernel), List.mem_of_getElem? (i := 268) (by decide +kernel)⟩
theorem lw_p15 : lw_okq (⟨"java/util/ArrayList", "grow", "()[Ljava/lang/Object;"⟩, 3) := ⟨⟨by decide +kernel, by decide +kernel⟩, List.mem_of_getElem? (i := 39) (by decide +kernel), List.mem_of_getElem? (i := 554) (by decide +kernel), List.mem_of_getElem? (i := 555) (by decide +kernel)⟩
def lw_privs_1 : List (MethodName × Nat) := [(⟨"TimberList", "cutWhilePossible", "(LTimberList$Part;)I"⟩, 8), (⟨"TimberList", "tightestBoard", "(LTimberList$Part;)LTimberList$Board;"⟩, 8), (⟨"TimberList$Board", "earliestPlace", "(LTimberList$Part;I)I"⟩, 5), (⟨"TimberList$Board", "roomStart", "(II)I"⟩, 5), (⟨"TimberList$Board", "roomEnd", "(II)I"⟩, 5), (⟨"TimberList$Board", "earliestWithin", "(IILTimberList$Part;)I"⟩, 5), (⟨"TimberList$Board", "firstWorse", "(II)I"⟩, 5), (⟨"TimberList$Board", "firstGood", "(II)I"⟩, 5), (⟨"TimberList$Board", "roomLengthAround", "(II)I"⟩, 5), (⟨"TimberList", "cutSingle", "(LTimberList$Part;LTimberList$Board;I)V"⟩, 8), (⟨"TimberList", "takeFromBoards", "(LTimberList$Cutting;)V"⟩, 8), (⟨"TimberList$Board", "insertPiece", "(LTimberList$Piece;)V"⟩, 5), (⟨"java/util/ArrayList", "rangeCheckForAdd", "(I)V"⟩, 3), (⟨"java/lang/Throwable", "fillInStackTrace", "(I)Ljava/lang/Throwable;"⟩, 6), (⟨"java/util/ArrayList", "outOfBoundsMsg", "(I)Ljava/lang/String;"⟩, 3), (⟨"java/util/ArrayList", "grow", "()[Ljava/lang/Object;"⟩, 3)]
theorem lw_r1 : ∀ q ∈ lw_privs_1, lw_okq q := List.forall_mem_cons.mpr ⟨lw_p0, List.forall_mem_cons.mpr ⟨lw_p1, List.forall_mem_cons.mpr ⟨lw_p2, List.forall_mem_cons.mpr ⟨lw_p3, List.forall_mem_cons.mpr ⟨lw_p4, List.forall_mem_cons.mpr ⟨lw_p5, List.forall_mem_cons.mpr ⟨lw_p6, List.forall_mem_cons.mpr ⟨lw_p7, List.forall_mem_cons.mpr ⟨lw_p8, List.forall_mem_cons.mpr ⟨lw_p9, List.forall_mem_cons.mpr ⟨lw_p10, List.forall_mem_cons.mpr ⟨lw_p11, List.forall_mem_cons.mpr ⟨lw_p12, List.forall_mem_cons.mpr ⟨lw_p13, List.forall_mem_cons.mpr ⟨lw_p14, List.forall_mem_cons.mpr ⟨lw_p15, fun _ h => absurd h List.not_mem_nil⟩⟩⟩⟩⟩⟩⟩⟩⟩⟩⟩⟩⟩⟩⟩⟩
theorem lw_p16 : lw_okq (⟨"java/util/ArrayList", "grow", "(I)[Ljava/lang/Object;"⟩, 3) := ⟨⟨by decide +kernel, by decide +kernel⟩, List.mem_of_getElem? (i := 39) (by decide +kernel), List.mem_of_getElem? (i := 558) (by decide +kernel), List.mem_of_getElem? (i := 559) (by decide +kernel)⟩
theorem lw_p17 : lw_okq (⟨"java/util/ArrayList", "add", "(Ljava/lang/Object;[Ljava/lang/Object;I)V"⟩, 3) := ⟨⟨by decide +kernel, by decide +kernel⟩, List.mem_of_getElem? (i := 39) (by decide +kernel), List.mem_of_getElem? (i := 596) (by decide +kernel), List.mem_of_getElem? (i := 597) (by decide +kernel)⟩
theorem lw_p18 : lw_okq (⟨"TimberList$Board", "areaOfPieces", "()I"⟩, 5) := ⟨⟨by decide +kernel, by decide +kernel⟩, List.mem_of_getElem? (i := 125) (by decide +kernel), List.mem_of_getElem? (i := 608) (by decide +kernel), List.mem_of_getElem? (i := 609) (by decide +kernel)⟩
theorem lw_p19 : lw_okq (⟨"TimberList$Piece", "tell", "(I)I"⟩, 5) := ⟨⟨by decide +kernel, by decide +kernel⟩, List.mem_of_getElem? (i := 165) (by decide +kernel), List.mem_of_getElem? (i := 624) (by decide +kernel), List.mem_of_getElem? (i := 625) (by decide +kernel)⟩
theorem lw_p20 : lw_okq (⟨"TimberList", "boardNumbered", "(I)LTimberList$Board;"⟩, 8) := ⟨⟨by decide +kernel, by decide +kernel⟩, List.mem_of_getElem? (i := 31) (by decide +kernel), List.mem_of_getElem? (i := 695) (by decide +kernel), List.mem_of_getElem? (i := 696) (by decide +kernel)⟩
theorem lw_p21 : lw_okq (⟨"TimberList$Board", "hasPieceSpoiledBy", "(III)Z"⟩, 5) := ⟨⟨by decide +kernel, by decide +kernel⟩, List.mem_of_getElem? (i := 125) (by decide +kernel), List.mem_of_getElem? (i := 704) (by decide +kernel), List.mem_of_getElem? (i := 705) (by decide +kernel)⟩
theorem lw_p22 : lw_okq (⟨"TimberList$Board", "insertDefect", "(LTimberList$Defect;)V"⟩, 5) := ⟨⟨by decide +kernel, by decide +kernel⟩, List.mem_of_getElem? (i := 125) (by decide +kernel), List.mem_of_getElem? (i := 728) (by decide +kernel), List.mem_of_getElem? (i := 729) (by decide +kernel)⟩
theorem lw_p23 : lw_okq (⟨"TimberList", "insertIntoPlanningOrder", "(LTimberList$Part;)V"⟩, 8) := ⟨⟨by decide +kernel, by decide +kernel⟩, List.mem_of_getElem? (i := 31) (by decide +kernel), List.mem_of_getElem? (i := 775) (by decide +kernel), List.mem_of_getElem? (i := 776) (by decide +kernel)⟩
theorem lw_p24 : lw_okq (⟨"TimberList$Part", "isPlannedAhead", "(LTimberList$Part;)Z"⟩, 6) := ⟨⟨by decide +kernel, by decide +kernel⟩, List.mem_of_getElem? (i := 740) (by decide +kernel), List.mem_of_getElem? (i := 779) (by decide +kernel), List.mem_of_getElem? (i := 780) (by decide +kernel)⟩
theorem lw_p25 : lw_okq (⟨"TimberList$Board", "gradeAt", "(I)I"⟩, 5) := ⟨⟨by decide +kernel, by decide +kernel⟩, List.mem_of_getElem? (i := 125) (by decide +kernel), List.mem_of_getElem? (i := 809) (by decide +kernel), List.mem_of_getElem? (i := 810) (by decide +kernel)⟩
theorem lw_p26 : lw_okq (⟨"TimberList$Board", "countStretches", "(I)I"⟩, 5) := ⟨⟨by decide +kernel, by decide +kernel⟩, List.mem_of_getElem? (i := 125) (by decide +kernel), List.mem_of_getElem? (i := 824) (by decide +kernel), List.mem_of_getElem? (i := 825) (by decide +kernel)⟩
theorem lw_p27 : lw_okq (⟨"TimberList$Board", "nextStretchStart", "(II)I"⟩, 5) := ⟨⟨by decide +kernel, by decide +kernel⟩, List.mem_of_getElem? (i := 125) (by decide +kernel), List.mem_of_getElem? (i := 828) (by decide +kernel), List.mem_of_getElem? (i := 829) (by decide +kernel)⟩
theorem lw_p28 : lw_okq (⟨"TimberList$Board", "stretchStart", "(II)I"⟩, 5) := ⟨⟨by decide +kernel, by decide +kernel⟩, List.mem_of_getElem? (i := 125) (by decide +kernel), List.mem_of_getElem? (i := 840) (by decide +kernel), List.mem_of_getElem? (i := 841) (by decide +kernel)⟩
theorem lw_p29 : lw_okq (⟨"TimberList", "partNumbered", "(I)LTimberList$Part;"⟩, 8) := ⟨⟨by decide +kernel, by decide +kernel⟩, List.mem_of_getElem? (i := 31) (by decide +kernel), List.mem_of_getElem? (i := 852) (by decide +kernel), List.mem_of_getElem? (i := 853) (by decide +kernel)⟩
theorem lw_p30 : lw_okq (⟨"TimberList$Board", "canGive", "(LTimberList$Part;III)Z"⟩, 5) := ⟨⟨by decide +kernel, by decide +kernel⟩, List.mem_of_getElem? (i := 125) (by decide +kernel), List.mem_of_getElem? (i := 857) (by decide +kernel), List.mem_of_getElem? (i := 858) (by decide +kernel)⟩
theorem lw_p31 : lw_okq (⟨"TimberList$Board", "isClearOfPieces", "(III)Z"⟩, 5) := ⟨⟨by decide +kernel, by decide +kernel⟩, List.mem_of_getElem? (i := 125) (by decide +kernel), List.mem_of_getElem? (i := 861) (by decide +kernel), List.mem_of_getElem? (i := 862) (by decide +kernel)⟩
def lw_privs_2 : List (MethodName × Nat) := [(⟨"java/util/ArrayList", "grow", "(I)[Ljava/lang/Object;"⟩, 3), (⟨"java/util/ArrayList", "add", "(Ljava/lang/Object;[Ljava/lang/Object;I)V"⟩, 3), (⟨"TimberList$Board", "areaOfPieces", "()I"⟩, 5), (⟨"TimberList$Piece", "tell", "(I)I"⟩, 5), (⟨"TimberList", "boardNumbered", "(I)LTimberList$Board;"⟩, 8), (⟨"TimberList$Board", "hasPieceSpoiledBy", "(III)Z"⟩, 5), (⟨"TimberList$Board", "insertDefect", "(LTimberList$Defect;)V"⟩, 5), (⟨"TimberList", "insertIntoPlanningOrder", "(LTimberList$Part;)V"⟩, 8), (⟨"TimberList$Part", "isPlannedAhead", "(LTimberList$Part;)Z"⟩, 6), (⟨"TimberList$Board", "gradeAt", "(I)I"⟩, 5), (⟨"TimberList$Board", "countStretches", "(I)I"⟩, 5), (⟨"TimberList$Board", "nextStretchStart", "(II)I"⟩, 5), (⟨"TimberList$Board", "stretchStart", "(II)I"⟩, 5), (⟨"TimberList", "partNumbered", "(I)LTimberList$Part;"⟩, 8), (⟨"TimberList$Board", "canGive", "(LTimberList$Part;III)Z"⟩, 5), (⟨"TimberList$Board", "isClearOfPieces", "(III)Z"⟩, 5)]
theorem lw_r2 : ∀ q ∈ lw_privs_2, lw_okq q := List.forall_mem_cons.mpr ⟨lw_p16, List.forall_mem_cons.mpr ⟨lw_p17, List.forall_mem_cons.mpr ⟨lw_p18, List.forall_mem_cons.mpr ⟨lw_p19, List.forall_mem_cons.mpr ⟨lw_p20, List.forall_mem_cons.mpr ⟨lw_p21, List.forall_mem_cons.mpr ⟨lw_p22, List.forall_mem_cons.mpr ⟨lw_p23, List.forall_mem_cons.mpr ⟨lw_p24, List.forall_mem_cons.mpr ⟨lw_p25, List.forall_mem_cons.mpr ⟨lw_p26, List.forall_mem_cons.mpr ⟨lw_p27, List.forall_mem_cons.mpr ⟨lw_p28, List.forall_mem_cons.mpr ⟨lw_p29, List.forall_mem_cons.mpr ⟨lw_p30, List.forall_mem_cons.mpr ⟨lw_p31, fun _ h => absurd h List.not_mem_nil⟩⟩⟩⟩⟩⟩⟩⟩⟩⟩⟩⟩⟩⟩⟩⟩
theorem lw_p32 : lw_okq (⟨"TimberList$Piece", "isClearOf", "(III)Z"⟩, 5) := ⟨⟨by decide +kernel, by decide +kernel⟩, List.mem_of_getElem? (i := 165) (by decide +kernel), List.mem_of_getElem? (i := 865) (by decide +kernel), List.mem_of_getElem? (i := 866) (by decide +kernel)⟩
theorem lw_p33 : lw_okq (⟨"java/util/ArrayList", "fastRemove", "([Ljava/lang/Object;I)V"⟩, 3) := ⟨⟨by decide +kernel, by decide +kernel⟩, List.mem_of_getElem? (i := 39) (by decide +kernel), List.mem_of_getElem? (i := 909) (by decide +kernel), List.mem_of_getElem? (i := 910) (by decide +kernel)⟩
theorem lw_p34 : lw_okq (⟨"TimberList$Board", "removePiece", "(LTimberList$Piece;)V"⟩, 5) := ⟨⟨by decide +kernel, by decide +kernel⟩, List.mem_of_getElem? (i := 125) (by decide +kernel), List.mem_of_getElem? (i := 913) (by decide +kernel), List.mem_of_getElem? (i := 914) (by decide +kernel)⟩
theorem lw_p35 : lw_okq (⟨"TimberList$Board", "countCuts", "(I)I"⟩, 5) := ⟨⟨by decide +kernel, by decide +kernel⟩, List.mem_of_getElem? (i := 125) (by decide +kernel), List.mem_of_getElem? (i := 948) (by decide +kernel), List.mem_of_getElem? (i := 949) (by decide +kernel)⟩
theorem lw_p36 : lw_okq (⟨"TimberList$Board", "longestRoomLength", "(I)I"⟩, 5) := ⟨⟨by decide +kernel, by decide +kernel⟩, List.mem_of_getElem? (i := 125) (by decide +kernel), List.mem_of_getElem? (i := 959) (by decide +kernel), List.mem_of_getElem? (i := 960) (by decide +kernel)⟩
theorem lw_p37 : lw_okq (⟨"TimberList", "clearBestSums", "()V"⟩, 8) := ⟨⟨by decide +kernel, by decide +kernel⟩, List.mem_of_getElem? (i := 31) (by decide +kernel), List.mem_of_getElem? (i := 972) (by decide +kernel), List.mem_of_getElem? (i := 973) (by decide +kernel)⟩
theorem lw_p38 : lw_okq (⟨"TimberList", "addToBestSums", "(LTimberList$Part;I)V"⟩, 8) := ⟨⟨by decide +kernel, by decide +kernel⟩, List.mem_of_getElem? (i := 31) (by decide +kernel), List.mem_of_getElem? (i := 976) (by decide +kernel), List.mem_of_getElem? (i := 977) (by decide +kernel)⟩
theorem lw_p39 : lw_okq (⟨"TimberListModel", "fail", "(I)I"⟩, 15) := ⟨⟨by decide +kernel, by decide +kernel⟩, List.mem_of_getElem? (i := 981) (by decide +kernel), List.mem_of_getElem? (i := 1045) (by decide +kernel), List.mem_of_getElem? (i := 1046) (by decide +kernel)⟩
theorem lw_p40 : lw_okq (⟨"TimberListModel", "isBoard", "(I)Z"⟩, 15) := ⟨⟨by decide +kernel, by decide +kernel⟩, List.mem_of_getElem? (i := 981) (by decide +kernel), List.mem_of_getElem? (i := 1053) (by decide +kernel), List.mem_of_getElem? (i := 1054) (by decide +kernel)⟩
theorem lw_p41 : lw_okq (⟨"TimberListModel", "length", "(I)I"⟩, 15) := ⟨⟨by decide +kernel, by decide +kernel⟩, List.mem_of_getElem? (i := 981) (by decide +kernel), List.mem_of_getElem? (i := 1057) (by decide +kernel), List.mem_of_getElem? (i := 1058) (by decide +kernel)⟩
theorem lw_p42 : lw_okq (⟨"TimberListModel", "isOn", "(II)Z"⟩, 15) := ⟨⟨by decide +kernel, by decide +kernel⟩, List.mem_of_getElem? (i := 981) (by decide +kernel), List.mem_of_getElem? (i := 1061) (by decide +kernel), List.mem_of_getElem? (i := 1062) (by decide +kernel)⟩
theorem lw_p43 : lw_okq (⟨"TimberListModel", "from", "(I)I"⟩, 15) := ⟨⟨by decide +kernel, by decide +kernel⟩, List.mem_of_getElem? (i := 981) (by decide +kernel), List.mem_of_getElem? (i := 1065) (by decide +kernel), List.mem_of_getElem? (i := 1066) (by decide +kernel)⟩
theorem lw_p44 : lw_okq (⟨"TimberListModel", "to", "(I)I"⟩, 15) := ⟨⟨by decide +kernel, by decide +kernel⟩, List.mem_of_getElem? (i := 981) (by decide +kernel), List.mem_of_getElem? (i := 1069) (by decide +kernel), List.mem_of_getElem? (i := 1070) (by decide +kernel)⟩
theorem lw_p45 : lw_okq (⟨"TimberListModel", "partOf", "(I)I"⟩, 15) := ⟨⟨by decide +kernel, by decide +kernel⟩, List.mem_of_getElem? (i := 981) (by decide +kernel), List.mem_of_getElem? (i := 1073) (by decide +kernel), List.mem_of_getElem? (i := 1074) (by decide +kernel)⟩
theorem lw_p46 : lw_okq (⟨"TimberListModel", "want", "(II)I"⟩, 15) := ⟨⟨by decide +kernel, by decide +kernel⟩, List.mem_of_getElem? (i := 981) (by decide +kernel), List.mem_of_getElem? (i := 1077) (by decide +kernel), List.mem_of_getElem? (i := 1078) (by decide +kernel)⟩
theorem lw_p47 : lw_okq (⟨"TimberListModel", "gradeAt", "(II)I"⟩, 15) := ⟨⟨by decide +kernel, by decide +kernel⟩, List.mem_of_getElem? (i := 981) (by decide +kernel), List.mem_of_getElem? (i := 1097) (by decide +kernel), List.mem_of_getElem? (i := 1098) (by decide +kernel)⟩
def lw_privs_3 : List (MethodName × Nat) := [(⟨"TimberList$Piece", "isClearOf", "(III)Z"⟩, 5), (⟨"java/util/ArrayList", "fastRemove", "([Ljava/lang/Object;I)V"⟩, 3), (⟨"TimberList$Board", "removePiece", "(LTimberList$Piece;)V"⟩, 5), (⟨"TimberList$Board", "countCuts", "(I)I"⟩, 5), (⟨"TimberList$Board", "longestRoomLength", "(I)I"⟩, 5), (⟨"TimberList", "clearBestSums", "()V"⟩, 8), (⟨"TimberList", "addToBestSums", "(LTimberList$Part;I)V"⟩, 8), (⟨"TimberListModel", "fail", "(I)I"⟩, 15), (⟨"TimberListModel", "isBoard", "(I)Z"⟩, 15), (⟨"TimberListModel", "length", "(I)I"⟩, 15), (⟨"TimberListModel", "isOn", "(II)Z"⟩, 15), (⟨"TimberListModel", "from", "(I)I"⟩, 15), (⟨"TimberListModel", "to", "(I)I"⟩, 15), (⟨"TimberListModel", "partOf", "(I)I"⟩, 15), (⟨"TimberListModel", "want", "(II)I"⟩, 15), (⟨"TimberListModel", "gradeAt", "(II)I"⟩, 15)]
theorem lw_r3 : ∀ q ∈ lw_privs_3, lw_okq q := List.forall_mem_cons.mpr ⟨lw_p32, List.forall_mem_cons.mpr ⟨lw_p33, List.forall_mem_cons.mpr ⟨lw_p34, List.forall_mem_cons.mpr ⟨lw_p35, List.forall_mem_cons.mpr ⟨lw_p36, List.forall_mem_cons.mpr ⟨lw_p37, List.forall_mem_cons.mpr ⟨lw_p38, List.forall_mem_cons.mpr ⟨lw_p39, List.forall_mem_cons.mpr ⟨lw_p40, List.forall_mem_cons.mpr ⟨lw_p41, List.forall_mem_cons.mpr ⟨lw_p42, List.forall_mem_cons.mpr ⟨lw_p43, List.forall_mem_cons.mpr ⟨lw_p44, List.forall_mem_cons.mpr ⟨lw_p45, List.forall_mem_cons.mpr ⟨lw_p46, List.forall_mem_cons.mpr ⟨lw_p47, fun _ h => absurd h List.not_mem_nil⟩⟩⟩⟩⟩⟩⟩⟩⟩⟩⟩⟩⟩⟩⟩⟩
theorem lw_p48 : lw_okq (⟨"TimberListModel", "goOver", "(III)I"⟩, 15) := ⟨⟨by decide +kernel, by decide +kernel⟩, List.mem_of_getElem? (i := 981) (by decide +kernel), List.mem_of_getElem? (i := 1106) (by decide +kernel), List.mem_of_getElem? (i := 1107) (by decide +kernel)⟩
theorem lw_p49 : lw_okq (⟨"TimberListModel", "nextChange", "(II)I"⟩, 15) := ⟨⟨by decide +kernel, by decide +kernel⟩, List.mem_of_getElem? (i := 981) (by decide +kernel), List.mem_of_getElem? (i := 1110) (by decide +kernel), List.mem_of_getElem? (i := 1111) (by decide +kernel)⟩
theorem lw_p50 : lw_okq (⟨"TimberListModel", "isPart", "(I)Z"⟩, 15) := ⟨⟨by decide +kernel, by decide +kernel⟩, List.mem_of_getElem? (i := 981) (by decide +kernel), List.mem_of_getElem? (i := 1123) (by decide +kernel), List.mem_of_getElem? (i := 1124) (by decide +kernel)⟩
theorem lw_p51 : lw_okq (⟨"TimberListModel", "isPossible", "(IIII)Z"⟩, 15) := ⟨⟨by decide +kernel, by decide +kernel⟩, List.mem_of_getElem? (i := 981) (by decide +kernel), List.mem_of_getElem? (i := 1127) (by decide +kernel), List.mem_of_getElem? (i := 1128) (by decide +kernel)⟩
theorem lw_p52 : lw_okq (⟨"TimberListModel", "onward", "(IIII)I"⟩, 15) := ⟨⟨by decide +kernel, by decide +kernel⟩, List.mem_of_getElem? (i := 981) (by decide +kernel), List.mem_of_getElem? (i := 1131) (by decide +kernel), List.mem_of_getElem? (i := 1132) (by decide +kernel)⟩
theorem lw_p53 : lw_okq (⟨"TimberListModel", "width", "(I)I"⟩, 15) := ⟨⟨by decide +kernel, by decide +kernel⟩, List.mem_of_getElem? (i := 981) (by decide +kernel), List.mem_of_getElem? (i := 1135) (by decide +kernel), List.mem_of_getElem? (i := 1136) (by decide +kernel)⟩
theorem lw_p54 : lw_okq (⟨"TimberListModel", "earliestOn", "(II)I"⟩, 15) := ⟨⟨by decide +kernel, by decide +kernel⟩, List.mem_of_getElem? (i := 981) (by decide +kernel), List.mem_of_getElem? (i := 1143) (by decide +kernel), List.mem_of_getElem? (i := 1144) (by decide +kernel)⟩
theorem lw_p55 : lw_okq (⟨"TimberListModel", "add", "(IIIIZ)V"⟩, 15) := ⟨⟨by decide +kernel, by decide +kernel⟩, List.mem_of_getElem? (i := 981) (by decide +kernel), List.mem_of_getElem? (i := 1151) (by decide +kernel), List.mem_of_getElem? (i := 1152) (by decide +kernel)⟩
theorem lw_p56 : lw_okq (⟨"TimberListModel", "lessLeft", "(I)I"⟩, 15) := ⟨⟨by decide +kernel, by decide +kernel⟩, List.mem_of_getElem? (i := 981) (by decide +kernel), List.mem_of_getElem? (i := 1155) (by decide +kernel), List.mem_of_getElem? (i := 1156) (by decide +kernel)⟩
theorem lw_p57 : lw_okq (⟨"TimberListModel", "planOne", "()Z"⟩, 15) := ⟨⟨by decide +kernel, by decide +kernel⟩, List.mem_of_getElem? (i := 981) (by decide +kernel), List.mem_of_getElem? (i := 1171) (by decide +kernel), List.mem_of_getElem? (i := 1172) (by decide +kernel)⟩
theorem lw_p58 : lw_okq (⟨"TimberListModel", "isAhead", "(II)Z"⟩, 15) := ⟨⟨by decide +kernel, by decide +kernel⟩, List.mem_of_getElem? (i := 981) (by decide +kernel), List.mem_of_getElem? (i := 1175) (by decide +kernel), List.mem_of_getElem? (i := 1176) (by decide +kernel)⟩
theorem lw_p59 : lw_okq (⟨"TimberListModel", "roomTo", "(II)I"⟩, 15) := ⟨⟨by decide +kernel, by decide +kernel⟩, List.mem_of_getElem? (i := 981) (by decide +kernel), List.mem_of_getElem? (i := 1179) (by decide +kernel), List.mem_of_getElem? (i := 1180) (by decide +kernel)⟩
theorem lw_p60 : lw_okq (⟨"TimberListModel", "roomFrom", "(II)I"⟩, 15) := ⟨⟨by decide +kernel, by decide +kernel⟩, List.mem_of_getElem? (i := 981) (by decide +kernel), List.mem_of_getElem? (i := 1183) (by decide +kernel), List.mem_of_getElem? (i := 1184) (by decide +kernel)⟩
theorem lw_p61 : lw_okq (⟨"TimberListModel", "piecesOf", "(I)I"⟩, 15) := ⟨⟨by decide +kernel, by decide +kernel⟩, List.mem_of_getElem? (i := 981) (by decide +kernel), List.mem_of_getElem? (i := 1195) (by decide +kernel), List.mem_of_getElem? (i := 1196) (by decide +kernel)⟩
theorem lw_p62 : lw_okq (⟨"TimberListModel", "pieceFrom", "(II)I"⟩, 15) := ⟨⟨by decide +kernel, by decide +kernel⟩, List.mem_of_getElem? (i := 981) (by decide +kernel), List.mem_of_getElem? (i := 1203) (by decide +kernel), List.mem_of_getElem? (i := 1204) (by decide +kernel)⟩
theorem lw_p63 : lw_okq (⟨"TimberListModel", "told", "(II)I"⟩, 15) := ⟨⟨by decide +kernel, by decide +kernel⟩, List.mem_of_getElem? (i := 981) (by decide +kernel), List.mem_of_getElem? (i := 1207) (by decide +kernel), List.mem_of_getElem? (i := 1208) (by decide +kernel)⟩
def lw_privs_4 : List (MethodName × Nat) := [(⟨"TimberListModel", "goOver", "(III)I"⟩, 15), (⟨"TimberListModel", "nextChange", "(II)I"⟩, 15), (⟨"TimberListModel", "isPart", "(I)Z"⟩, 15), (⟨"TimberListModel", "isPossible", "(IIII)Z"⟩, 15), (⟨"TimberListModel", "onward", "(IIII)I"⟩, 15), (⟨"TimberListModel", "width", "(I)I"⟩, 15), (⟨"TimberListModel", "earliestOn", "(II)I"⟩, 15), (⟨"TimberListModel", "add", "(IIIIZ)V"⟩, 15), (⟨"TimberListModel", "lessLeft", "(I)I"⟩, 15), (⟨"TimberListModel", "planOne", "()Z"⟩, 15), (⟨"TimberListModel", "isAhead", "(II)Z"⟩, 15), (⟨"TimberListModel", "roomTo", "(II)I"⟩, 15), (⟨"TimberListModel", "roomFrom", "(II)I"⟩, 15), (⟨"TimberListModel", "piecesOf", "(I)I"⟩, 15), (⟨"TimberListModel", "pieceFrom", "(II)I"⟩, 15), (⟨"TimberListModel", "told", "(II)I"⟩, 15)]
theorem lw_r4 : ∀ q ∈ lw_privs_4, lw_okq q := List.forall_mem_cons.mpr ⟨lw_p48, List.forall_mem_cons.mpr ⟨lw_p49, List.forall_mem_cons.mpr ⟨lw_p50, List.forall_mem_cons.mpr ⟨lw_p51, List.forall_mem_cons.mpr ⟨lw_p52, List.forall_mem_cons.mpr ⟨lw_p53, List.forall_mem_cons.mpr ⟨lw_p54, List.forall_mem_cons.mpr ⟨lw_p55, List.forall_mem_cons.mpr ⟨lw_p56, List.forall_mem_cons.mpr ⟨lw_p57, List.forall_mem_cons.mpr ⟨lw_p58, List.forall_mem_cons.mpr ⟨lw_p59, List.forall_mem_cons.mpr ⟨lw_p60, List.forall_mem_cons.mpr ⟨lw_p61, List.forall_mem_cons.mpr ⟨lw_p62, List.forall_mem_cons.mpr ⟨lw_p63, fun _ h => absurd h List.not_mem_nil⟩⟩⟩⟩⟩⟩⟩⟩⟩⟩⟩⟩⟩⟩⟩⟩
def lw_privs : List (MethodName × Nat) := lw_privs_1 ++ (lw_privs_2 ++ (lw_privs_3 ++ (lw_privs_4)))
def lw_tbl : List Cond := k2_sels lw_privs ++ tables_1
theorem lw_privs_ok : ∀ q ∈ lw_privs, lw_okq q := by
  show ∀ q ∈ lw_privs_1 ++ (lw_privs_2 ++ (lw_privs_3 ++ (lw_privs_4))), lw_okq q
  exact List.forall_mem_append.mpr ⟨lw_r1, List.forall_mem_append.mpr ⟨lw_r2, List.forall_mem_append.mpr ⟨lw_r3, lw_r4⟩⟩⟩
/-- the streams that the claim lets the run draw from -/
abbrev lw_cs : List Choice := [Jvm.Choice.named "NaN.bits"]
theorem lw_bits : nanBits ∈ lw_cs := by first | decide | exact List.mem_cons_self | simp [lw_cs, nanBits]
-- ===== end of PART A; then your names; then what follows =====
end
section
/-! ===== BEGIN words of one list among another's, by their places ===== -/
theorem goodIn_r {big : List Cond} (ws : List Cond) (ps : List Nat) (hp : ws = ps.filterMap (fun i => big[i]?)) (h : ws.all goodWord = true) : GoodIn big ws := by
  intro w hw
  have h1 := List.all_eq_true.mp h w hw
  rw [hp] at hw
  obtain ⟨i, -, hi⟩ := List.mem_filterMap.mp hw
  have hm : w ∈ big := by first | exact List.mem_of_getElem? hi | exact List.getElem?_mem hi
  exact ⟨hm, good_of_word h1⟩
theorem goodIn_app {big a b : List Cond} (ha : GoodIn big a) (hb : GoodIn big b) : GoodIn big (a ++ b) := fun w h => (List.mem_append.mp h).elim (ha w) (hb w)
theorem goodIn_ca {big a b : List Cond} {c : Cond} (ha : GoodIn big (c :: a)) (hb : GoodIn big b) : GoodIn big (c :: (a ++ b)) := fun w h => (List.mem_cons.mp h).elim (fun e => ha w (List.mem_cons.mpr (Or.inl e))) (fun h => (List.mem_append.mp h).elim (fun h => ha w (List.mem_cons.mpr (Or.inr h))) (hb w))
theorem goodIn_sub {big ws : List Cond} (hm : ∀ w ∈ ws, w ∈ big) (h : ws.all goodWord = true) : GoodIn big ws := fun w hw => ⟨hm w hw, good_of_word (List.all_eq_true.mp h w hw)⟩
/-! ===== END ===== -/

/-! ===== BEGIN exceptions that leave a method, and their catching by the caller (launches without stack traces) ===== -/
section VXA
/-! The laws vx_back, vx_callV, vx_callS, vx_callSW, vx_throw0, vx_throwS follow proofs of the library, with one case more: JvmDerived/Free/Laws.lean (Back.of_free), Shelf42/LK1.lean (callV, callS), Shelf/KitTraced.lean (throwNew0V, throwNewS). -/
/-- where a method has thrown q: the class by its name, the cell, what was written, the world -/
def vx_T (XC : String → State → State → Prop) (st : State) (q : Addr) (t : State) (mc ms : Nat) (free : Addr → Prop) : Prop :=
  ∃ (E : String) (ce : Cell) (L : List Loc), XC E st t ∧ t.heap[q]? = some ce ∧ ce.vm = .none ∧ st.vm.findClass E = some ce.cls ∧ st.WarmedH t.vm ∧ st.sameButNew ({ t with vm := st.vm } : State) L mc ms ∧ ∀ z ∈ L, free z.base
def vx_Q (Qc : Array Value → State → Outcome → State → Prop) (XC : String → State → State → Prop) (mc ms : Nat) (free : Addr → Prop) : Array Value → State → Outcome → State → Prop := fun a st o t =>
  (Qc a st o t ∧ ∃ L, FrameEnd st o t L mc ms ∧ ∀ q ∈ L, free q.base) ∨ ∃ q, o = .threw q ∧ vx_T XC st q t mc ms free
/-- a callee that returns or throws -/
def vx_Met (l : Launch) (y : MethodName) (ws : List Cond) (rm : Room) (Pc : Array Value → State → Prop) (Qc : Array Value → State → Outcome → State → Prop) (XC : String → State → State → Prop) (mc ms : Nat) (free : Addr → Prop) : Prop :=
  MetFree l y (headSpec ws rm) Pc (fun _ _ _ _ _ => True) (vx_Q Qc XC mc ms free)
def vx_Post (XC : String → State → State → Prop) (mc ms : Nat) (free : Addr → Prop) : Pt → Array Value → Addr → Pt → Prop := fun A a q B =>
  ∃ (g : JFrame) (mk : MethodId) (t : State) (L : List Loc) (E : String) (ce : Cell), B.U.heap = t.heap ∧ B.U.vm = t.vm ∧ XC E (A.U.calling g mk a) t ∧ t.heap[q]? = some ce ∧ ce.vm = .none ∧ A.U.vm.findClass E = some ce.cls ∧ B.locs = A.locs ++ L ∧ (∀ z ∈ L, free z.base) ∧ B.cells = A.cells + mc ∧ B.slots = A.slots + ms
def vx_Back (l : Launch) (R : Room) (p : Program) (e : Env) (below : List Frame) (s : State) (sargs : Array Value) (y : MethodName) (len W9 : Nat)
    (Pre : Pt → Array Value → Prop) (Post : Pt → Array Value → Option Value → Pt → Prop) (PostX : Pt → Array Value → Addr → Pt → Prop) : Prop :=
  ∀ (m : MethodId) (meth : Method) (c : Code) (A : Pt) (g : JFrame) (ig : Instr) (mk : MethodId) (a : Array Value),
    Stand p l e R s m sargs below meth c A.U A.locs A.cells A.slots → g.method = m → g.locals.size = c.maxLocals → decode c.code g.pc = .ok (ig, len) →
    2 * g.monitorRoom + (g.stack.map fun v => v.category).sum ≤ W9 → A.U.methodNamed? y = some mk → Pre A a →
    (∃ (v : Option Value) (B : Pt), Stand p l e R s m sargs below meth c B.U B.locs B.cells B.slots ∧ Post A a v B ∧
      Steps p.tables e below (doInvoke e (A.U.setTop g) [] mk a).1 (B.U.setTop { g with pc := g.pc + len, stack := v.toList ++ g.stack })) ∨
    (∃ (q : Addr) (B : Pt), Stand p l e R s m sargs below meth c B.U B.locs B.cells B.slots ∧ PostX A a q B ∧
      Steps p.tables e below (doInvoke e (A.U.setTop g) [] mk a).1 ((B.U.setTop g).pushFrame (.throwing q)))
section Payer
variable {l : Launch} {R : Room} {p : Program} {e : Env} {below : List Frame} {s : State} {sargs : Array Value} {y : MethodName} {len W9 : Nat}
theorem vx_back {ws : List Cond} {rm : Room} {Pc : Array Value → State → Prop} {Qc : Array Value → State → Outcome → State → Prop} {XC : String → State → State → Prop} {mc ms : Nat} {free : Addr → Prop} {bytes : ByteArray} {maxL : Nat} {ret : Option FieldType}
    (hM : vx_Met l y ws rm Pc Qc XC mc ms free) (hblind : FrameBlind Pc) (hrc : rm.cells = mc) (hrs : rm.slots = ms)
    (hframes : rm.frames + 1 ≤ R.frames) (hlocals : W9 + (maxL + 11) + rm.locals ≤ R.locals)
    (hws : ∀ w ∈ ws, ∀ a' U, s.WarmedH U.vm → w.before a' U = true) (hcode : Cond.code y bytes maxL ret ∈ ws) (hinit : ∀ a' U, s.WarmedH U.vm → (Cond.initialized y.cls).before a' U = true) :
    vx_Back l R p e below s sargs y len W9 (PreOf R mc ms Pc) (PostOf Qc mc ms free) (vx_Post XC mc ms free) := by
  intro m meth c A g ig mk a X hg hsize hdg hW hn hp
  have h1 : (headSpec ws rm).pre.before a A.U = true := atoms_intro fun w hw => hws w hw _ _ X.warmed
  have h2 : (Cond.code y bytes maxL ret).before a A.U = true := hws _ hcode _ _ X.warmed
  have h3 : (Cond.initialized y.cls).before a A.U = true := hinit _ _ X.warmed
  have h4 : A.cells + (headSpec ws rm).room.cells ≤ R.cells := by rw [show (headSpec ws rm).room.cells = mc from hrc]; exact hp.1
  have h5 : A.slots + (headSpec ws rm).room.slots ≤ R.slots := by rw [show (headSpec ws rm).room.slots = ms from hrs]; exact hp.2.1
  have hPc : Pc a (A.U.calling g mk a) := hblind _ _ _ _ hp.2.2
  obtain ⟨U, Ls, c0, s0⟩ := A
  dsimp only [Pt.U, Pt.locs, Pt.cells, Pt.slots] at h1 h2 h3 h4 h5 X hn hPc ⊢
  obtain ⟨methY, cY, hmY, hcY, -, hlY, -, -, -, -⟩ := Cond.code_spec hn h2
  obtain ⟨kY, hkY, -⟩ := className_of_methodNamed hn
  have hinitY : kY.init = .initialized := Cond.initialized_spec (findClass_of_methodNamed hn) hkY h3
  have h : At U g.method c below := by rw [hg]; exact X.here
  have hlocals9 : W9 + (maxL + 11) + (headSpec ws rm).room.locals ≤ R.locals := hlocals
  have happ : (headSpec ws rm).appliesLoose y e.platform (U.calling g mk a) = true :=
    Spec.appliesLoose_calling (g := g) h hdg hn hkY hinitY
      (X.room_calling (g := g) (R' := (headSpec ws rm).room) hsize hmY hcY hframes (by rw [hlY]; omega) h4 h5) h1
  obtain ⟨mid, hmid⟩ := h.above
  have hfr : (U.setTop g).frames = (.java g :: mid) ++ below := by rw [State.frames_setTop' g h.top, hmid]; rfl
  obtain ⟨o, s₂, hsteps, -, hend, hq⟩ := Steps.callFree hM p X.admits X.cas X.clock (acts := []) hfr happ hPc trivial
  have hq' : vx_Q Qc XC mc ms free a (U.calling g mk a) o s₂ := hq
  rw [State.frames_setTop' g h.top] at hend
  obtain ⟨g₀, hg0⟩ := Option.isSome_iff_exists.mp h.top
  obtain ⟨r, hr⟩ := State.topJava?_eq_some.mp hg0
  have hr' : (({ U with heap := s₂.heap, slotsUsed := s₂.slotsUsed } : State).setVm s₂.vm).frames = .java g₀ :: r := hr
  rcases hq' with ⟨hqc, L, hfe, hL⟩ | ⟨q, rfl, E, ce, L, hx, hce, hcv, hcl, hW₂, hsm, hL⟩
  · obtain ⟨⟨v, rfl⟩, hW₂, e2, q2, q3, q4, q5, q6⟩ := id hfe
    have e3 : s₂ = ({ (U.calling g mk a).setFrames s₂.frames with heap := s₂.heap, slotsUsed := s₂.slotsUsed } : State).setVm s₂.vm := by
      have : s₂ = ({ s₂ with vm := (U.calling g mk a).vm } : State).setVm s₂.vm := rfl
      rw [e2] at this
      exact this
    obtain ⟨c₂, i₂, len₂, hc₂, hd₂, hf₂⟩ := hend
    have hW' : U.WarmedH s₂.vm := hW₂
    have hcc : c₂ = c := by
      have h1 : s₂.code? g.method = U.code? g.method := by
        rw [State.code?_eq, State.code?_eq, hW'.alike.method?]
      exact Option.some.inj (hc₂.symm.trans (h1.trans h.code))
    subst hcc
    have hlen : len₂ = len := by rw [hdg] at hd₂; cases hd₂; rfl
    subst hlen
    have hs₂ : s₂ = (({ U with heap := s₂.heap, slotsUsed := s₂.slotsUsed } : State).setVm s₂.vm).setTop { g with pc := g.pc + len₂, stack := v.toList ++ g.stack } := by
      refine e3.trans ?_
      rw [hf₂, State.calling_eq h.top, State.setFrames_setFrames, State.setTop_of_frames _ hr', hr]
      rfl
    have hsame : U.sameButNew ({ U with heap := s₂.heap, slotsUsed := s₂.slotsUsed } : State) L mc ms := by
      refine ⟨?_, q2, q3, q4, q5, q6⟩
      obtain ⟨t, ht, -⟩ := State.frames_cons hr
      show ({ U with heap := s₂.heap, slotsUsed := s₂.slotsUsed } : State) = { U.setFrames U.frames with heap := s₂.heap, slotsUsed := s₂.slotsUsed }
      rw [State.setFrames_self ht]
    subst hg
    refine Or.inl ⟨v, ⟨(({ U with heap := s₂.heap, slotsUsed := s₂.slotsUsed } : State).setVm s₂.vm), Ls ++ L, c0 + mc, s0 + ms⟩,
      ⟨X.admits, X.cas, X.clock, X.frames, X.room, X.hears, X.method, X.code, (X.here.setHeapUsed s₂.heap s₂.slotsUsed).setVm hW'.alike, X.tail, State.WarmedH.trans X.warmed hW', X.limits, X.bytes, X.same.trans (hsame.setVm s.vm)⟩,
      ⟨g, mk, s₂, L, rfl, rfl, hqc, rfl, hL, rfl, rfl⟩, ?_⟩
    show Steps p.tables e below _ ((({ U with heap := s₂.heap, slotsUsed := s₂.slotsUsed } : State).setVm s₂.vm).setTop { g with pc := g.pc + len₂, stack := v.toList ++ g.stack })
    rw [← hs₂]
    exact hsteps
  · obtain ⟨e2, q2, q3, q4, q5, q6⟩ := id hsm
    have e3 : s₂ = ({ (U.calling g mk a).setFrames s₂.frames with heap := s₂.heap, slotsUsed := s₂.slotsUsed } : State).setVm s₂.vm := by
      have : s₂ = ({ s₂ with vm := (U.calling g mk a).vm } : State).setVm s₂.vm := rfl
      rw [e2] at this
      exact this
    have hf₂ : s₂.frames = .throwing q :: .java g :: U.frames.tail := hend
    have hW' : U.WarmedH s₂.vm := hW₂
    have hs₂ : s₂ = ((({ U with heap := s₂.heap, slotsUsed := s₂.slotsUsed } : State).setVm s₂.vm).setTop g).pushFrame (.throwing q) := by
      refine e3.trans ?_
      rw [hf₂, State.calling_eq h.top, State.setFrames_setFrames, State.pushFrame, State.frames_setTop _ hr', State.setTop_of_frames _ hr', State.setFrames_setFrames, hr]
      rfl
    have hsame : U.sameButNew ({ U with heap := s₂.heap, slotsUsed := s₂.slotsUsed } : State) L mc ms := by
      refine ⟨?_, q2, q3, q4, q5, q6⟩
      obtain ⟨t, ht, -⟩ := State.frames_cons hr
      show ({ U with heap := s₂.heap, slotsUsed := s₂.slotsUsed } : State) = { U.setFrames U.frames with heap := s₂.heap, slotsUsed := s₂.slotsUsed }
      rw [State.setFrames_self ht]
    subst hg
    refine Or.inr ⟨q, ⟨(({ U with heap := s₂.heap, slotsUsed := s₂.slotsUsed } : State).setVm s₂.vm), Ls ++ L, c0 + mc, s0 + ms⟩,
      ⟨X.admits, X.cas, X.clock, X.frames, X.room, X.hears, X.method, X.code, (X.here.setHeapUsed s₂.heap s₂.slotsUsed).setVm hW'.alike, X.tail, State.WarmedH.trans X.warmed hW', X.limits, X.bytes, X.same.trans (hsame.setVm s.vm)⟩,
      ⟨g, mk, s₂, L, E, ce, rfl, rfl, hx, hce, hcv, hcl, rfl, hL, rfl, rfl⟩, ?_⟩
    show Steps p.tables e below _ (((({ U with heap := s₂.heap, slotsUsed := s₂.slotsUsed } : State).setVm s₂.vm).setTop g).pushFrame (.throwing q))
    rw [← hs₂]
    exact hsteps
end Payer
section Calls
variable {p : Program} {l : Launch} {e : Env} {R : Room} {s : State} {m : MethodId} {args : Array Value} {below : List Frame} {meth : Method} {c : Code} {T : State} {locs : List Loc} {cells slots : Nat}
theorem vx_callV (X : Stand p l e R s m args below meth c T locs cells slots) (hexec : p.tables.exec = Jvm.exec) {own C : String} {index : Nat} {y : MethodName} {bytes : ByteArray} {maxL : Nat} {ret : Option FieldType}
    (hown : s.vm.findClass own = some m.cls) (hlink : (Cond.methodLink own index y).before args s = true) (hinst : (Cond.instanceMethod y).before args s = true) (hsel : (Cond.selects C y y).before args s = true)
    (hcode : (Cond.code y bytes maxL ret).before args s = true) (hy : y.cls ≠ "java/lang/invoke/MethodHandle" ∧ y.cls ≠ "java/lang/invoke/VarHandle")
    {W9 : Nat} {Pre : Pt → Array Value → Prop} {Post : Pt → Array Value → Option Value → Pt → Prop} {PostX : Pt → Array Value → Addr → Pt → Prop} (hK : vx_Back l R p e below s args y 3 W9 Pre Post PostX)
    {b : Addr} {cellB : Cell} (hcell : T.heap[b]? = some cellB) (hobj : cellB.vm.isStatics = false) (hcls : s.vm.findClass C = some cellB.cls)
    {g : JFrame} (hg : g.method = m) (hsize : g.locals.size = c.maxLocals) {argsL rest : List Value} (hlen : ∀ sig, parseMethodDescriptor y.desc = some sig → argsL.length = sig.parameters.length)
    (hstack : g.stack = argsL.reverse ++ .ref b :: rest) (hW : 2 * g.monitorRoom + (rest.map fun v => v.category).sum ≤ W9) (hdg : decode c.code g.pc = .ok (.invokevirtual index, 3))
    (hpre : ∀ vm₁, s.WarmedH vm₁ → Pre ⟨T.setVm vm₁, locs, cells, slots⟩ (Value.ref b :: argsL).toArray) :
    (∃ (v : Option Value) (vm₁ : Vm) (B : Pt), s.WarmedH vm₁ ∧ Stand p l e R s m args below meth c B.U B.locs B.cells B.slots ∧ Post ⟨T.setVm vm₁, locs, cells, slots⟩ (Value.ref b :: argsL).toArray v B ∧
      ∀ target, Steps p.tables e below (B.U.setTop { g with pc := g.pc + 3, stack := v.toList ++ rest }) target → Steps p.tables e below (T.setTop g) target) ∨
    (∃ (q : Addr) (vm₁ : Vm) (B : Pt), s.WarmedH vm₁ ∧ Stand p l e R s m args below meth c B.U B.locs B.cells B.slots ∧ PostX ⟨T.setVm vm₁, locs, cells, slots⟩ (Value.ref b :: argsL).toArray q B ∧
      Steps p.tables e below (T.setTop g) ((B.U.setTop { g with stack := rest }).pushFrame (.throwing q))) := by
  obtain ⟨mk, methM, hnamed, hmethM, hstM, habM⟩ := Cond.instanceMethod_spec hinst
  obtain ⟨methM', cM, hmethM', -, -, -, -, -, -, hsigM⟩ := Cond.code_spec hnamed hcode
  cases hmethM.symm.trans hmethM'
  obtain ⟨c2, r2, m2, q1, q2, q3, q4, kP, hkP, hkPi⟩ := Cond.selects_spec hsel
  cases hcls.symm.trans q1
  cases (State.methodFound?_of_named hnamed hy).symm.trans q2
  cases hnamed.symm.trans q3
  have hselP : selectMethod e.platform s.vm cellB.cls mk = .method mk := by rw [Launch.admits_selectMethod X.admits]; exact q4
  obtain ⟨vm₁, X₁, hstep₁⟩ := X.invokevirtual hexec hown hlink hnamed hmethM hstM hkP hkPi hy (a := b) (cell := cellB) hcell
    (fun z h => by rw [h] at hobj; cases hobj) hselP hmethM habM hkP hkPi (g := g) hg (argsL := argsL) (rest := rest) (hlen _ hsigM) hstack hdg
  rcases hK m meth c ⟨T.setVm vm₁, locs, cells, slots⟩ { g with stack := rest } (.invokevirtual index) mk (Value.ref b :: argsL).toArray X₁ hg hsize hdg hW (X₁.named hnamed) (hpre vm₁ X₁.warmed) with ⟨v, B, X', hpost, hsteps⟩ | ⟨q, B, X', hpost, hsteps⟩
  · exact Or.inl ⟨v, vm₁, B, X₁.warmed, X', hpost, fun target h => hstep₁ _ fun acts => by rw [doInvoke_state]; exact hsteps.trans h⟩
  · exact Or.inr ⟨q, vm₁, B, X₁.warmed, X', hpost, hstep₁ _ fun acts => by rw [doInvoke_state]; exact hsteps⟩
theorem vx_callS (X : Stand p l e R s m args below meth c T locs cells slots) (hexec : p.tables.exec = Jvm.exec) {own : String} {index : Nat} {y : MethodName} {bytes : ByteArray} {maxL : Nat} {ret : Option FieldType}
    (hown : s.vm.findClass own = some m.cls) (hlink : (Cond.methodLink own index y).before args s = true) (hstat : (Cond.static y).before args s = true) (hinit : (Cond.initialized y.cls).before args s = true)
    (hcode : (Cond.code y bytes maxL ret).before args s = true) (hy : y.cls ≠ "java/lang/invoke/MethodHandle" ∧ y.cls ≠ "java/lang/invoke/VarHandle")
    {W9 : Nat} {Pre : Pt → Array Value → Prop} {Post : Pt → Array Value → Option Value → Pt → Prop} {PostX : Pt → Array Value → Addr → Pt → Prop} (hK : vx_Back l R p e below s args y 3 W9 Pre Post PostX)
    {g : JFrame} (hg : g.method = m) (hsize : g.locals.size = c.maxLocals) {argsL rest : List Value} (hlen : ∀ sig, parseMethodDescriptor y.desc = some sig → argsL.length = sig.parameters.length)
    (hstack : g.stack = argsL.reverse ++ rest) (hW : 2 * g.monitorRoom + (rest.map fun v => v.category).sum ≤ W9) (hdg : decode c.code g.pc = .ok (.invokestatic index, 3))
    (hpre : ∀ vm₁, s.WarmedH vm₁ → Pre ⟨T.setVm vm₁, locs, cells, slots⟩ argsL.toArray) :
    (∃ (v : Option Value) (vm₁ : Vm) (B : Pt), s.WarmedH vm₁ ∧ Stand p l e R s m args below meth c B.U B.locs B.cells B.slots ∧ Post ⟨T.setVm vm₁, locs, cells, slots⟩ argsL.toArray v B ∧
      ∀ target, Steps p.tables e below (B.U.setTop { g with pc := g.pc + 3, stack := v.toList ++ rest }) target → Steps p.tables e below (T.setTop g) target) ∨
    (∃ (q : Addr) (vm₁ : Vm) (B : Pt), s.WarmedH vm₁ ∧ Stand p l e R s m args below meth c B.U B.locs B.cells B.slots ∧ PostX ⟨T.setVm vm₁, locs, cells, slots⟩ argsL.toArray q B ∧
      Steps p.tables e below (T.setTop g) ((B.U.setTop { g with stack := rest }).pushFrame (.throwing q))) := by
  obtain ⟨mk, hnamed⟩ := Cond.code_named hcode
  obtain ⟨methM, cM, hmethM, -, -, -, -, -, -, hsigM⟩ := Cond.code_spec hnamed hcode
  have hstatic : methM.isStatic = true := Cond.static_spec hnamed hmethM hstat
  obtain ⟨kP, hkP, -⟩ := className_of_methodNamed hnamed
  have hinitP : kP.init = .initialized := Cond.initialized_spec (findClass_of_methodNamed hnamed) hkP hinit
  obtain ⟨vm₁, X₁, hstep₁⟩ := X.invokestatic hexec hown hlink hnamed hmethM hstatic hkP hinitP hy (g := g) hg (argsL := argsL) (rest := rest) (hlen _ hsigM) hstack hdg
  rcases hK m meth c ⟨T.setVm vm₁, locs, cells, slots⟩ { g with stack := rest } (.invokestatic index) mk argsL.toArray X₁ hg hsize hdg hW (X₁.named hnamed) (hpre vm₁ X₁.warmed) with ⟨v, B, X', hpost, hsteps⟩ | ⟨q, B, X', hpost, hsteps⟩
  · exact Or.inl ⟨v, vm₁, B, X₁.warmed, X', hpost, fun target h => hstep₁ _ fun acts => by rw [doInvoke_state]; exact hsteps.trans h⟩
  · exact Or.inr ⟨q, vm₁, B, X₁.warmed, X', hpost, hstep₁ _ fun acts => by rw [doInvoke_state]; exact hsteps⟩
end Calls
theorem vx_cls {s : State} {T : State} {vm₁ : Vm} {E : String} {k : ClassId} (hW : s.WarmedH vm₁) (h : (T.setVm vm₁).vm.findClass E = some k) : s.vm.findClass E = some k := by
  have h1 : vm₁.findClass E = some k := h
  rw [hW.alike.findClass] at h1
  exact h1
/-- the method's frame g, with q thrown over it -/
def vx_W (p : Program) (l : Launch) (e : Env) (R : Room) (s : State) (m : MethodId) (args : Array Value) (below : List Frame) (meth : Method) (c : Code) (H : Heap) (locs : List Loc) (cells slots : Nat) (Q : State → Prop) (g : JFrame) (q : Addr) : Prop :=
  ∀ T : State, T.heap = H → Stand p l e R s m args below meth c T locs cells slots → ∃ t, Steps p.tables e below ((T.setTop g).pushFrame (.throwing q)) t ∧ Q t
def vx_Run (p : Program) (l : Launch) (e : Env) (R : Room) (s : State) (m : MethodId) (args : Array Value) (below : List Frame) (meth : Method) (c : Code) (H : Heap) (locs : List Loc) (cells slots mc ms : Nat) (g : JFrame) (rest : List Value) (Qa : State → Outcome → State → Prop) (XC : String → State → State → Prop) (free : Addr → Prop) : Prop :=
  ∀ T : State, T.heap = H → Stand p l e R s m args below meth c T locs cells slots →
    (∃ (v : Option Value) (st₀ t T' : State) (L : List Loc), st₀.heap = H ∧ Stand p l e R s m args below meth c T' (locs ++ L) (cells + mc) (slots + ms) ∧ (∀ q ∈ L, free q.base) ∧ T'.heap = t.heap ∧ T'.vm = t.vm ∧ Qa st₀ (.returned v) t ∧
      Goes p e below T g T' { g with pc := g.pc + 3, stack := v.toList ++ rest }) ∨
    (∃ (q : Addr) (st₀ t T' : State) (L : List Loc) (E : String) (ce : Cell), st₀.heap = H ∧ Stand p l e R s m args below meth c T' (locs ++ L) (cells + mc) (slots + ms) ∧ (∀ z ∈ L, free z.base) ∧ T'.heap = t.heap ∧ T'.vm = t.vm ∧ XC E st₀ t ∧ t.heap[q]? = some ce ∧ ce.vm = .none ∧ s.vm.findClass E = some ce.cls ∧
      Steps p.tables e below (T.setTop g) ((T'.setTop { g with stack := rest }).pushFrame (.throwing q)))
def vx_X {S : Type} (px : S → Prop) (B : String → S → State → Prop) (A : Nat → Prop) : String → State → State → Prop := fun E st t => ∃ u : S, px u ∧ B E u t ∧ va_F A st t
section Runs
variable {p : Program} {l : Launch} {e : Env} {R : Room} {s : State} {m : MethodId} {args : Array Value} {below : List Frame} {meth : Method} {c : Code} {H : Heap} {locs : List Loc} {cells slots : Nat}
variable {y : MethodName} {bytes cc : ByteArray} {maxL nL mc ms n index : Nat} {ret : Option FieldType} {ws : List Cond} {rm : Room} {Pc : Array Value → State → Prop} {Qc : Array Value → State → Outcome → State → Prop} {XC : String → State → State → Prop} {free : Addr → Prop} {Ts : List Cond} {own C : String} {b : Addr} {As rest : List Value} {g : JFrame}
theorem vx_callBack (cb : CallB R s args own index y bytes maxL ret ws rm mc ms n) (hM : vx_Met l y ws rm Pc Qc XC mc ms free) (hbl : FrameBlind Pc) : vx_Back l R p e below s args y 3 8 (PreOf R mc ms Pc) (PostOf Qc mc ms free) (vx_Post XC mc ms free) := by
  obtain ⟨hrc, hrs, hfr, hlo, hws, hcw, -, hini, -⟩ := cb
  exact vx_back (bytes := bytes) (maxL := maxL) (ret := ret) hM hbl hrc hrs hfr hlo hws hcw (fun a' U hW => word_at hW (Or.inl (by first | rfl | simp [Cond.onTables, Cond.keeps, Cond.steady])) hini)
theorem vx_runV (S : CallFix p m c cc nL s args Ts own) (hM : vx_Met l y ws rm Pc Qc XC mc ms free) (cw : CallW R s args own C index y bytes maxL ret ws rm mc ms n) (hp : PreV s H C b Pc As)
    (hg : g.method = m) (hn : As.length = n) (hsize : g.locals.size = nL) (hstack : g.stack = As.reverse ++ .ref b :: rest) (hW : 2 * g.monitorRoom + (rest.map fun v => v.category).sum ≤ 8) (hdg : decode cc g.pc = .ok (.invokevirtual index, 3)) (hf : cells + mc ≤ R.cells ∧ slots + ms ≤ R.slots) :
    vx_Run p l e R s m args below meth c H locs cells slots mc ms g rest (Qc (Value.ref b :: As).toArray) XC free := by
  have hK : vx_Back l R p e below s args y 3 8 (PreOf R mc ms Pc) (PostOf Qc mc ms free) (vx_Post XC mc ms free) := vx_callBack cw.1 hM hp.1
  obtain ⟨⟨-, -, -, -, -, -, hcode, -, hy, hlen, hl⟩, hin, hse⟩ := cw
  obtain ⟨hx, hb, hml, ho, -⟩ := S
  obtain ⟨-, ⟨cellB, hcB, hoB, hclB⟩, hPc⟩ := hp
  intro T hT X
  rcases vx_callV X hx (C := C) (bytes := bytes) (maxL := maxL) (ret := ret) ho hl hin hse hcode hy hK (by rw [hT]; exact hcB) hoB hclB hg (hsize.trans hml.symm) (argsL := As) (rest := rest) (fun sig h => hn.trans (hlen sig h)) hstack hW (by rw [hb]; exact hdg)
    (fun vm₁ hW₁ => ⟨hf.1, hf.2, hPc (T.setVm vm₁) hT hW₁⟩) with ⟨v, vm₁, ⟨U', l2, c2, s2⟩, hW₁, X', ⟨g', mk, t, L, e1, e2, hq, h1, hL, h2, h3⟩, st⟩ | ⟨q, vm₁, ⟨U', l2, c2, s2⟩, hW₁, X', ⟨g', mk, t, L, E, ce, e1, e2, hq, hce, hcv, hcl, h1, hL, h2, h3⟩, st⟩
  · dsimp only [Pt.U, Pt.locs, Pt.cells, Pt.slots] at X' e1 e2 h1 h2 h3 st
    subst h1; subst h2; subst h3
    exact Or.inl ⟨v, (T.setVm vm₁).calling g' mk (Value.ref b :: As).toArray, t, U', L, hT, X', hL, e1, e2, hq, st⟩
  · dsimp only [Pt.U, Pt.locs, Pt.cells, Pt.slots] at X' e1 e2 h1 h2 h3 st hcl
    subst h1; subst h2; subst h3
    exact Or.inr ⟨q, (T.setVm vm₁).calling g' mk (Value.ref b :: As).toArray, t, U', L, E, ce, hT, X', hL, e1, e2, hq, hce, hcv, vx_cls hW₁ hcl, st⟩
theorem vx_runS (S : CallFix p m c cc nL s args Ts own) (hM : vx_Met l y ws rm Pc Qc XC mc ms free) (cw : CallB R s args own index y bytes maxL ret ws rm mc ms n ∧ (Cond.static y).before args s = true) (hp : PreS s H Pc As)
    (hg : g.method = m) (hn : As.length = n) (hsize : g.locals.size = nL) (hstack : g.stack = As.reverse ++ rest) (hW : 2 * g.monitorRoom + (rest.map fun v => v.category).sum ≤ 8) (hdg : decode cc g.pc = .ok (.invokestatic index, 3)) (hf : cells + mc ≤ R.cells ∧ slots + ms ≤ R.slots) :
    vx_Run p l e R s m args below meth c H locs cells slots mc ms g rest (Qc As.toArray) XC free := by
  have hK : vx_Back l R p e below s args y 3 8 (PreOf R mc ms Pc) (PostOf Qc mc ms free) (vx_Post XC mc ms free) := vx_callBack cw.1 hM hp.1
  obtain ⟨⟨-, -, -, -, -, -, hcode, hini, hy, hlen, hl⟩, hstt⟩ := cw
  obtain ⟨hx, hb, hml, ho, -⟩ := S
  intro T hT X
  rcases vx_callS X hx (bytes := bytes) (maxL := maxL) (ret := ret) ho hl hstt hini hcode hy hK hg (hsize.trans hml.symm) (argsL := As) (rest := rest) (fun sig h => hn.trans (hlen sig h)) hstack hW (by rw [hb]; exact hdg)
    (fun vm₁ hW₁ => ⟨hf.1, hf.2, hp.2 (T.setVm vm₁) hT hW₁⟩) with ⟨v, vm₁, ⟨U', l2, c2, s2⟩, hW₁, X', ⟨g', mk, t, L, e1, e2, hq, h1, hL, h2, h3⟩, st⟩ | ⟨q, vm₁, ⟨U', l2, c2, s2⟩, hW₁, X', ⟨g', mk, t, L, E, ce, e1, e2, hq, hce, hcv, hcl, h1, hL, h2, h3⟩, st⟩
  · dsimp only [Pt.U, Pt.locs, Pt.cells, Pt.slots] at X' e1 e2 h1 h2 h3 st
    subst h1; subst h2; subst h3
    exact Or.inl ⟨v, (T.setVm vm₁).calling g' mk As.toArray, t, U', L, hT, X', hL, e1, e2, hq, st⟩
  · dsimp only [Pt.U, Pt.locs, Pt.cells, Pt.slots] at X' e1 e2 h1 h2 h3 st hcl
    subst h1; subst h2; subst h3
    exact Or.inr ⟨q, (T.setVm vm₁).calling g' mk As.toArray, t, U', L, E, ce, hT, X', hL, e1, e2, hq, hce, hcv, vx_cls hW₁ hcl, st⟩
end Runs
section Rows
variable {p : Program} {l : Launch} {e : Env} {R : Room} {s : State} {m : MethodId} {args : Array Value} {below : List Frame} {meth : Method} {c : Code} {H : Heap} {locs : List Loc} {cells slots : Nat} {Q : State → Prop}
variable {mc ms : Nat} {free : Addr → Prop} {A0 A1 : Nat → Prop} {H0 : Heap} {a : Array Value} {pc : Nat} {ls : Array Slot} {st0 rest : List Value}
theorem vx_keep {st₀ t T' : State} {L : List Loc} (h0 : st₀.heap = H) (e1 : T'.heap = t.heap) (hS : va_S A0 H0 H locs) (hA : ∀ q, q < H.size → A1 q → A0 q) (hf : ∀ q, free q → A0 q) (hL : ∀ q ∈ L, free q.base) (hF : va_F A1 st₀ t) :
    H.size ≤ T'.heap.size ∧ (∀ q : Nat, q < H.size → ¬ A1 q → T'.heap[q]? = H[q]?) ∧ va_S A0 H0 T'.heap (locs ++ L) := by
  obtain ⟨hz, hk⟩ := hF
  rw [h0] at hz hk
  exact ⟨by rw [e1]; exact hz, fun q h1 h2 => by rw [e1]; exact hk q h1 h2,
    ⟨Nat.le_trans hS.1 (by rw [e1]; exact hz), fun q h1 h2 => by rw [e1, hk q (Nat.lt_of_lt_of_le h1 hS.1) (fun z => h2 (hA q (Nat.lt_of_lt_of_le h1 hS.1) z))]; exact hS.2.1 q h1 h2, fun q hq => by
      rcases List.mem_append.mp hq with h | h
      · exact hS.2.2 q h
      · exact hf _ (hL q h)⟩⟩
theorem vx_calli {S SX : Type} {post : Int32 → S → Prop} {px : SX → Prop} {B : S → State → Prop} {BX : String → SX → State → Prop} {AX : Nat → Prop} (hr : vx_Run p l e R s m args below meth c H locs cells slots mc ms (F0 m pc ls st0) rest (va_Qi post B A1 a) (vx_X px BX AX) free) (hS : va_S A0 H0 H locs) (hA : ∀ q, q < H.size → A1 q → A0 q) (hf : ∀ q, free q → A0 q) (hAX : ∀ q, q < H.size → AX q → A0 q)
    (kx : ∀ (E : String) (ce : Cell) (q9 : Addr) (u : SX) (t : State) (H1 : Heap) (locs1 : List Loc), t.heap = H1 → s.vm.Alike t.vm → px u → BX E u t → H.size ≤ H1.size → (∀ q : Nat, q < H.size → ¬ AX q → H1[q]? = H[q]?) → va_S A0 H0 H1 locs1 → H1[q9]? = some ce → ce.vm = .none → s.vm.findClass E = some ce.cls → vx_W p l e R s m args below meth c H1 locs1 (cells + mc) (slots + ms) Q (F0 m pc ls rest) q9)
    (kk : ∀ (r : Int32) (u : S) (t : State) (H1 : Heap) (locs1 : List Loc), t.heap = H1 → s.vm.Alike t.vm → post r u → B u t → H.size ≤ H1.size → (∀ q : Nat, q < H.size → ¬ A1 q → H1[q]? = H[q]?) → va_S A0 H0 H1 locs1 → W p l e R s m args below meth c H1 locs1 (cells + mc) (slots + ms) Q (F0 m (pc + 3) ls (.int r :: rest))) : W p l e R s m args below meth c H locs cells slots Q (F0 m pc ls st0) := by
  intro T hT X
  rcases hr T hT X with ⟨v, st₀, t, T', L, h0, X', hL, e1, e2, ⟨⟨r, u, hv, hp, hb⟩, hF⟩, st⟩ | ⟨q, st₀, t, T', L, E, ce, h0, X', hL, e1, e2, ⟨u, hp, hb, hF⟩, hce, hcv, hcl, st⟩
  · cases hv
    obtain ⟨k1, k2, k3⟩ := vx_keep h0 e1 hS hA hf hL hF
    obtain ⟨t2, a1, b1⟩ := kk r u t T'.heap (locs ++ L) e1.symm (by rw [← e2]; exact X'.warmed.alike) hp hb k1 k2 k3 T' rfl X'
    exact ⟨t2, st t2 a1, b1⟩
  · obtain ⟨k1, k2, k3⟩ := vx_keep h0 e1 hS hAX hf hL hF
    obtain ⟨t2, a1, b1⟩ := kx E ce q u t T'.heap (locs ++ L) e1.symm (by rw [← e2]; exact X'.warmed.alike) hp hb k1 k2 k3 (by rw [e1]; exact hce) hcv hcl T' rfl X'
    exact ⟨t2, st.trans a1, b1⟩
theorem vx_calll {S SX : Type} {post : Int64 → S → Prop} {px : SX → Prop} {B : S → State → Prop} {BX : String → SX → State → Prop} {AX : Nat → Prop} (hr : vx_Run p l e R s m args below meth c H locs cells slots mc ms (F0 m pc ls st0) rest (va_Ql post B A1 a) (vx_X px BX AX) free) (hS : va_S A0 H0 H locs) (hA : ∀ q, q < H.size → A1 q → A0 q) (hf : ∀ q, free q → A0 q) (hAX : ∀ q, q < H.size → AX q → A0 q)
    (kx : ∀ (E : String) (ce : Cell) (q9 : Addr) (u : SX) (t : State) (H1 : Heap) (locs1 : List Loc), t.heap = H1 → s.vm.Alike t.vm → px u → BX E u t → H.size ≤ H1.size → (∀ q : Nat, q < H.size → ¬ AX q → H1[q]? = H[q]?) → va_S A0 H0 H1 locs1 → H1[q9]? = some ce → ce.vm = .none → s.vm.findClass E = some ce.cls → vx_W p l e R s m args below meth c H1 locs1 (cells + mc) (slots + ms) Q (F0 m pc ls rest) q9)
    (kk : ∀ (r : Int64) (u : S) (t : State) (H1 : Heap) (locs1 : List Loc), t.heap = H1 → s.vm.Alike t.vm → post r u → B u t → H.size ≤ H1.size → (∀ q : Nat, q < H.size → ¬ A1 q → H1[q]? = H[q]?) → va_S A0 H0 H1 locs1 → W p l e R s m args below meth c H1 locs1 (cells + mc) (slots + ms) Q (F0 m (pc + 3) ls (.long r :: rest))) : W p l e R s m args below meth c H locs cells slots Q (F0 m pc ls st0) := by
  intro T hT X
  rcases hr T hT X with ⟨v, st₀, t, T', L, h0, X', hL, e1, e2, ⟨⟨r, u, hv, hp, hb⟩, hF⟩, st⟩ | ⟨q, st₀, t, T', L, E, ce, h0, X', hL, e1, e2, ⟨u, hp, hb, hF⟩, hce, hcv, hcl, st⟩
  · cases hv
    obtain ⟨k1, k2, k3⟩ := vx_keep h0 e1 hS hA hf hL hF
    obtain ⟨t2, a1, b1⟩ := kk r u t T'.heap (locs ++ L) e1.symm (by rw [← e2]; exact X'.warmed.alike) hp hb k1 k2 k3 T' rfl X'
    exact ⟨t2, st t2 a1, b1⟩
  · obtain ⟨k1, k2, k3⟩ := vx_keep h0 e1 hS hAX hf hL hF
    obtain ⟨t2, a1, b1⟩ := kx E ce q u t T'.heap (locs ++ L) e1.symm (by rw [← e2]; exact X'.warmed.alike) hp hb k1 k2 k3 (by rw [e1]; exact hce) hcv hcl T' rfl X'
    exact ⟨t2, st.trans a1, b1⟩
theorem vx_callf {S SX : Type} {post : UInt32 → S → Prop} {px : SX → Prop} {B : S → State → Prop} {BX : String → SX → State → Prop} {AX : Nat → Prop} (hr : vx_Run p l e R s m args below meth c H locs cells slots mc ms (F0 m pc ls st0) rest (va_Qf post B A1 a) (vx_X px BX AX) free) (hS : va_S A0 H0 H locs) (hA : ∀ q, q < H.size → A1 q → A0 q) (hf : ∀ q, free q → A0 q) (hAX : ∀ q, q < H.size → AX q → A0 q)
    (kx : ∀ (E : String) (ce : Cell) (q9 : Addr) (u : SX) (t : State) (H1 : Heap) (locs1 : List Loc), t.heap = H1 → s.vm.Alike t.vm → px u → BX E u t → H.size ≤ H1.size → (∀ q : Nat, q < H.size → ¬ AX q → H1[q]? = H[q]?) → va_S A0 H0 H1 locs1 → H1[q9]? = some ce → ce.vm = .none → s.vm.findClass E = some ce.cls → vx_W p l e R s m args below meth c H1 locs1 (cells + mc) (slots + ms) Q (F0 m pc ls rest) q9)
    (kk : ∀ (r : UInt32) (u : S) (t : State) (H1 : Heap) (locs1 : List Loc), t.heap = H1 → s.vm.Alike t.vm → post r u → B u t → H.size ≤ H1.size → (∀ q : Nat, q < H.size → ¬ A1 q → H1[q]? = H[q]?) → va_S A0 H0 H1 locs1 → W p l e R s m args below meth c H1 locs1 (cells + mc) (slots + ms) Q (F0 m (pc + 3) ls (.float r :: rest))) : W p l e R s m args below meth c H locs cells slots Q (F0 m pc ls st0) := by
  intro T hT X
  rcases hr T hT X with ⟨v, st₀, t, T', L, h0, X', hL, e1, e2, ⟨⟨r, u, hv, hp, hb⟩, hF⟩, st⟩ | ⟨q, st₀, t, T', L, E, ce, h0, X', hL, e1, e2, ⟨u, hp, hb, hF⟩, hce, hcv, hcl, st⟩
  · cases hv
    obtain ⟨k1, k2, k3⟩ := vx_keep h0 e1 hS hA hf hL hF
    obtain ⟨t2, a1, b1⟩ := kk r u t T'.heap (locs ++ L) e1.symm (by rw [← e2]; exact X'.warmed.alike) hp hb k1 k2 k3 T' rfl X'
    exact ⟨t2, st t2 a1, b1⟩
  · obtain ⟨k1, k2, k3⟩ := vx_keep h0 e1 hS hAX hf hL hF
    obtain ⟨t2, a1, b1⟩ := kx E ce q u t T'.heap (locs ++ L) e1.symm (by rw [← e2]; exact X'.warmed.alike) hp hb k1 k2 k3 (by rw [e1]; exact hce) hcv hcl T' rfl X'
    exact ⟨t2, st.trans a1, b1⟩
theorem vx_calld {S SX : Type} {post : UInt64 → S → Prop} {px : SX → Prop} {B : S → State → Prop} {BX : String → SX → State → Prop} {AX : Nat → Prop} (hr : vx_Run p l e R s m args below meth c H locs cells slots mc ms (F0 m pc ls st0) rest (va_Qd post B A1 a) (vx_X px BX AX) free) (hS : va_S A0 H0 H locs) (hA : ∀ q, q < H.size → A1 q → A0 q) (hf : ∀ q, free q → A0 q) (hAX : ∀ q, q < H.size → AX q → A0 q)
    (kx : ∀ (E : String) (ce : Cell) (q9 : Addr) (u : SX) (t : State) (H1 : Heap) (locs1 : List Loc), t.heap = H1 → s.vm.Alike t.vm → px u → BX E u t → H.size ≤ H1.size → (∀ q : Nat, q < H.size → ¬ AX q → H1[q]? = H[q]?) → va_S A0 H0 H1 locs1 → H1[q9]? = some ce → ce.vm = .none → s.vm.findClass E = some ce.cls → vx_W p l e R s m args below meth c H1 locs1 (cells + mc) (slots + ms) Q (F0 m pc ls rest) q9)
    (kk : ∀ (r : UInt64) (u : S) (t : State) (H1 : Heap) (locs1 : List Loc), t.heap = H1 → s.vm.Alike t.vm → post r u → B u t → H.size ≤ H1.size → (∀ q : Nat, q < H.size → ¬ A1 q → H1[q]? = H[q]?) → va_S A0 H0 H1 locs1 → W p l e R s m args below meth c H1 locs1 (cells + mc) (slots + ms) Q (F0 m (pc + 3) ls (.double r :: rest))) : W p l e R s m args below meth c H locs cells slots Q (F0 m pc ls st0) := by
  intro T hT X
  rcases hr T hT X with ⟨v, st₀, t, T', L, h0, X', hL, e1, e2, ⟨⟨r, u, hv, hp, hb⟩, hF⟩, st⟩ | ⟨q, st₀, t, T', L, E, ce, h0, X', hL, e1, e2, ⟨u, hp, hb, hF⟩, hce, hcv, hcl, st⟩
  · cases hv
    obtain ⟨k1, k2, k3⟩ := vx_keep h0 e1 hS hA hf hL hF
    obtain ⟨t2, a1, b1⟩ := kk r u t T'.heap (locs ++ L) e1.symm (by rw [← e2]; exact X'.warmed.alike) hp hb k1 k2 k3 T' rfl X'
    exact ⟨t2, st t2 a1, b1⟩
  · obtain ⟨k1, k2, k3⟩ := vx_keep h0 e1 hS hAX hf hL hF
    obtain ⟨t2, a1, b1⟩ := kx E ce q u t T'.heap (locs ++ L) e1.symm (by rw [← e2]; exact X'.warmed.alike) hp hb k1 k2 k3 (by rw [e1]; exact hce) hcv hcl T' rfl X'
    exact ⟨t2, st.trans a1, b1⟩
theorem vx_callv {S SX : Type} {post : S → Prop} {px : SX → Prop} {B : S → State → Prop} {BX : String → SX → State → Prop} {AX : Nat → Prop} (hr : vx_Run p l e R s m args below meth c H locs cells slots mc ms (F0 m pc ls st0) rest (va_Qv post B A1 a) (vx_X px BX AX) free) (hS : va_S A0 H0 H locs) (hA : ∀ q, q < H.size → A1 q → A0 q) (hf : ∀ q, free q → A0 q) (hAX : ∀ q, q < H.size → AX q → A0 q)
    (kx : ∀ (E : String) (ce : Cell) (q9 : Addr) (u : SX) (t : State) (H1 : Heap) (locs1 : List Loc), t.heap = H1 → s.vm.Alike t.vm → px u → BX E u t → H.size ≤ H1.size → (∀ q : Nat, q < H.size → ¬ AX q → H1[q]? = H[q]?) → va_S A0 H0 H1 locs1 → H1[q9]? = some ce → ce.vm = .none → s.vm.findClass E = some ce.cls → vx_W p l e R s m args below meth c H1 locs1 (cells + mc) (slots + ms) Q (F0 m pc ls rest) q9)
    (kk : ∀ (u : S) (t : State) (H1 : Heap) (locs1 : List Loc), t.heap = H1 → s.vm.Alike t.vm → post u → B u t → H.size ≤ H1.size → (∀ q : Nat, q < H.size → ¬ A1 q → H1[q]? = H[q]?) → va_S A0 H0 H1 locs1 → W p l e R s m args below meth c H1 locs1 (cells + mc) (slots + ms) Q (F0 m (pc + 3) ls (rest))) : W p l e R s m args below meth c H locs cells slots Q (F0 m pc ls st0) := by
  intro T hT X
  rcases hr T hT X with ⟨v, st₀, t, T', L, h0, X', hL, e1, e2, ⟨⟨u, hv, hp, hb⟩, hF⟩, st⟩ | ⟨q, st₀, t, T', L, E, ce, h0, X', hL, e1, e2, ⟨u, hp, hb, hF⟩, hce, hcv, hcl, st⟩
  · cases hv
    obtain ⟨k1, k2, k3⟩ := vx_keep h0 e1 hS hA hf hL hF
    obtain ⟨t2, a1, b1⟩ := kk u t T'.heap (locs ++ L) e1.symm (by rw [← e2]; exact X'.warmed.alike) hp hb k1 k2 k3 T' rfl X'
    exact ⟨t2, st t2 a1, b1⟩
  · obtain ⟨k1, k2, k3⟩ := vx_keep h0 e1 hS hAX hf hL hF
    obtain ⟨t2, a1, b1⟩ := kx E ce q u t T'.heap (locs ++ L) e1.symm (by rw [← e2]; exact X'.warmed.alike) hp hb k1 k2 k3 (by rw [e1]; exact hce) hcv hcl T' rfl X'
    exact ⟨t2, st.trans a1, b1⟩
/-- caught by the row x of this method's table; the rows ahead don't take it -/
theorem vx_catch {own name : String} {E : String} {ce : Cell} {q : Addr} (hown : s.vm.findClass own = some m.cls) (pre : List ExceptionTableEntry) (x : ExceptionTableEntry) (suf : List ExceptionTableEntry) (hsplit : c.exceptionTable.toList = pre ++ x :: suf)
    (hpass : ∀ z ∈ pre, covers z pc = false ∨ (z.catchType ≠ 0 ∧ ∃ nm : String, (Cond.classLink own z.catchType nm).before args s = true ∧ va_Nc E nm s)) (hx : covers x pc = true) (h0 : x.catchType ≠ 0)
    (hlink : (Cond.classLink own x.catchType name).before args s = true) (hcast : (Cond.castable E name).before args s = true) (hcell : H[q]? = some ce) (hv : ce.vm = .none) (hcl : s.vm.findClass E = some ce.cls)
    (kk : W p l e R s m args below meth c H locs cells slots Q (F0 m x.handlerPc ls [.ref q])) : vx_W p l e R s m args below meth c H locs cells slots Q (F0 m pc ls rest) q := by
  intro T hT X
  have hpl : e.platform.magicAccessors = ({} : Platform).magicAccessors := by rw [X.admits.platform]
  obtain ⟨c3, c4, hc3, hc4, hasg⟩ := Cond.castable_spec hcast
  cases Option.some.inj (hc3.symm.trans hcl)
  obtain ⟨c5, hc5, hcl5⟩ := Cond.classLink_spec hown hlink e.platform hpl
  cases Option.some.inj (hc4.symm.trans hc5)
  obtain ⟨vm', X', st⟩ := X.thenCaughtThrough q (g := F0 m pc ls rest) rfl (Steps.refl _) (by rw [hT]; exact hcell) (by rw [hv]; rfl) (by obtain ⟨k9, h9, -⟩ := Vm.findClass_spec hcl; exact ⟨k9, h9⟩) pre x suf hsplit
    (fun z hz => by
      rcases hpass z hz with h | ⟨hz0, nm, hl1, hn1⟩
      · exact Or.inl h
      · obtain ⟨c6, hc6, hcl6⟩ := Cond.classLink_spec hown hl1 e.platform hpl
        obtain ⟨a8, b8, h1, h2, h3⟩ := hn1
        cases Option.some.inj (h1.symm.trans hcl)
        cases Option.some.inj (h2.symm.trans hc6)
        exact Or.inr ⟨hz0, _, hcl6, h3⟩) hx (Or.inr ⟨h0, c4, hcl5, hasg⟩)
  obtain ⟨t, a1, b1⟩ := kk (T.setVm vm') hT X'
  exact ⟨t, st.trans a1, b1⟩
end Rows
section Ends
variable {p : Program} {l : Launch} {e : Env} {R : Room} {s : State} {m : MethodId} {args : Array Value} {below : List Frame} {meth : Method} {c : Code} {H : Heap} {locs : List Loc} {cells slots : Nat} {Q : State → Prop}
variable {mc ms : Nat} {free : Addr → Prop} {A0 A1 : Nat → Prop} {H0 : Heap} {a : Array Value} {ls : Array Slot} {st0 rest : List Value}
variable {Qc : Array Value → State → Outcome → State → Prop} {XC : String → State → State → Prop}
/-- what a body that may throw owes at its end -/
def vx_MQ (below : List Frame) (Qc : Array Value → State → Outcome → State → Prop) (XC : String → State → State → Prop) (a : Array Value) (s : State) (mc ms : Nat) (free : Addr → Prop) : State → Prop := fun t =>
  ∃ o, t.status = .running ∧ Ended t below o ∧ vx_Q Qc XC mc ms free a s o t
theorem vx_ret {g : JFrame} {mc ms : Nat} (k : W p l e R s m args below meth c H locs cells slots (MQ below Qc args s mc ms free) g) : W p l e R s m args below meth c H locs cells slots (vx_MQ below Qc XC args s mc ms free) g := by
  intro T hT X
  obtain ⟨t, a1, o, b1, b2, b3, b4⟩ := k T hT X
  exact ⟨t, a1, o, b1, b2, Or.inl ⟨b3, b4⟩⟩
/-- not caught here: it goes on to the caller -/
theorem vx_widen {g : JFrame} {q : Addr} {k n : Nat} (h1 : cells ≤ k) (h2 : slots ≤ n) (kk : vx_W p l e R s m args below meth c H locs k n Q g q) : vx_W p l e R s m args below meth c H locs cells slots Q g q := fun T hT X => kk T hT (stand_widen X h1 h2)
theorem vx_out {pc : Nat} {E : String} {ce : Cell} {q : Addr} {mc ms : Nat} (hout : ∀ x ∈ c.exceptionTable.toList, covers x pc = false) (hlocks : meth.locks = false) (hcell : H[q]? = some ce) (hv : ce.vm = .none) (hcl : s.vm.findClass E = some ce.cls)
    (hx : ∀ t : State, t.heap = H → s.vm.Alike t.vm → XC E s t) (hf : ∀ z ∈ locs, free z.base) (hc : cells ≤ mc) (hs : slots ≤ ms) :
    vx_W p l e R s m args below meth c H locs cells slots (vx_MQ below Qc XC args s mc ms free) (F0 m pc ls rest) q := by
  intro T hT X
  obtain ⟨st1, hrun, hend, hW, hsm⟩ := X.leaveThrown q (g := F0 m pc ls rest) rfl rfl rfl hout hlocks
  have hcell9 : (T.setFrames (.throwing q :: below)).heap[q]? = some ce := by
    show T.heap[q]? = some ce
    rw [hT]; exact hcell
  exact ⟨_, st1, .threw q, hrun, hend, Or.inr ⟨q, rfl, E, ce, locs, hx _ hT hW.alike, hcell9, hv, hcl, hW, hsm.mono hc hs, hf⟩⟩
theorem vx_frame {U : State} {k n : Nat} (h : s.sameButNew ({ U with vm := s.vm } : State) locs k n) : s.heap.size ≤ U.heap.size ∧ ∀ q : Nat, q < s.heap.size → (∀ z ∈ locs, z.base ≠ q) → U.heap[q]? = s.heap[q]? := by
  obtain ⟨-, h2, -, -, -, h6⟩ := h
  refine ⟨h2, fun q hq hz => ?_⟩
  obtain ⟨c9, e1, e2, e3, e4⟩ := h6 q _ (Array.getElem?_eq_getElem hq)
  have hs : c9.slots = (s.heap[q]).slots := Array.ext_getElem? fun i => e4 i fun hm => hz _ hm rfl
  have h9 : c9 = s.heap[q] := by
    rw [hs] at e2
    exact e2
  have e5 : U.heap[q]? = some c9 := e1
  rw [e5, h9, Array.getElem?_eq_getElem hq]
/-- the words of a throw but the four that speak of the heap -/
def vx_no (w : Cond) : Bool := decide (w ≠ .isRef (.static Bundle.tN "UNASSIGNED_STACK" Bundle.steD)) && decide (w ≠ .isRef (.static Bundle.tN "SUPPRESSED_SENTINEL" Bundle.listD)) && decide (w ≠ .laysStatic Bundle.tN "UNASSIGNED_STACK" Bundle.steD) && decide (w ≠ .laysStatic Bundle.tN "SUPPRESSED_SENTINEL" Bundle.listD)
def vx_at0 (own : String) (ic : Nat) (X : String) (names : List String) : List Cond := (Bundle.ownAtoms0 own ic X names).filter vx_no
def vx_atS (own : String) (ic : Nat) (X : String) (names : List String) : List Cond := (Bundle.ownAtoms own ic X names).filter vx_no
/-- a word that the tables alone decide, or a good one -/
def vx_ot (w : Cond) : Bool := w.onTables || goodWord w
theorem vx_ot_at {args a' : Array Value} {s U : State} {w : Cond} (hW : s.WarmedH U.vm) (hvm : s.vm = U.vm) (hg : vx_ot w = true) (h : w.before args s = true) : w.before a' U = true := by
  simp only [vx_ot, Bool.or_eq_true] at hg
  rcases hg with hg | hg
  · exact va_tabs hg hvm h
  · exact word_at hW (good_of_word hg) h
/-- a list's words: the good ones out of the method's own list, the others by premises of their own -/
theorem vx_hat {args : Array Value} {s : State} {L B : List Cond} (h1 : ∀ w ∈ L.filter goodWord, w.before args s = true) (h2 : ∀ w ∈ L.filter (fun w => !goodWord w), w ∈ B) (h3 : ∀ w ∈ B, w.before args s = true) : ∀ w ∈ L, w.before args s = true := by
  intro w hw
  by_cases g : goodWord w = true
  · exact h1 w (List.mem_filter.mpr ⟨hw, g⟩)
  · refine h3 w (h2 w (List.mem_filter.mpr ⟨hw, ?_⟩))
    show (!goodWord w) = true
    cases hgw : goodWord w
    · rfl
    · exact absurd hgw g
theorem vx_c {args : Array Value} {s : State} {w : Cond} {B : List Cond} (h : w.before args s = true) (t : ∀ w ∈ B, w.before args s = true) : ∀ w' ∈ w :: B, w'.before args s = true := fun w' h' => (List.mem_cons.mp h').elim (fun e => by rw [e]; exact h) (t w')
theorem vx_n {args : Array Value} {s : State} : ∀ w ∈ ([] : List Cond), w.before args s = true := fun _ h => nomatch h
theorem vx_own {args : Array Value} {s : State} {L : List Cond} (h1 : ∀ w ∈ L.filter vx_no, w.before args s = true)
    (hU : (Cond.isRef (.static Bundle.tN "UNASSIGNED_STACK" Bundle.steD)).before args s = true) (hN : (Cond.isRef (.static Bundle.tN "SUPPRESSED_SENTINEL" Bundle.listD)).before args s = true)
    (lU : (Cond.laysStatic Bundle.tN "UNASSIGNED_STACK" Bundle.steD).before args s = true) (lN : (Cond.laysStatic Bundle.tN "SUPPRESSED_SENTINEL" Bundle.listD).before args s = true) : ∀ w ∈ L, w.before args s = true := by
  intro w hw
  by_cases e1 : w = .isRef (.static Bundle.tN "UNASSIGNED_STACK" Bundle.steD)
  · rw [e1]; exact hU
  · by_cases e2 : w = .isRef (.static Bundle.tN "SUPPRESSED_SENTINEL" Bundle.listD)
    · rw [e2]; exact hN
    · by_cases e3 : w = .laysStatic Bundle.tN "UNASSIGNED_STACK" Bundle.steD
      · rw [e3]; exact lU
      · by_cases e4 : w = .laysStatic Bundle.tN "SUPPRESSED_SENTINEL" Bundle.listD
        · rw [e4]; exact lN
        · exact h1 w (List.mem_filter.mpr ⟨hw, by unfold vx_no; rw [decide_eq_true e1, decide_eq_true e2, decide_eq_true e3, decide_eq_true e4]; rfl⟩)
/-- where a static field lies, its class's statics cell in H -/
def vx_L (C n d : String) (A : Nat → Prop) (U : State) (H : Heap) : Prop := ∃ (c : ClassId) (k : Class) (i : Nat) (f : Field) (a : Nat) (cell : Cell), U.vm.findClass C = some c ∧ U.fieldFound? C n d = some (c, k, i, f) ∧ f.isStatic = true ∧ k.statics = some a ∧ H[a]? = some cell ∧ cell.vm.isStatics = true ∧ cell.cls = c ∧ f.slot < cell.slots.size ∧ k.staticTypes[f.slot]? = some f.type ∧ ¬ A a
theorem vx_L.moved {C n d : String} {A : Nat → Prop} {u U : State} {H : Heap} (hvm : u.vm.Alike U.vm) (h : vx_L C n d A u H) : vx_L C n d A U H := by
  obtain ⟨c, k, i, f, a, cell, h1, h2, h3, h4, h5, h6, h7, h8, h9, h10⟩ := h
  obtain ⟨k', hi', he⟩ := State.fieldFound?_setVm hvm h2
  exact ⟨c, k', i, f, a, cell, by rw [hvm.findClass]; exact h1, hi', h3, by rw [he]; exact h4, h5, h6, h7, h8, by rw [he]; exact h9, h10⟩
theorem vx_L.kept {C n d : String} {A : Nat → Prop} {U : State} {H H1 : Heap} (h : vx_L C n d A U H) (hq : ∀ a : Nat, a < H.size → ¬ A a → H1[a]? = H[a]?) : vx_L C n d A U H1 := by
  obtain ⟨c, k, i, f, a, cell, h1, h2, h3, h4, h5, h6, h7, h8, h9, h10⟩ := h
  exact ⟨c, k, i, f, a, cell, h1, h2, h3, h4, by rw [hq a (Array.getElem?_eq_some_iff.mp h5).1 h10]; exact h5, h6, h7, h8, h9, h10⟩
theorem vx_L.narrow {C n d : String} {A B : Nat → Prop} {U : State} {H : Heap} (h : vx_L C n d A U H) (hAB : ∀ q, B q → A q) : vx_L C n d B U H := by
  obtain ⟨c, k, i, f, a, cell, h1, h2, h3, h4, h5, h6, h7, h8, h9, h10⟩ := h
  exact ⟨c, k, i, f, a, cell, h1, h2, h3, h4, h5, h6, h7, h8, h9, fun z => h10 (hAB _ z)⟩
theorem vx_L.word {C n d : String} {A : Nat → Prop} {s : State} {args : Array Value} (h : vx_L C n d A s s.heap) : (Cond.laysStatic C n d).before args s = true := by
  obtain ⟨c, k, i, f, a, cell, h1, h2, h3, h4, h5, h6, h7, h8, h9, -⟩ := h
  show (Cond.laysStatic C n d).holds args s none s [] = true
  exact Cond.laysStatic_of h1 h2 h3 h4 h5 h6 h7 h8 h9
/-- .. and what it holds: null or some reference -/
def vx_Zq (C n d : String) (A : Nat → Prop) (U : State) (H : Heap) : Prop := va_Zq C n d A U H ∧ vx_L C n d A U H
theorem vx_Zq.moved {C n d : String} {A : Nat → Prop} {u U : State} {H : Heap} (hvm : u.vm.Alike U.vm) (h : vx_Zq C n d A u H) : vx_Zq C n d A U H := ⟨va_Zq.moved hvm h.1, vx_L.moved hvm h.2⟩
theorem vx_Zq.kept {C n d : String} {A : Nat → Prop} {U : State} {H H1 : Heap} (h : vx_Zq C n d A U H) (hq : ∀ a : Nat, a < H.size → ¬ A a → H1[a]? = H[a]?) : vx_Zq C n d A U H1 := ⟨va_Zq.kept h.1 hq, vx_L.kept h.2 hq⟩
theorem vx_Zq.narrow {C n d : String} {A B : Nat → Prop} {U : State} {H : Heap} (h : vx_Zq C n d A U H) (hAB : ∀ q, B q → A q) : vx_Zq C n d B U H := ⟨va_Zq.narrow h.1 hAB, vx_L.narrow h.2 hAB⟩
theorem vx_Zqof {args : Array Value} {s : State} {C n d : String} {A : Nat → Prop} (hl : (Cond.laysStatic C n d).before args s = true) (hini : (Cond.initialized C).before args s = true) (h : (Cond.isRef (.static C n d)).before args s = true) (hA : ∀ a : Nat, a < s.heap.size → ¬ A a) : vx_Zq C n d A s s.heap := by
  refine ⟨va_Zqof hl hini h hA, ?_⟩
  obtain ⟨c, k, i, f, a, cell, h1, h2, h3, h4, h5, h6, h7, h8, h9⟩ := Cond.laysStatic_spec hl
  exact ⟨c, k, i, f, a, cell, h1, h2, h3, h4, h5, h6, h7, h8, h9, hA a (Array.getElem?_eq_some_iff.mp h5).1⟩
theorem vx_isRef {C n d : String} {v : Value} {A : Nat → Prop} {s : State} {args : Array Value} (h : va_Z C n d v A s s.heap) (hv : v.isRef = true) : (Cond.isRef (.static C n d)).before args s = true := by
  obtain ⟨cf, kf, fi, f, a, cell, h1, h2, h3, h4, h5, h6, h7, -⟩ := h
  have he : (Term.static C n d).eval args s none [] s = some v := by
    simp [Term.eval, State.fieldNamed?, h1, h2, h4, h5, h6, h7]
  simp only [Cond.before, Cond.holds, Cond.value, he]
  cases v <;> simp_all [Value.isRef]
theorem vx_isRefq {C n d : String} {A : Nat → Prop} {s : State} {args : Array Value} (h : va_Zq C n d A s s.heap) : (Cond.isRef (.static C n d)).before args s = true := by
  rcases h with h | ⟨t, h⟩
  · exact vx_isRef h rfl
  · exact vx_isRef h rfl
/-- the same frame, seen from here: as if the method were called anew in this heap -/
theorem vx_rebase {T : State} (X : Stand p l e R s m args below meth c T locs cells slots) {R' : Room} (hf : R'.frames ≤ R.frames) (hl : R'.locals ≤ R.locals) (hc : cells + R'.cells ≤ R.cells) (hs : slots + R'.slots ≤ R.slots) :
    Stand p l e R' ((T.setVm s.vm).setFrames (.invoking m args :: below)) m args below meth c T [] 0 0 := by
  have htop : (T.setVm s.vm).topJava?.isSome := X.here.top
  have hF : ((T.setVm s.vm).setFrames (.invoking m args :: below)).frames = .invoking m args :: below := State.frames_setFrames _ (State.cur_lt_of_top htop)
  obtain ⟨g₀, hg0⟩ := Option.isSome_iff_exists.mp htop
  obtain ⟨r, hr⟩ := State.topJava?_eq_some.mp hg0
  have hl9 : e.platform.stackLimits (T.setVm s.vm).me = e.platform.stackLimits s.me := X.limits
  have hb9 : (T.setVm s.vm).me.stackBytes = s.me.stackBytes := X.bytes
  refine ⟨X.admits, X.cas, X.clock, hF, ?_, X.hears, X.method, X.code, X.here, X.tail, X.warmed, ?_, ?_, ?_⟩
  · have h := X.room
    have hU : ((T.setVm s.vm).setFrames (.invoking m args :: below)).localsInUse = s.localsInUse := by
      rw [State.localsInUse_invoking hF (meth := meth) (c := c) X.method X.code, State.localsInUse_invoking X.frames X.method X.code]
    simp only [State.hasRoom, Bool.and_eq_true, decide_eq_true_eq] at h ⊢
    obtain ⟨⟨⟨⟨h1, h2, h3, h4, h5, h6⟩, h7⟩, h8⟩, h9⟩ := h
    rw [X.frames, List.length_cons] at h2 h3
    have q1 := X.heapSize
    have q2 := X.used
    simp only [hF, hU, List.length_cons, State.stackLimits_setFrames, State.stackBytes_setFrames, hl9, hb9]
    refine ⟨⟨⟨⟨by omega, by omega, by omega, by omega, by omega, h6⟩, ?_⟩, ?_⟩, X.book⟩
    · show T.heap.size + R'.cells ≤ e.platform.maxCells
      omega
    · show T.slotsUsed + R'.slots ≤ e.platform.maxSlots
      omega
  · rw [State.stackLimits_setFrames]; rfl
  · rw [State.stackBytes_setFrames]; rfl
  · refine ⟨?_, Nat.le_refl _, Nat.le_refl _, ?_, ?_, fun a c9 h9 => ⟨c9, h9, rfl, rfl, fun _ _ => rfl⟩⟩
    · obtain ⟨t, ht, -⟩ := State.frames_cons hr
      show T.setVm s.vm = { ((T.setVm s.vm).setFrames (.invoking m args :: below)).setFrames (T.setVm s.vm).frames with heap := T.heap, slotsUsed := T.slotsUsed }
      rw [State.setFrames_setFrames, State.setFrames_self ht]
      rfl
    · show T.slotsUsed = T.slotsUsed + ((T.heap.toList.drop T.heap.size).map (·.slots.size)).sum
      rw [List.drop_eq_nil_of_le (Nat.le_of_eq Array.length_toList)]
      rfl
    · show ((T.heap.toList.drop T.heap.size).map (·.slots.size)).sum ≤ 0
      rw [List.drop_eq_nil_of_le (Nat.le_of_eq Array.length_toList)]
      exact Nat.le_refl _
/-- 'throw new E()': new; dup; invokespecial; athrow -/
theorem vx_throw0 {cc : ByteArray} {pc : Nat} (hexec : p.tables.exec = Jvm.exec) (hb : c.code = cc) (hl : l.stackTraces = false) {own cls : String} {names : List String} {ik ic mc ms : Nat} {A : Nat → Prop}
    (hown : s.vm.findClass own = some m.cls) (hcls : Bundle.fit cls = true) (hnames : ∀ n ∈ names, Bundle.fit n = true)
    (hk : (Cond.classLink own ik cls).before args s = true) (hini : (Cond.initialized cls).before args s = true) (hat : ∀ w ∈ vx_at0 own ic cls names, w.before args s = true)
    (hgood : ∀ w ∈ Cond.classLink own ik cls :: Cond.initialized cls :: vx_at0 own ic cls names, vx_ot w = true)
    (hU : vx_Zq Bundle.tN "UNASSIGNED_STACK" Bundle.steD A s s.heap) (hN : vx_Zq Bundle.tN "SUPPRESSED_SENTINEL" Bundle.listD A s s.heap) (hS : va_S A s.heap H locs) (hsize : ls.size = c.maxLocals)
    (d0 : decode cc pc = .ok (.new ik, 3)) (d3 : decode cc (pc + 3) = .ok (.dup, 1)) (d4 : decode cc (pc + 4) = .ok (.invokespecial ic, 3)) (d7 : decode cc (pc + 7) = .ok (.athrow, 1))
    (hout : ∀ x ∈ c.exceptionTable.toList, covers x (pc + 7) = false)
    (hRframes : names.length + 3 < R.frames) (hRlocals : (rest.map fun v => v.category).sum + (13 * (names.length + 1) + 42) ≤ R.locals) (hRcells : cells + 1 ≤ R.cells) (hRslots : slots + 6 ≤ R.slots) (hlocks : meth.locks = false)
    (hx : ∀ t : State, s.vm.Alike t.vm → H.size ≤ t.heap.size → (∀ q : Nat, q < H.size → t.heap[q]? = H[q]?) → XC cls s t)
    (hf : ∀ z ∈ locs, free z.base) (hc : cells + 1 ≤ mc) (hs : slots + 6 ≤ ms) :
    W p l e R s m args below meth c H locs cells slots (vx_MQ below Qc XC args s mc ms free) (F0 m pc ls rest) := by
  intro T hT X
  have htr : e.platform.stackTraces = false := (show e.platform.stackTraces = l.stackTraces by rw [X.admits.platform]).trans hl
  have Y := vx_rebase X (R' := { frames := R.frames, locals := R.locals, cells := 1, slots := 6 }) (Nat.le_refl _) (Nat.le_refl _) hRcells hRslots
  obtain ⟨s', hA⟩ : ∃ z, z = (T.setVm s.vm).setFrames (.invoking m args :: below) := ⟨_, rfl⟩
  rw [← hA] at Y
  have hvm : s'.vm = s.vm := by rw [hA]; rfl
  have hhp : s'.heap = H := by rw [hA]; exact hT
  have hW0 : s.WarmedH s'.vm := by rw [hvm]; exact State.WarmedH.refl s
  have hat' : ∀ w ∈ vx_at0 own ic cls names, w.before args s' = true := fun w hw => vx_ot_at hW0 hvm.symm (hgood w (List.mem_cons_of_mem _ (List.mem_cons_of_mem _ hw))) (hat w hw)
  have hk' : (Cond.classLink own ik cls).before args s' = true := vx_ot_at hW0 hvm.symm (hgood _ List.mem_cons_self) hk
  have hini' : (Cond.initialized cls).before args s' = true := vx_ot_at hW0 hvm.symm (hgood _ (List.mem_cons_of_mem _ List.mem_cons_self)) hini
  have hU' : vx_Zq Bundle.tN "UNASSIGNED_STACK" Bundle.steD A s' s'.heap := by rw [hhp]; exact vx_Zq.moved hW0.alike (hU.kept hS.2.1)
  have hN' : vx_Zq Bundle.tN "SUPPRESSED_SENTINEL" Bundle.listD A s' s'.heap := by rw [hhp]; exact vx_Zq.moved hW0.alike (hN.kept hS.2.1)
  have h : ∀ w ∈ Bundle.ownAtoms0 own ic cls names, w.before args s' = true := vx_own hat' (vx_isRefq hU'.1) (vx_isRefq hN'.1) hU'.2.word hN'.2.word
  have hown' : s'.vm.findClass own = some m.cls := by rw [hvm]; exact hown
  have hins : (Cond.instantiable cls 6).before args s' = true := h _ (by simp [Bundle.ownAtoms0])
  obtain ⟨vm₁, cX, kX, hfX, hkX, -, -, X₁, st1⟩ := Y.newCold hexec (own := own) (C := cls) (index := ik) (n := 6) hown' hk' hins hini'
    (g := F0 m pc ls rest) rfl (by rw [hb]; exact d0) (Nat.le_refl _) (Nat.le_refl _)
  generalize hT1 : (T.setVm vm₁).pushCell { cls := cX, slots := kX.instanceTypes.map defaultValue, vm := .none } = T1 at X₁ st1
  have hcat : (Value.ref T.heap.size).category = 1 := rfl
  have hcellA : T1.heap[T.heap.size]? = some (freshCell cX kX) := by rw [← hT1]; exact State.heap_pushCell_size _ _
  have d3' : decode c.code (pc + 3) = .ok (.dup, 1) := by rw [hb]; exact d3
  obtain ⟨U, hsteps, hrun, hend, hW, hsame, ce, hce, hO⟩ := X₁.ctorThrow0 hexec htr (own := own) (cls := cls) (names := names) (ic := ic) hown' hcls hnames h (fun x hx => nomatch hx) hfX hkX hcellA (by rw [hhp, hT]; exact Nat.le_refl _)
    (g := { method := m, pc := pc + 4, locals := ls, stack := .ref T.heap.size :: .ref T.heap.size :: rest, locked := none }) rfl hsize rfl rfl (rest := rest) rfl
    (by rw [hb]; exact d4) (by rw [hb]; exact d7) hout hRframes (by simp only [List.map_cons, List.sum_cons, hcat]; omega) hlocks
  obtain ⟨f1, f2⟩ := vx_frame hsame
  rw [hhp] at f1 f2
  have hWs : s.WarmedH U.vm := State.WarmedH.trans hW0 hW
  have hcl : s.vm.findClass cls = some ce.cls := by
    have h9 := hO.cls
    rw [hvm] at h9
    exact h9
  have hall : s.sameButNew ({ U with vm := s.vm } : State) locs mc ms := by
    subst hA
    obtain ⟨e1, e2⟩ := hsame
    rw [State.setFrames_setFrames] at e1
    have h2 : (T.setVm s.vm).sameButNew ({ U with vm := s.vm } : State) [] (0 + 1) (0 + 6) := ⟨e1, e2⟩
    have h3 := X.same.trans h2
    rw [List.append_nil] at h3
    exact h3.mono hc hs
  refine ⟨U, ?_, .threw T.heap.size, hrun, hend, Or.inr ⟨T.heap.size, rfl, cls, ce, locs, hx U hWs.alike f1 (fun q hq => f2 q hq (fun z hz => nomatch hz)), hce, hO.vm, hcl, hWs, hall, hf⟩⟩
  refine st1 _ ?_
  show Steps p.tables e below (T1.setTop { method := m, pc := pc + 3, locals := ls, stack := .ref T.heap.size :: rest, locked := none }) _
  jvm_step X₁.here [X₁.here.top, hexec, d3', Value.category]
  exact hsteps
/-- 'throw new E("text")': new; dup; ldc; invokespecial; athrow -/
theorem vx_throwS {cc : ByteArray} {pc : Nat} (hexec : p.tables.exec = Jvm.exec) (hb : c.code = cc) (hl : l.stackTraces = false) {own cls text : String} {names : List String} {ik is ic mc ms sa : Nat} {A : Nat → Prop}
    (hown : s.vm.findClass own = some m.cls) (hcls : Bundle.fit cls = true) (hnames : ∀ n ∈ names, Bundle.fit n = true)
    (hk : (Cond.classLink own ik cls).before args s = true) (hini : (Cond.initialized cls).before args s = true) (hstr : vk_R own is text sa s) (hat : ∀ w ∈ vx_atS own ic cls names, w.before args s = true)
    (hgood : ∀ w ∈ Cond.classLink own ik cls :: Cond.initialized cls :: vx_atS own ic cls names, vx_ot w = true)
    (hU : vx_Zq Bundle.tN "UNASSIGNED_STACK" Bundle.steD A s s.heap) (hN : vx_Zq Bundle.tN "SUPPRESSED_SENTINEL" Bundle.listD A s s.heap) (hS : va_S A s.heap H locs) (hsize : ls.size = c.maxLocals)
    (d0 : decode cc pc = .ok (.new ik, 3)) (d3 : decode cc (pc + 3) = .ok (.dup, 1)) (d4 : decode cc (pc + 4) = .ok (.ldc is, 2)) (d6 : decode cc (pc + 6) = .ok (.invokespecial ic, 3)) (d9 : decode cc (pc + 9) = .ok (.athrow, 1))
    (hout : ∀ x ∈ c.exceptionTable.toList, covers x (pc + 9) = false)
    (hRframes : names.length + 3 < R.frames) (hRlocals : (rest.map fun v => v.category).sum + (13 * (names.length + 1) + 43) ≤ R.locals) (hRcells : cells + 1 ≤ R.cells) (hRslots : slots + 6 ≤ R.slots) (hlocks : meth.locks = false)
    (hx : ∀ t : State, s.vm.Alike t.vm → H.size ≤ t.heap.size → (∀ q : Nat, q < H.size → t.heap[q]? = H[q]?) → XC cls s t)
    (hf : ∀ z ∈ locs, free z.base) (hc : cells + 1 ≤ mc) (hs : slots + 6 ≤ ms) :
    W p l e R s m args below meth c H locs cells slots (vx_MQ below Qc XC args s mc ms free) (F0 m pc ls rest) := by
  intro T hT X
  have htr : e.platform.stackTraces = false := (show e.platform.stackTraces = l.stackTraces by rw [X.admits.platform]).trans hl
  have Y := vx_rebase X (R' := { frames := R.frames, locals := R.locals, cells := 1, slots := 6 }) (Nat.le_refl _) (Nat.le_refl _) hRcells hRslots
  obtain ⟨s', hA⟩ : ∃ z, z = (T.setVm s.vm).setFrames (.invoking m args :: below) := ⟨_, rfl⟩
  rw [← hA] at Y
  have hvm : s'.vm = s.vm := by rw [hA]; rfl
  have hhp : s'.heap = H := by rw [hA]; exact hT
  have hW0 : s.WarmedH s'.vm := by rw [hvm]; exact State.WarmedH.refl s
  have hat' : ∀ w ∈ vx_atS own ic cls names, w.before args s' = true := fun w hw => vx_ot_at hW0 hvm.symm (hgood w (List.mem_cons_of_mem _ (List.mem_cons_of_mem _ hw))) (hat w hw)
  have hk' : (Cond.classLink own ik cls).before args s' = true := vx_ot_at hW0 hvm.symm (hgood _ List.mem_cons_self) hk
  have hini' : (Cond.initialized cls).before args s' = true := vx_ot_at hW0 hvm.symm (hgood _ (List.mem_cons_of_mem _ List.mem_cons_self)) hini
  have hU' : vx_Zq Bundle.tN "UNASSIGNED_STACK" Bundle.steD A s' s'.heap := by rw [hhp]; exact vx_Zq.moved hW0.alike (hU.kept hS.2.1)
  have hN' : vx_Zq Bundle.tN "SUPPRESSED_SENTINEL" Bundle.listD A s' s'.heap := by rw [hhp]; exact vx_Zq.moved hW0.alike (hN.kept hS.2.1)
  have h : ∀ w ∈ Bundle.ownAtoms own ic cls names, w.before args s' = true := vx_own hat' (vx_isRefq hU'.1) (vx_isRefq hN'.1) hU'.2.word hN'.2.word
  have hown' : s'.vm.findClass own = some m.cls := by rw [hvm]; exact hown
  have hins : (Cond.instantiable cls 6).before args s' = true := h _ (by simp [Bundle.ownAtoms])
  obtain ⟨vm₁, cX, kX, hfX, hkX, -, -, X₁, st1⟩ := Y.newCold hexec (own := own) (C := cls) (index := ik) (n := 6) hown' hk' hins hini'
    (g := F0 m pc ls rest) rfl (by rw [hb]; exact d0) (Nat.le_refl _) (Nat.le_refl _)
  generalize hT1 : (T.setVm vm₁).pushCell { cls := cX, slots := kX.instanceTypes.map defaultValue, vm := .none } = T1 at X₁ st1
  have hcat : (Value.ref T.heap.size).category = 1 := rfl
  have hcellA : T1.heap[T.heap.size]? = some (freshCell cX kX) := by rw [← hT1]; exact State.heap_pushCell_size _ _
  have d3' : decode c.code (pc + 3) = .ok (.dup, 1) := by rw [hb]; exact d3
  have d4' : decode c.code (pc + 4) = .ok (.ldc is, 2) := by rw [hb]; exact d4
  have hstr' : vk_R own is text sa s' := vk_R.warm hW0 hstr
  obtain ⟨U, hsteps, hrun, hend, hW, hsame, ce, hce, hO⟩ := X₁.ctorThrowS hexec htr (own := own) (cls := cls) (names := names) (ic := ic) hown' hcls hnames h (fun x hx => nomatch hx) hfX hkX hcellA (by rw [hhp, hT]; exact Nat.le_refl _) (msg := .ref sa) rfl
    (g := { method := m, pc := pc + 6, locals := ls, stack := .ref sa :: .ref T.heap.size :: .ref T.heap.size :: rest, locked := none }) rfl hsize rfl rfl (rest := rest) rfl
    (by rw [hb]; exact d6) (by rw [hb]; exact d9) hout hRframes (by simp only [List.map_cons, List.sum_cons, hcat]; omega) hlocks
  obtain ⟨f1, f2⟩ := vx_frame hsame
  rw [hhp] at f1 f2
  have hWs : s.WarmedH U.vm := State.WarmedH.trans hW0 hW
  have hcl : s.vm.findClass cls = some ce.cls := by
    have h9 := hO.cls
    rw [hvm] at h9
    exact h9
  have hall : s.sameButNew ({ U with vm := s.vm } : State) locs mc ms := by
    subst hA
    obtain ⟨e1, e2⟩ := hsame
    rw [State.setFrames_setFrames] at e1
    have h2 : (T.setVm s.vm).sameButNew ({ U with vm := s.vm } : State) [] (0 + 1) (0 + 6) := ⟨e1, e2⟩
    have h3 := X.same.trans h2
    rw [List.append_nil] at h3
    exact h3.mono hc hs
  refine ⟨U, ?_, .threw T.heap.size, hrun, hend, Or.inr ⟨T.heap.size, rfl, cls, ce, locs, hx U hWs.alike f1 (fun q hq => f2 q hq (fun z hz => nomatch hz)), hce, hO.vm, hcl, hWs, hall, hf⟩⟩
  refine st1 _ ?_
  show Steps p.tables e below (T1.setTop { method := m, pc := pc + 3, locals := ls, stack := .ref T.heap.size :: rest, locked := none }) _
  jvm_step X₁.here [X₁.here.top, hexec, d3', Value.category]
  exact X₁.ldcString hexec (own := own) (text := text) (index := is) (a := sa) hown' hstr'.1 hstr'.2
    (g := { method := m, pc := pc + 4, locals := ls, stack := .ref T.heap.size :: .ref T.heap.size :: rest, locked := none }) rfl d4' _ hsteps
/-- 'throw new E("text")', the text by a wide index -/
theorem vx_throwSW {cc : ByteArray} {pc : Nat} (hexec : p.tables.exec = Jvm.exec) (hb : c.code = cc) (hl : l.stackTraces = false) {own cls text : String} {names : List String} {ik is ic mc ms sa : Nat} {A : Nat → Prop}
    (hown : s.vm.findClass own = some m.cls) (hcls : Bundle.fit cls = true) (hnames : ∀ n ∈ names, Bundle.fit n = true)
    (hk : (Cond.classLink own ik cls).before args s = true) (hini : (Cond.initialized cls).before args s = true) (hstr : vk_R own is text sa s) (hat : ∀ w ∈ vx_atS own ic cls names, w.before args s = true)
    (hgood : ∀ w ∈ Cond.classLink own ik cls :: Cond.initialized cls :: vx_atS own ic cls names, vx_ot w = true)
    (hU : vx_Zq Bundle.tN "UNASSIGNED_STACK" Bundle.steD A s s.heap) (hN : vx_Zq Bundle.tN "SUPPRESSED_SENTINEL" Bundle.listD A s s.heap) (hS : va_S A s.heap H locs) (hsize : ls.size = c.maxLocals)
    (d0 : decode cc pc = .ok (.new ik, 3)) (d3 : decode cc (pc + 3) = .ok (.dup, 1)) (d4 : decode cc (pc + 4) = .ok (.ldc_w is, 3)) (d7 : decode cc (pc + 7) = .ok (.invokespecial ic, 3)) (d10 : decode cc (pc + 10) = .ok (.athrow, 1))
    (hout : ∀ x ∈ c.exceptionTable.toList, covers x (pc + 10) = false)
    (hRframes : names.length + 3 < R.frames) (hRlocals : (rest.map fun v => v.category).sum + (13 * (names.length + 1) + 43) ≤ R.locals) (hRcells : cells + 1 ≤ R.cells) (hRslots : slots + 6 ≤ R.slots) (hlocks : meth.locks = false)
    (hx : ∀ t : State, s.vm.Alike t.vm → H.size ≤ t.heap.size → (∀ q : Nat, q < H.size → t.heap[q]? = H[q]?) → XC cls s t)
    (hf : ∀ z ∈ locs, free z.base) (hc : cells + 1 ≤ mc) (hs : slots + 6 ≤ ms) :
    W p l e R s m args below meth c H locs cells slots (vx_MQ below Qc XC args s mc ms free) (F0 m pc ls rest) := by
  intro T hT X
  have htr : e.platform.stackTraces = false := (show e.platform.stackTraces = l.stackTraces by rw [X.admits.platform]).trans hl
  have Y := vx_rebase X (R' := { frames := R.frames, locals := R.locals, cells := 1, slots := 6 }) (Nat.le_refl _) (Nat.le_refl _) hRcells hRslots
  obtain ⟨s', hA⟩ : ∃ z, z = (T.setVm s.vm).setFrames (.invoking m args :: below) := ⟨_, rfl⟩
  rw [← hA] at Y
  have hvm : s'.vm = s.vm := by rw [hA]; rfl
  have hhp : s'.heap = H := by rw [hA]; exact hT
  have hW0 : s.WarmedH s'.vm := by rw [hvm]; exact State.WarmedH.refl s
  have hat' : ∀ w ∈ vx_atS own ic cls names, w.before args s' = true := fun w hw => vx_ot_at hW0 hvm.symm (hgood w (List.mem_cons_of_mem _ (List.mem_cons_of_mem _ hw))) (hat w hw)
  have hk' : (Cond.classLink own ik cls).before args s' = true := vx_ot_at hW0 hvm.symm (hgood _ List.mem_cons_self) hk
  have hini' : (Cond.initialized cls).before args s' = true := vx_ot_at hW0 hvm.symm (hgood _ (List.mem_cons_of_mem _ List.mem_cons_self)) hini
  have hU' : vx_Zq Bundle.tN "UNASSIGNED_STACK" Bundle.steD A s' s'.heap := by rw [hhp]; exact vx_Zq.moved hW0.alike (hU.kept hS.2.1)
  have hN' : vx_Zq Bundle.tN "SUPPRESSED_SENTINEL" Bundle.listD A s' s'.heap := by rw [hhp]; exact vx_Zq.moved hW0.alike (hN.kept hS.2.1)
  have h : ∀ w ∈ Bundle.ownAtoms own ic cls names, w.before args s' = true := vx_own hat' (vx_isRefq hU'.1) (vx_isRefq hN'.1) hU'.2.word hN'.2.word
  have hown' : s'.vm.findClass own = some m.cls := by rw [hvm]; exact hown
  have hins : (Cond.instantiable cls 6).before args s' = true := h _ (by simp [Bundle.ownAtoms])
  obtain ⟨vm₁, cX, kX, hfX, hkX, -, -, X₁, st1⟩ := Y.newCold hexec (own := own) (C := cls) (index := ik) (n := 6) hown' hk' hins hini'
    (g := F0 m pc ls rest) rfl (by rw [hb]; exact d0) (Nat.le_refl _) (Nat.le_refl _)
  generalize hT1 : (T.setVm vm₁).pushCell { cls := cX, slots := kX.instanceTypes.map defaultValue, vm := .none } = T1 at X₁ st1
  have hcat : (Value.ref T.heap.size).category = 1 := rfl
  have hcellA : T1.heap[T.heap.size]? = some (freshCell cX kX) := by rw [← hT1]; exact State.heap_pushCell_size _ _
  have d3' : decode c.code (pc + 3) = .ok (.dup, 1) := by rw [hb]; exact d3
  have d4' : decode c.code (pc + 4) = .ok (.ldc_w is, 3) := by rw [hb]; exact d4
  have hstr' : vk_R own is text sa s' := vk_R.warm hW0 hstr
  obtain ⟨U, hsteps, hrun, hend, hW, hsame, ce, hce, hO⟩ := X₁.ctorThrowS hexec htr (own := own) (cls := cls) (names := names) (ic := ic) hown' hcls hnames h (fun x hx => nomatch hx) hfX hkX hcellA (by rw [hhp, hT]; exact Nat.le_refl _) (msg := .ref sa) rfl
    (g := { method := m, pc := pc + 7, locals := ls, stack := .ref sa :: .ref T.heap.size :: .ref T.heap.size :: rest, locked := none }) rfl hsize rfl rfl (rest := rest) rfl
    (by rw [hb]; exact d7) (by rw [hb]; exact d10) hout hRframes (by simp only [List.map_cons, List.sum_cons, hcat]; omega) hlocks
  obtain ⟨f1, f2⟩ := vx_frame hsame
  rw [hhp] at f1 f2
  have hWs : s.WarmedH U.vm := State.WarmedH.trans hW0 hW
  have hcl : s.vm.findClass cls = some ce.cls := by
    have h9 := hO.cls
    rw [hvm] at h9
    exact h9
  have hall : s.sameButNew ({ U with vm := s.vm } : State) locs mc ms := by
    subst hA
    obtain ⟨e1, e2⟩ := hsame
    rw [State.setFrames_setFrames] at e1
    have h2 : (T.setVm s.vm).sameButNew ({ U with vm := s.vm } : State) [] (0 + 1) (0 + 6) := ⟨e1, e2⟩
    have h3 := X.same.trans h2
    rw [List.append_nil] at h3
    exact h3.mono hc hs
  refine ⟨U, ?_, .threw T.heap.size, hrun, hend, Or.inr ⟨T.heap.size, rfl, cls, ce, locs, hx U hWs.alike f1 (fun q hq => f2 q hq (fun z hz => nomatch hz)), hce, hO.vm, hcl, hWs, hall, hf⟩⟩
  refine st1 _ ?_
  show Steps p.tables e below (T1.setTop { method := m, pc := pc + 3, locals := ls, stack := .ref T.heap.size :: rest, locked := none }) _
  jvm_step X₁.here [X₁.here.top, hexec, d3', Value.category]
  exact X₁.ldcStringW hexec (own := own) (text := text) (index := is) (a := sa) hown' hstr'.1 hstr'.2
    (g := { method := m, pc := pc + 4, locals := ls, stack := .ref T.heap.size :: .ref T.heap.size :: rest, locked := none }) rfl d4' _ hsteps
end Ends
section Bodies
variable {l : Launch}
theorem vx_ofW {y : MethodName} {ws ws' : List Cond} {rm : Room} {Pc : Array Value → State → Prop} {Qc : Array Value → State → Outcome → State → Prop} {XC : String → State → State → Prop} {mc ms : Nat} {free : Addr → Prop} {cc : ByteArray} {maxL : Nat} {ret : Option FieldType}
    (hy : plainName y.cls = true) (hw : ws = Cond.code y cc maxL ret :: ws')
    (body : ∀ p e s m args below meth c s₁, BodyLoose p l y (headSpec ws rm) cc maxL ret e s m args below meth c s₁ → c.maxLocals = maxL → (∀ x ∈ c.exceptionTable.toList, False) → Pc args s →
      W p l e (headSpec ws rm).room s m args below meth c s.heap [] 0 0 (vx_MQ below Qc XC args s mc ms free) (entryFrame m args maxL)) : vx_Met l y ws rm Pc Qc XC mc ms free := by
  refine MetFree.of_bodyS (code := cc) (maxLocals := maxL) (ret := ret) hy ?_ ?_
  · intro args s m h hn
    obtain ⟨meth, c, h1, h2, h3, h4, h5, h6, -, -⟩ := Cond.code_spec hn (atoms_spec (ws := ws) h _ (by rw [hw]; exact List.mem_cons_self))
    exact ⟨meth, c, h1, h2, h3, h4, h5, h6⟩
  · intro p e s m args below meth c s₁ B hml hP _
    have hh0 : s₁.heap = s.heap := by rw [B.state]; rfl
    have ht : ∀ x ∈ c.exceptionTable.toList, False := by
      obtain ⟨meth9, c9, h1, h2, -, -, -, -, h7, -⟩ := Cond.code_spec B.named (atoms_spec (ws := ws) B.pre _ (by rw [hw]; exact List.mem_cons_self))
      cases Option.some.inj (h1.symm.trans B.method)
      cases Option.some.inj (h2.symm.trans (Stand.of_body B).code)
      intro x hx
      rw [Array.isEmpty_iff.mp h7] at hx
      cases hx
    obtain ⟨t, a1, o, b1, b2, b3⟩ := body p e s m args below meth c s₁ B hml ht hP s₁ hh0 (Stand.of_body B)
    exact ⟨t, o, a1, b1, b2, b3⟩
/-- the table of a body with handlers -/
theorem vx_table {p : Program} {x y : MethodName} {S : Spec} {cc bytes : ByteArray} {maxL maxL' : Nat} {ret ret' : Option FieldType} {e : Env} {s s₁ : State} {m : MethodId} {args : Array Value} {below : List Frame} {meth : Method} {c : Code} {hh : List (Nat × Nat × Nat × Nat)}
    (B : BodyLoose p l y S cc maxL ret e s m args below meth c s₁) (h : (Cond.codeWith y bytes maxL' ret' hh).before args s = true) : c.exceptionTable.toList = tableOf hh := by
  obtain ⟨m9, meth9, c9, hn9, h1, h2, -, -, h6, -⟩ := Cond.codeWith_spec h
  cases Option.some.inj (hn9.symm.trans B.named)
  cases Option.some.inj (h1.symm.trans B.method)
  cases Option.some.inj (h2.symm.trans (Stand.of_body B).code)
  rw [← h6, table_eq]
end Bodies
end VXA
/-! ===== END ===== -/
/-! ===== BEGIN a static call of a method with an exception table ===== -/
section VXS
variable {p : Program} {l : Launch} {e : Env} {R : Room} {s : State} {m : MethodId} {args : Array Value} {below : List Frame} {meth : Method} {c : Code} {T : State} {H : Heap} {locs : List Loc} {cells slots : Nat}
abbrev vx_CSW (R : Room) (s : State) (args : Array Value) (own : String) (index : Nat) (y : MethodName) (bytes : ByteArray) (maxL : Nat) (ret : Option FieldType) (hh : List (Nat × Nat × Nat × Nat)) (ws : List Cond) (rm : Room) (mc ms n : Nat) : Prop :=
  (rm.cells = mc ∧ rm.slots = ms ∧ rm.frames + 1 ≤ R.frames ∧ 8 + (maxL + 11) + rm.locals ≤ R.locals ∧ (∀ w ∈ ws, ∀ (a' : Array Value) (U : State), s.WarmedH U.vm → w.before a' U = true) ∧ Cond.codeWith y bytes maxL ret hh ∈ ws) ∧
  (Cond.codeWith y bytes maxL ret hh).before args s = true ∧ (Cond.initialized y.cls).before args s = true ∧ (y.cls ≠ "java/lang/invoke/MethodHandle" ∧ y.cls ≠ "java/lang/invoke/VarHandle") ∧
  (∀ sig, parseMethodDescriptor y.desc = some sig → n = sig.parameters.length) ∧ (Cond.methodLink own index y).before args s = true ∧ (Cond.static y).before args s = true
theorem vx_cwSW {own : String} {index maxL mc ms : Nat} {y : MethodName} {bytes : ByteArray} {ret : Option FieldType} {hh : List (Nat × Nat × Nat × Nat)} {Ts ws ws' : List Cond} {rm : Room} (n : Nat) (ht : ∀ w ∈ Ts, w.before args s = true) (hT : GoodIn Ts (va_wsS own index y ws)) (hw : ws = Cond.codeWith y bytes maxL ret hh :: ws') (hrc : rm.cells = mc) (hrs : rm.slots = ms)
    (hd : y.cls ≠ "java/lang/invoke/MethodHandle" ∧ y.cls ≠ "java/lang/invoke/VarHandle" ∧ (parseMethodDescriptor y.desc).map (fun d => d.parameters.length) = some n) (hR : rm.frames + 1 ≤ R.frames ∧ 8 + (maxL + 11) + rm.locals ≤ R.locals) :
    vx_CSW R s args own index y bytes maxL ret hh ws rm mc ms n := by
  have ok : ∀ w ∈ va_wsS own index y ws, w.before args s = true := fun w h => ht w (hT w h).1
  have hG : GoodIn Ts ws := fun w h => hT w (by unfold va_wsS; exact List.mem_append_right _ h)
  have hc : Cond.codeWith y bytes maxL ret hh ∈ ws := by rw [hw]; exact List.mem_cons_self
  refine ⟨⟨hrc, hrs, hR.1, hR.2, pay_in ht hG, hc⟩, ht _ (hG _ hc).1, ok _ (by simp [va_wsS]), ⟨hd.1, hd.2.1⟩, fun sig h => ?_, ok _ (by simp [va_wsS]), ok _ (by simp [va_wsS])⟩
  have h2 := hd.2.2
  rw [h] at h2
  exact (Option.some.inj h2).symm
theorem vx_callSW (X : Stand p l e R s m args below meth c T locs cells slots) (hexec : p.tables.exec = Jvm.exec) {own : String} {index : Nat} {y : MethodName} {bytes : ByteArray} {maxL : Nat} {ret : Option FieldType} {hh : List (Nat × Nat × Nat × Nat)}
    (hown : s.vm.findClass own = some m.cls) (hlink : (Cond.methodLink own index y).before args s = true) (hstat : (Cond.static y).before args s = true) (hinit : (Cond.initialized y.cls).before args s = true)
    (hcode : (Cond.codeWith y bytes maxL ret hh).before args s = true) (hy : y.cls ≠ "java/lang/invoke/MethodHandle" ∧ y.cls ≠ "java/lang/invoke/VarHandle")
    {W9 : Nat} {Pre : Pt → Array Value → Prop} {Post : Pt → Array Value → Option Value → Pt → Prop} (hK : Back l R p e below s args y 3 W9 Pre Post)
    {g : JFrame} (hg : g.method = m) (hsize : g.locals.size = c.maxLocals) {argsL rest : List Value} (hlen : ∀ sig, parseMethodDescriptor y.desc = some sig → argsL.length = sig.parameters.length)
    (hstack : g.stack = argsL.reverse ++ rest) (hW : 2 * g.monitorRoom + (rest.map fun v => v.category).sum ≤ W9) (hdg : decode c.code g.pc = .ok (.invokestatic index, 3))
    (hpre : ∀ vm₁, s.WarmedH vm₁ → Pre ⟨T.setVm vm₁, locs, cells, slots⟩ argsL.toArray) :
    ∃ (v : Option Value) (vm₁ : Vm) (B : Pt), s.WarmedH vm₁ ∧ Stand p l e R s m args below meth c B.U B.locs B.cells B.slots ∧ Post ⟨T.setVm vm₁, locs, cells, slots⟩ argsL.toArray v B ∧
      ∀ target, Steps p.tables e below (B.U.setTop { g with pc := g.pc + 3, stack := v.toList ++ rest }) target → Steps p.tables e below (T.setTop g) target := by
  obtain ⟨mk, methM, cM, hnamed, hmethM, -, -, -, -, -, -, hsigM⟩ := Cond.codeWith_spec hcode
  have hstatic : methM.isStatic = true := Cond.static_spec hnamed hmethM hstat
  obtain ⟨kP, hkP, -⟩ := className_of_methodNamed hnamed
  have hinitP : kP.init = .initialized := Cond.initialized_spec (findClass_of_methodNamed hnamed) hkP hinit
  obtain ⟨vm₁, X₁, hstep₁⟩ := X.invokestatic hexec hown hlink hnamed hmethM hstatic hkP hinitP hy (g := g) hg (argsL := argsL) (rest := rest) (hlen _ hsigM) hstack hdg
  obtain ⟨v, B, X', hpost, hsteps⟩ := hK m meth c ⟨T.setVm vm₁, locs, cells, slots⟩ { g with stack := rest } (.invokestatic index) mk argsL.toArray X₁ hg hsize hdg hW (X₁.named hnamed) (hpre vm₁ X₁.warmed)
  exact ⟨v, vm₁, B, X₁.warmed, X', hpost, fun target h => hstep₁ _ fun acts => by rw [doInvoke_state]; exact hsteps.trans h⟩
theorem vx_runSW {y : MethodName} {bytes cc : ByteArray} {maxL nL mc ms n index : Nat} {ret : Option FieldType} {hh : List (Nat × Nat × Nat × Nat)} {ws : List Cond} {rm : Room} {Pc : Array Value → State → Prop} {Qc : Array Value → State → Outcome → State → Prop} {free : Addr → Prop} {Ts : List Cond} {own : String} {As rest : List Value} {g : JFrame}
    (S : CallFix p m c cc nL s args Ts own) (hM : Met l y ws rm Pc Qc mc ms free) (cw : vx_CSW R s args own index y bytes maxL ret hh ws rm mc ms n) (hp : PreS s H Pc As)
    (hg : g.method = m) (hn : As.length = n) (hsize : g.locals.size = nL) (hstack : g.stack = As.reverse ++ rest) (hW : 2 * g.monitorRoom + (rest.map fun v => v.category).sum ≤ 8) (hdg : decode cc g.pc = .ok (.invokestatic index, 3)) (hf : cells + mc ≤ R.cells ∧ slots + ms ≤ R.slots) :
    va_Run p l e R s m args below meth c H locs cells slots mc ms g rest (Qc As.toArray) (free) := by
  obtain ⟨⟨hrc, hrs, hfr, hlo, hws, hcw⟩, hcode, hini, hy, hlen, hl, hstt⟩ := cw
  have hK : Back l R p e below s args y 3 8 (PreOf R mc ms Pc) (PostOf Qc mc ms free) := va_backW (hh := hh) (bytes := bytes) (maxL := maxL) (ret := ret) hM hp.1 hrc hrs hfr hlo hws hcw (fun a' U hW => word_at hW (Or.inl (by first | rfl | simp [Cond.onTables, Cond.keeps, Cond.steady])) hini)
  obtain ⟨hx, hb, hml, ho, -⟩ := S
  intro T hT X
  obtain ⟨v, vm₁, ⟨U', l2, c2, s2⟩, hW₁, X', ⟨g', mk, t, L, e1, e2, hq, h1, hL, h2, h3⟩, st⟩ := vx_callSW X hx (hh := hh) (bytes := bytes) (maxL := maxL) (ret := ret) ho hl hstt hini hcode hy hK hg (hsize.trans hml.symm) (argsL := As) (rest := rest) (fun sig h => hn.trans (hlen sig h)) hstack hW (by rw [hb]; exact hdg)
    (fun vm₁ hW₁ => ⟨hf.1, hf.2, hp.2 (T.setVm vm₁) hT hW₁⟩)
  dsimp only [Pt.U, Pt.locs, Pt.cells, Pt.slots] at X' e1 e2 h1 h2 h3 st
  subst h1; subst h2; subst h3
  exact ⟨v, (T.setVm vm₁).calling g' mk As.toArray, t, U', L, hT, X', hL, e1, e2, hq, st⟩
/-- not caught here, past rows that name other classes: it goes on to the caller -/
theorem vx_outP {p : Program} {l : Launch} {e : Env} {R : Room} {s : State} {m : MethodId} {args : Array Value} {below : List Frame} {meth : Method} {c : Code} {H : Heap} {locs : List Loc} {cells slots : Nat} {free : Addr → Prop} {ls : Array Slot} {rest : List Value} {Qc : Array Value → State → Outcome → State → Prop} {XC : String → State → State → Prop}
    {pc : Nat} {own E : String} {ce : Cell} {q : Addr} {mc ms : Nat} (hown : s.vm.findClass own = some m.cls) (hlocks : meth.locks = false)
    (hpass : ∀ z ∈ c.exceptionTable.toList, covers z pc = false ∨ (z.catchType ≠ 0 ∧ ∃ nm : String, (Cond.classLink own z.catchType nm).before args s = true ∧ va_Nc E nm s)) (hcell : H[q]? = some ce) (hv : ce.vm = .none) (hcl : s.vm.findClass E = some ce.cls)
    (hx : ∀ t : State, t.heap = H → s.vm.Alike t.vm → XC E s t) (hf : ∀ z ∈ locs, free z.base) (hc : cells ≤ mc) (hs : slots ≤ ms) :
    vx_W p l e R s m args below meth c H locs cells slots (vx_MQ below Qc XC args s mc ms free) (F0 m pc ls rest) q := by
  intro T hT X
  have hpl : e.platform.magicAccessors = ({} : Platform).magicAccessors := by rw [X.admits.platform]
  obtain ⟨vm', hW', X', st⟩ := X.outThrough hlocks q (g := F0 m pc ls rest) rfl rfl rfl (cell := ce) (by rw [hT]; exact hcell) (by rw [hv]; rfl)
    (by obtain ⟨k9, h9, -⟩ := Vm.findClass_spec hcl; exact ⟨k9, h9⟩) (fun z hz => by
      rcases hpass z hz with h | ⟨hz0, nm, hl1, hn1⟩
      · exact Or.inl h
      · obtain ⟨c6, hc6, hcl6⟩ := Cond.classLink_spec hown hl1 e.platform hpl
        obtain ⟨a8, b8, h1, h2, h3⟩ := hn1
        cases Option.some.inj (h1.symm.trans hcl)
        cases Option.some.inj (h2.symm.trans hc6)
        exact Or.inr ⟨hz0, _, hcl6, h3⟩)
  obtain ⟨g₀, hfr⟩ := X'.frames_eq
  have hcell9 : ((T.setVm vm').setFrames (.throwing q :: below)).heap[q]? = some ce := by
    show T.heap[q]? = some ce
    rw [hT]; exact hcell
  have hend : Ended ((T.setVm vm').setFrames (.throwing q :: below)) below (.threw q) := State.frames_setFrames _ (State.cur_lt_of_frames hfr)
  refine ⟨(T.setVm vm').setFrames (.throwing q :: below), ?_, .threw q, X'.here.running, hend, Or.inr ⟨q, rfl, E, ce, locs, hx _ hT (X'.ends _).1.alike, hcell9, hv, hcl, (X'.ends _).1, (X'.ends _).2.mono hc hs, hf⟩⟩
  rw [X.pushThrowing_eq]
  exact st
/-- a thing of a world lies in the heap -/
theorem vx_lt {D : va_G} {cl : List vw_C} {ws : va_W} {H1 : Heap} (h : va_P D cl ws H1) {k : Nat} {q : Nat × va_E} (hk : ws[k]? = some q) : q.1 < H1.size := (h k q hk).lt
end VXS
/-! ===== END ===== -/
/-! ===== BEGIN methods with a table of their own: called by a name, returning or throwing ===== -/
section VXH
/-! vx_backW, vx_callVX, vx_callSX, vx_callVW, vx_runVW, vx_runVX, vx_runSX, vx_ofWH follow the same proofs as their sisters above (Free/Laws.lean, Shelf42/LK1.lean); vx_outP calls Shelf42/NT130.lean (outThrough). -/
section
variable {l : Launch} {R : Room} {p : Program} {e : Env} {below : List Frame} {s : State} {sargs : Array Value} {y : MethodName} {len W9 : Nat}
theorem vx_backW {ws : List Cond} {rm : Room} {Pc : Array Value → State → Prop} {Qc : Array Value → State → Outcome → State → Prop} {XC : String → State → State → Prop} {mc ms : Nat} {free : Addr → Prop} {bytes : ByteArray} {maxL : Nat} {ret : Option FieldType} {hh : List (Nat × Nat × Nat × Nat)}
    (hM : vx_Met l y ws rm Pc Qc XC mc ms free) (hblind : FrameBlind Pc) (hrc : rm.cells = mc) (hrs : rm.slots = ms)
    (hframes : rm.frames + 1 ≤ R.frames) (hlocals : W9 + (maxL + 11) + rm.locals ≤ R.locals)
    (hws : ∀ w ∈ ws, ∀ a' U, s.WarmedH U.vm → w.before a' U = true) (hcode : Cond.codeWith y bytes maxL ret hh ∈ ws) (hinit : ∀ a' U, s.WarmedH U.vm → (Cond.initialized y.cls).before a' U = true) :
    vx_Back l R p e below s sargs y len W9 (PreOf R mc ms Pc) (PostOf Qc mc ms free) (vx_Post XC mc ms free) := by
  intro m meth c A g ig mk a X hg hsize hdg hW hn hp
  have h1 : (headSpec ws rm).pre.before a A.U = true := atoms_intro fun w hw => hws w hw _ _ X.warmed
  have h2 : (Cond.codeWith y bytes maxL ret hh).before a A.U = true := hws _ hcode _ _ X.warmed
  have h3 : (Cond.initialized y.cls).before a A.U = true := hinit _ _ X.warmed
  have h4 : A.cells + (headSpec ws rm).room.cells ≤ R.cells := by rw [show (headSpec ws rm).room.cells = mc from hrc]; exact hp.1
  have h5 : A.slots + (headSpec ws rm).room.slots ≤ R.slots := by rw [show (headSpec ws rm).room.slots = ms from hrs]; exact hp.2.1
  have hPc : Pc a (A.U.calling g mk a) := hblind _ _ _ _ hp.2.2
  obtain ⟨U, Ls, c0, s0⟩ := A
  dsimp only [Pt.U, Pt.locs, Pt.cells, Pt.slots] at h1 h2 h3 h4 h5 X hn hPc ⊢
  obtain ⟨m9, methY, cY, hn9, hmY, hcY, -, hlY, -⟩ := Cond.codeWith_spec h2
  cases Option.some.inj (hn9.symm.trans hn)
  obtain ⟨kY, hkY, -⟩ := className_of_methodNamed hn
  have hinitY : kY.init = .initialized := Cond.initialized_spec (findClass_of_methodNamed hn) hkY h3
  have h : At U g.method c below := by rw [hg]; exact X.here
  have hlocals9 : W9 + (maxL + 11) + (headSpec ws rm).room.locals ≤ R.locals := hlocals
  have happ : (headSpec ws rm).appliesLoose y e.platform (U.calling g mk a) = true :=
    Spec.appliesLoose_calling (g := g) h hdg hn hkY hinitY
      (X.room_calling (g := g) (R' := (headSpec ws rm).room) hsize hmY hcY hframes (by rw [hlY]; omega) h4 h5) h1
  obtain ⟨mid, hmid⟩ := h.above
  have hfr : (U.setTop g).frames = (.java g :: mid) ++ below := by rw [State.frames_setTop' g h.top, hmid]; rfl
  obtain ⟨o, s₂, hsteps, -, hend, hq⟩ := Steps.callFree hM p X.admits X.cas X.clock (acts := []) hfr happ hPc trivial
  have hq' : vx_Q Qc XC mc ms free a (U.calling g mk a) o s₂ := hq
  rw [State.frames_setTop' g h.top] at hend
  obtain ⟨g₀, hg0⟩ := Option.isSome_iff_exists.mp h.top
  obtain ⟨r, hr⟩ := State.topJava?_eq_some.mp hg0
  have hr' : (({ U with heap := s₂.heap, slotsUsed := s₂.slotsUsed } : State).setVm s₂.vm).frames = .java g₀ :: r := hr
  rcases hq' with ⟨hqc, L, hfe, hL⟩ | ⟨q, rfl, E, ce, L, hx, hce, hcv, hcl, hW₂, hsm, hL⟩
  · obtain ⟨⟨v, rfl⟩, hW₂, e2, q2, q3, q4, q5, q6⟩ := id hfe
    have e3 : s₂ = ({ (U.calling g mk a).setFrames s₂.frames with heap := s₂.heap, slotsUsed := s₂.slotsUsed } : State).setVm s₂.vm := by
      have : s₂ = ({ s₂ with vm := (U.calling g mk a).vm } : State).setVm s₂.vm := rfl
      rw [e2] at this
      exact this
    obtain ⟨c₂, i₂, len₂, hc₂, hd₂, hf₂⟩ := hend
    have hW' : U.WarmedH s₂.vm := hW₂
    have hcc : c₂ = c := by
      have h1 : s₂.code? g.method = U.code? g.method := by
        rw [State.code?_eq, State.code?_eq, hW'.alike.method?]
      exact Option.some.inj (hc₂.symm.trans (h1.trans h.code))
    subst hcc
    have hlen : len₂ = len := by rw [hdg] at hd₂; cases hd₂; rfl
    subst hlen
    have hs₂ : s₂ = (({ U with heap := s₂.heap, slotsUsed := s₂.slotsUsed } : State).setVm s₂.vm).setTop { g with pc := g.pc + len₂, stack := v.toList ++ g.stack } := by
      refine e3.trans ?_
      rw [hf₂, State.calling_eq h.top, State.setFrames_setFrames, State.setTop_of_frames _ hr', hr]
      rfl
    have hsame : U.sameButNew ({ U with heap := s₂.heap, slotsUsed := s₂.slotsUsed } : State) L mc ms := by
      refine ⟨?_, q2, q3, q4, q5, q6⟩
      obtain ⟨t, ht, -⟩ := State.frames_cons hr
      show ({ U with heap := s₂.heap, slotsUsed := s₂.slotsUsed } : State) = { U.setFrames U.frames with heap := s₂.heap, slotsUsed := s₂.slotsUsed }
      rw [State.setFrames_self ht]
    subst hg
    refine Or.inl ⟨v, ⟨(({ U with heap := s₂.heap, slotsUsed := s₂.slotsUsed } : State).setVm s₂.vm), Ls ++ L, c0 + mc, s0 + ms⟩,
      ⟨X.admits, X.cas, X.clock, X.frames, X.room, X.hears, X.method, X.code, (X.here.setHeapUsed s₂.heap s₂.slotsUsed).setVm hW'.alike, X.tail, State.WarmedH.trans X.warmed hW', X.limits, X.bytes, X.same.trans (hsame.setVm s.vm)⟩,
      ⟨g, mk, s₂, L, rfl, rfl, hqc, rfl, hL, rfl, rfl⟩, ?_⟩
    show Steps p.tables e below _ ((({ U with heap := s₂.heap, slotsUsed := s₂.slotsUsed } : State).setVm s₂.vm).setTop { g with pc := g.pc + len₂, stack := v.toList ++ g.stack })
    rw [← hs₂]
    exact hsteps
  · obtain ⟨e2, q2, q3, q4, q5, q6⟩ := id hsm
    have e3 : s₂ = ({ (U.calling g mk a).setFrames s₂.frames with heap := s₂.heap, slotsUsed := s₂.slotsUsed } : State).setVm s₂.vm := by
      have : s₂ = ({ s₂ with vm := (U.calling g mk a).vm } : State).setVm s₂.vm := rfl
      rw [e2] at this
      exact this
    have hf₂ : s₂.frames = .throwing q :: .java g :: U.frames.tail := hend
    have hW' : U.WarmedH s₂.vm := hW₂
    have hs₂ : s₂ = ((({ U with heap := s₂.heap, slotsUsed := s₂.slotsUsed } : State).setVm s₂.vm).setTop g).pushFrame (.throwing q) := by
      refine e3.trans ?_
      rw [hf₂, State.calling_eq h.top, State.setFrames_setFrames, State.pushFrame, State.frames_setTop _ hr', State.setTop_of_frames _ hr', State.setFrames_setFrames, hr]
      rfl
    have hsame : U.sameButNew ({ U with heap := s₂.heap, slotsUsed := s₂.slotsUsed } : State) L mc ms := by
      refine ⟨?_, q2, q3, q4, q5, q6⟩
      obtain ⟨t, ht, -⟩ := State.frames_cons hr
      show ({ U with heap := s₂.heap, slotsUsed := s₂.slotsUsed } : State) = { U.setFrames U.frames with heap := s₂.heap, slotsUsed := s₂.slotsUsed }
      rw [State.setFrames_self ht]
    subst hg
    refine Or.inr ⟨q, ⟨(({ U with heap := s₂.heap, slotsUsed := s₂.slotsUsed } : State).setVm s₂.vm), Ls ++ L, c0 + mc, s0 + ms⟩,
      ⟨X.admits, X.cas, X.clock, X.frames, X.room, X.hears, X.method, X.code, (X.here.setHeapUsed s₂.heap s₂.slotsUsed).setVm hW'.alike, X.tail, State.WarmedH.trans X.warmed hW', X.limits, X.bytes, X.same.trans (hsame.setVm s.vm)⟩,
      ⟨g, mk, s₂, L, E, ce, rfl, rfl, hx, hce, hcv, hcl, rfl, hL, rfl, rfl⟩, ?_⟩
    show Steps p.tables e below _ (((({ U with heap := s₂.heap, slotsUsed := s₂.slotsUsed } : State).setVm s₂.vm).setTop g).pushFrame (.throwing q))
    rw [← hs₂]
    exact hsteps
end
variable {p : Program} {l : Launch} {e : Env} {R : Room} {s : State} {m : MethodId} {args : Array Value} {below : List Frame} {meth : Method} {c : Code} {T : State} {H : Heap} {locs : List Loc} {cells slots : Nat}
theorem vx_callVX (X : Stand p l e R s m args below meth c T locs cells slots) (hexec : p.tables.exec = Jvm.exec) {own C : String} {index : Nat} {y : MethodName} {bytes : ByteArray} {maxL : Nat} {ret : Option FieldType} {hh : List (Nat × Nat × Nat × Nat)}
    (hown : s.vm.findClass own = some m.cls) (hlink : (Cond.methodLink own index y).before args s = true) (hinst : (Cond.instanceMethod y).before args s = true) (hsel : (Cond.selects C y y).before args s = true)
    (hcode : (Cond.codeWith y bytes maxL ret hh).before args s = true) (hy : y.cls ≠ "java/lang/invoke/MethodHandle" ∧ y.cls ≠ "java/lang/invoke/VarHandle")
    {W9 : Nat} {Pre : Pt → Array Value → Prop} {Post : Pt → Array Value → Option Value → Pt → Prop} {PostX : Pt → Array Value → Addr → Pt → Prop} (hK : vx_Back l R p e below s args y 3 W9 Pre Post PostX)
    {b : Addr} {cellB : Cell} (hcell : T.heap[b]? = some cellB) (hobj : cellB.vm.isStatics = false) (hcls : s.vm.findClass C = some cellB.cls)
    {g : JFrame} (hg : g.method = m) (hsize : g.locals.size = c.maxLocals) {argsL rest : List Value} (hlen : ∀ sig, parseMethodDescriptor y.desc = some sig → argsL.length = sig.parameters.length)
    (hstack : g.stack = argsL.reverse ++ .ref b :: rest) (hW : 2 * g.monitorRoom + (rest.map fun v => v.category).sum ≤ W9) (hdg : decode c.code g.pc = .ok (.invokevirtual index, 3))
    (hpre : ∀ vm₁, s.WarmedH vm₁ → Pre ⟨T.setVm vm₁, locs, cells, slots⟩ (Value.ref b :: argsL).toArray) :
    (∃ (v : Option Value) (vm₁ : Vm) (B : Pt), s.WarmedH vm₁ ∧ Stand p l e R s m args below meth c B.U B.locs B.cells B.slots ∧ Post ⟨T.setVm vm₁, locs, cells, slots⟩ (Value.ref b :: argsL).toArray v B ∧
      ∀ target, Steps p.tables e below (B.U.setTop { g with pc := g.pc + 3, stack := v.toList ++ rest }) target → Steps p.tables e below (T.setTop g) target) ∨
    (∃ (q : Addr) (vm₁ : Vm) (B : Pt), s.WarmedH vm₁ ∧ Stand p l e R s m args below meth c B.U B.locs B.cells B.slots ∧ PostX ⟨T.setVm vm₁, locs, cells, slots⟩ (Value.ref b :: argsL).toArray q B ∧
      Steps p.tables e below (T.setTop g) ((B.U.setTop { g with stack := rest }).pushFrame (.throwing q))) := by
  obtain ⟨mk, methM, hnamed, hmethM, hstM, habM⟩ := Cond.instanceMethod_spec hinst
  obtain ⟨m8, methM', cM, hn8, hmethM', -, -, -, -, -, -, hsigM⟩ := Cond.codeWith_spec hcode
  cases Option.some.inj (hn8.symm.trans hnamed)
  cases hmethM.symm.trans hmethM'
  obtain ⟨c2, r2, m2, q1, q2, q3, q4, kP, hkP, hkPi⟩ := Cond.selects_spec hsel
  cases hcls.symm.trans q1
  cases (State.methodFound?_of_named hnamed hy).symm.trans q2
  cases hnamed.symm.trans q3
  have hselP : selectMethod e.platform s.vm cellB.cls mk = .method mk := by rw [Launch.admits_selectMethod X.admits]; exact q4
  obtain ⟨vm₁, X₁, hstep₁⟩ := X.invokevirtual hexec hown hlink hnamed hmethM hstM hkP hkPi hy (a := b) (cell := cellB) hcell
    (fun z h => by rw [h] at hobj; cases hobj) hselP hmethM habM hkP hkPi (g := g) hg (argsL := argsL) (rest := rest) (hlen _ hsigM) hstack hdg
  rcases hK m meth c ⟨T.setVm vm₁, locs, cells, slots⟩ { g with stack := rest } (.invokevirtual index) mk (Value.ref b :: argsL).toArray X₁ hg hsize hdg hW (X₁.named hnamed) (hpre vm₁ X₁.warmed) with ⟨v, B, X', hpost, hsteps⟩ | ⟨q, B, X', hpost, hsteps⟩
  · exact Or.inl ⟨v, vm₁, B, X₁.warmed, X', hpost, fun target h => hstep₁ _ fun acts => by rw [doInvoke_state]; exact hsteps.trans h⟩
  · exact Or.inr ⟨q, vm₁, B, X₁.warmed, X', hpost, hstep₁ _ fun acts => by rw [doInvoke_state]; exact hsteps⟩
theorem vx_callSX (X : Stand p l e R s m args below meth c T locs cells slots) (hexec : p.tables.exec = Jvm.exec) {own : String} {index : Nat} {y : MethodName} {bytes : ByteArray} {maxL : Nat} {ret : Option FieldType} {hh : List (Nat × Nat × Nat × Nat)}
    (hown : s.vm.findClass own = some m.cls) (hlink : (Cond.methodLink own index y).before args s = true) (hstat : (Cond.static y).before args s = true) (hinit : (Cond.initialized y.cls).before args s = true)
    (hcode : (Cond.codeWith y bytes maxL ret hh).before args s = true) (hy : y.cls ≠ "java/lang/invoke/MethodHandle" ∧ y.cls ≠ "java/lang/invoke/VarHandle")
    {W9 : Nat} {Pre : Pt → Array Value → Prop} {Post : Pt → Array Value → Option Value → Pt → Prop} {PostX : Pt → Array Value → Addr → Pt → Prop} (hK : vx_Back l R p e below s args y 3 W9 Pre Post PostX)
    {g : JFrame} (hg : g.method = m) (hsize : g.locals.size = c.maxLocals) {argsL rest : List Value} (hlen : ∀ sig, parseMethodDescriptor y.desc = some sig → argsL.length = sig.parameters.length)
    (hstack : g.stack = argsL.reverse ++ rest) (hW : 2 * g.monitorRoom + (rest.map fun v => v.category).sum ≤ W9) (hdg : decode c.code g.pc = .ok (.invokestatic index, 3))
    (hpre : ∀ vm₁, s.WarmedH vm₁ → Pre ⟨T.setVm vm₁, locs, cells, slots⟩ argsL.toArray) :
    (∃ (v : Option Value) (vm₁ : Vm) (B : Pt), s.WarmedH vm₁ ∧ Stand p l e R s m args below meth c B.U B.locs B.cells B.slots ∧ Post ⟨T.setVm vm₁, locs, cells, slots⟩ argsL.toArray v B ∧
      ∀ target, Steps p.tables e below (B.U.setTop { g with pc := g.pc + 3, stack := v.toList ++ rest }) target → Steps p.tables e below (T.setTop g) target) ∨
    (∃ (q : Addr) (vm₁ : Vm) (B : Pt), s.WarmedH vm₁ ∧ Stand p l e R s m args below meth c B.U B.locs B.cells B.slots ∧ PostX ⟨T.setVm vm₁, locs, cells, slots⟩ argsL.toArray q B ∧
      Steps p.tables e below (T.setTop g) ((B.U.setTop { g with stack := rest }).pushFrame (.throwing q))) := by
  obtain ⟨mk, methM, cM, hnamed, hmethM, -, -, -, -, -, -, hsigM⟩ := Cond.codeWith_spec hcode
  have hstatic : methM.isStatic = true := Cond.static_spec hnamed hmethM hstat
  obtain ⟨kP, hkP, -⟩ := className_of_methodNamed hnamed
  have hinitP : kP.init = .initialized := Cond.initialized_spec (findClass_of_methodNamed hnamed) hkP hinit
  obtain ⟨vm₁, X₁, hstep₁⟩ := X.invokestatic hexec hown hlink hnamed hmethM hstatic hkP hinitP hy (g := g) hg (argsL := argsL) (rest := rest) (hlen _ hsigM) hstack hdg
  rcases hK m meth c ⟨T.setVm vm₁, locs, cells, slots⟩ { g with stack := rest } (.invokestatic index) mk argsL.toArray X₁ hg hsize hdg hW (X₁.named hnamed) (hpre vm₁ X₁.warmed) with ⟨v, B, X', hpost, hsteps⟩ | ⟨q, B, X', hpost, hsteps⟩
  · exact Or.inl ⟨v, vm₁, B, X₁.warmed, X', hpost, fun target h => hstep₁ _ fun acts => by rw [doInvoke_state]; exact hsteps.trans h⟩
  · exact Or.inr ⟨q, vm₁, B, X₁.warmed, X', hpost, hstep₁ _ fun acts => by rw [doInvoke_state]; exact hsteps⟩
theorem vx_callVW (X : Stand p l e R s m args below meth c T locs cells slots) (hexec : p.tables.exec = Jvm.exec) {own C : String} {index : Nat} {y : MethodName} {bytes : ByteArray} {maxL : Nat} {ret : Option FieldType} {hh : List (Nat × Nat × Nat × Nat)}
    (hown : s.vm.findClass own = some m.cls) (hlink : (Cond.methodLink own index y).before args s = true) (hinst : (Cond.instanceMethod y).before args s = true) (hsel : (Cond.selects C y y).before args s = true)
    (hcode : (Cond.codeWith y bytes maxL ret hh).before args s = true) (hy : y.cls ≠ "java/lang/invoke/MethodHandle" ∧ y.cls ≠ "java/lang/invoke/VarHandle")
    {W9 : Nat} {Pre : Pt → Array Value → Prop} {Post : Pt → Array Value → Option Value → Pt → Prop} (hK : Back l R p e below s args y 3 W9 Pre Post)
    {b : Addr} {cellB : Cell} (hcell : T.heap[b]? = some cellB) (hobj : cellB.vm.isStatics = false) (hcls : s.vm.findClass C = some cellB.cls)
    {g : JFrame} (hg : g.method = m) (hsize : g.locals.size = c.maxLocals) {argsL rest : List Value} (hlen : ∀ sig, parseMethodDescriptor y.desc = some sig → argsL.length = sig.parameters.length)
    (hstack : g.stack = argsL.reverse ++ .ref b :: rest) (hW : 2 * g.monitorRoom + (rest.map fun v => v.category).sum ≤ W9) (hdg : decode c.code g.pc = .ok (.invokevirtual index, 3))
    (hpre : ∀ vm₁, s.WarmedH vm₁ → Pre ⟨T.setVm vm₁, locs, cells, slots⟩ (Value.ref b :: argsL).toArray) :
    ∃ (v : Option Value) (vm₁ : Vm) (B : Pt), s.WarmedH vm₁ ∧ Stand p l e R s m args below meth c B.U B.locs B.cells B.slots ∧ Post ⟨T.setVm vm₁, locs, cells, slots⟩ (Value.ref b :: argsL).toArray v B ∧
      ∀ target, Steps p.tables e below (B.U.setTop { g with pc := g.pc + 3, stack := v.toList ++ rest }) target → Steps p.tables e below (T.setTop g) target := by
  obtain ⟨mk, methM, hnamed, hmethM, hstM, habM⟩ := Cond.instanceMethod_spec hinst
  obtain ⟨m8, methM', cM, hn8, hmethM', -, -, -, -, -, -, hsigM⟩ := Cond.codeWith_spec hcode
  cases Option.some.inj (hn8.symm.trans hnamed)
  cases hmethM.symm.trans hmethM'
  obtain ⟨c2, r2, m2, q1, q2, q3, q4, kP, hkP, hkPi⟩ := Cond.selects_spec hsel
  cases hcls.symm.trans q1
  cases (State.methodFound?_of_named hnamed hy).symm.trans q2
  cases hnamed.symm.trans q3
  have hselP : selectMethod e.platform s.vm cellB.cls mk = .method mk := by rw [Launch.admits_selectMethod X.admits]; exact q4
  obtain ⟨vm₁, X₁, hstep₁⟩ := X.invokevirtual hexec hown hlink hnamed hmethM hstM hkP hkPi hy (a := b) (cell := cellB) hcell
    (fun z h => by rw [h] at hobj; cases hobj) hselP hmethM habM hkP hkPi (g := g) hg (argsL := argsL) (rest := rest) (hlen _ hsigM) hstack hdg
  obtain ⟨v, B, X', hpost, hsteps⟩ := hK m meth c ⟨T.setVm vm₁, locs, cells, slots⟩ { g with stack := rest } (.invokevirtual index) mk (Value.ref b :: argsL).toArray X₁ hg hsize hdg hW (X₁.named hnamed) (hpre vm₁ X₁.warmed)
  exact ⟨v, vm₁, B, X₁.warmed, X', hpost, fun target h => hstep₁ _ fun acts => by rw [doInvoke_state]; exact hsteps.trans h⟩
abbrev vx_CVW (R : Room) (s : State) (args : Array Value) (own C : String) (index : Nat) (y : MethodName) (bytes : ByteArray) (maxL : Nat) (ret : Option FieldType) (hh : List (Nat × Nat × Nat × Nat)) (ws : List Cond) (rm : Room) (mc ms n : Nat) : Prop :=
  (rm.cells = mc ∧ rm.slots = ms ∧ rm.frames + 1 ≤ R.frames ∧ 8 + (maxL + 11) + rm.locals ≤ R.locals ∧ (∀ w ∈ ws, ∀ (a' : Array Value) (U : State), s.WarmedH U.vm → w.before a' U = true) ∧ Cond.codeWith y bytes maxL ret hh ∈ ws) ∧
  (Cond.codeWith y bytes maxL ret hh).before args s = true ∧ (Cond.initialized y.cls).before args s = true ∧ (y.cls ≠ "java/lang/invoke/MethodHandle" ∧ y.cls ≠ "java/lang/invoke/VarHandle") ∧
  (∀ sig, parseMethodDescriptor y.desc = some sig → n = sig.parameters.length) ∧ (Cond.methodLink own index y).before args s = true ∧ (Cond.instanceMethod y).before args s = true ∧ (Cond.selects C y y).before args s = true
theorem vx_cwVW {own C : String} {index maxL mc ms : Nat} {y : MethodName} {bytes : ByteArray} {ret : Option FieldType} {hh : List (Nat × Nat × Nat × Nat)} {Ts ws ws' : List Cond} {rm : Room} (n : Nat) (ht : ∀ w ∈ Ts, w.before args s = true) (hT : GoodIn Ts (wsV own index C y ws)) (hw : ws = Cond.codeWith y bytes maxL ret hh :: ws') (hrc : rm.cells = mc) (hrs : rm.slots = ms)
    (hd : y.cls = C ∧ y.cls ≠ "java/lang/invoke/MethodHandle" ∧ y.cls ≠ "java/lang/invoke/VarHandle" ∧ (parseMethodDescriptor y.desc).map (fun d => d.parameters.length) = some n) (hR : rm.frames + 1 ≤ R.frames ∧ 8 + (maxL + 11) + rm.locals ≤ R.locals) :
    vx_CVW R s args own C index y bytes maxL ret hh ws rm mc ms n := by
  obtain ⟨hC, hd⟩ := hd
  subst hC
  have ok : ∀ w ∈ wsV own index y.cls y ws, w.before args s = true := fun w h => ht w (hT w h).1
  have hG : GoodIn Ts ws := fun w h => hT w (by unfold wsV; exact List.mem_append_right _ h)
  have hc : Cond.codeWith y bytes maxL ret hh ∈ ws := by rw [hw]; exact List.mem_cons_self
  refine ⟨⟨hrc, hrs, hR.1, hR.2, pay_in ht hG, hc⟩, ht _ (hG _ hc).1, ok _ (by simp [wsV]), ⟨hd.1, hd.2.1⟩, fun sig h => ?_, ok _ (by simp [wsV]), ok _ (by simp [wsV]), ok _ (by simp [wsV])⟩
  have h2 := hd.2.2
  rw [h] at h2
  exact (Option.some.inj h2).symm
theorem vx_runVW {y : MethodName} {bytes cc : ByteArray} {maxL nL mc ms n index : Nat} {ret : Option FieldType} {hh : List (Nat × Nat × Nat × Nat)} {ws : List Cond} {rm : Room} {Pc : Array Value → State → Prop} {Qc : Array Value → State → Outcome → State → Prop} {free : Addr → Prop} {Ts : List Cond} {own C : String} {b : Addr} {As rest : List Value} {g : JFrame}
    (S : CallFix p m c cc nL s args Ts own) (hM : Met l y ws rm Pc Qc mc ms free) (cw : vx_CVW R s args own C index y bytes maxL ret hh ws rm mc ms n) (hp : PreV s H C b Pc As)
    (hg : g.method = m) (hn : As.length = n) (hsize : g.locals.size = nL) (hstack : g.stack = As.reverse ++ .ref b :: rest) (hW : 2 * g.monitorRoom + (rest.map fun v => v.category).sum ≤ 8) (hdg : decode cc g.pc = .ok (.invokevirtual index, 3)) (hf : cells + mc ≤ R.cells ∧ slots + ms ≤ R.slots) :
    va_Run p l e R s m args below meth c H locs cells slots mc ms g rest (Qc (Value.ref b :: As).toArray) free := by
  obtain ⟨⟨hrc, hrs, hfr, hlo, hws, hcw⟩, hcode, hini, hy, hlen, hl, hin, hse⟩ := cw
  have hK : Back l R p e below s args y 3 8 (PreOf R mc ms Pc) (PostOf Qc mc ms free) := va_backW (hh := hh) (bytes := bytes) (maxL := maxL) (ret := ret) hM hp.1 hrc hrs hfr hlo hws hcw (fun a' U hW => word_at hW (Or.inl (by first | rfl | simp [Cond.onTables, Cond.keeps, Cond.steady])) hini)
  obtain ⟨hx, hb, hml, ho, -⟩ := S
  obtain ⟨-, ⟨cellB, hcB, hoB, hclB⟩, hPc⟩ := hp
  intro T hT X
  obtain ⟨v, vm₁, ⟨U', l2, c2, s2⟩, hW₁, X', ⟨g', mk, t, L, e1, e2, hq, h1, hL, h2, h3⟩, st⟩ := vx_callVW X hx (C := C) (hh := hh) (bytes := bytes) (maxL := maxL) (ret := ret) ho hl hin hse hcode hy hK (by rw [hT]; exact hcB) hoB hclB hg (hsize.trans hml.symm) (argsL := As) (rest := rest) (fun sig h => hn.trans (hlen sig h)) hstack hW (by rw [hb]; exact hdg)
    (fun vm₁ hW₁ => ⟨hf.1, hf.2, hPc (T.setVm vm₁) hT hW₁⟩)
  dsimp only [Pt.U, Pt.locs, Pt.cells, Pt.slots] at X' e1 e2 h1 h2 h3 st
  subst h1; subst h2; subst h3
  exact ⟨v, (T.setVm vm₁).calling g' mk (Value.ref b :: As).toArray, t, U', L, hT, X', hL, e1, e2, hq, st⟩
section
variable {y : MethodName} {bytes cc : ByteArray} {maxL nL mc ms n index : Nat} {ret : Option FieldType} {ws : List Cond} {rm : Room} {Pc : Array Value → State → Prop} {Qc : Array Value → State → Outcome → State → Prop} {XC : String → State → State → Prop} {free : Addr → Prop} {Ts : List Cond} {own C : String} {b : Addr} {As rest : List Value} {g : JFrame}
theorem vx_runVX {hh : List (Nat × Nat × Nat × Nat)} (S : CallFix p m c cc nL s args Ts own) (hM : vx_Met l y ws rm Pc Qc XC mc ms free) (cw : vx_CVW R s args own C index y bytes maxL ret hh ws rm mc ms n) (hp : PreV s H C b Pc As)
    (hg : g.method = m) (hn : As.length = n) (hsize : g.locals.size = nL) (hstack : g.stack = As.reverse ++ .ref b :: rest) (hW : 2 * g.monitorRoom + (rest.map fun v => v.category).sum ≤ 8) (hdg : decode cc g.pc = .ok (.invokevirtual index, 3)) (hf : cells + mc ≤ R.cells ∧ slots + ms ≤ R.slots) :
    vx_Run p l e R s m args below meth c H locs cells slots mc ms g rest (Qc (Value.ref b :: As).toArray) XC free := by
  obtain ⟨⟨hrc, hrs, hfr, hlo, hws, hcw⟩, hcode, hini, hy, hlen, hl, hin, hse⟩ := cw
  have hK : vx_Back l R p e below s args y 3 8 (PreOf R mc ms Pc) (PostOf Qc mc ms free) (vx_Post XC mc ms free) := vx_backW (hh := hh) (bytes := bytes) (maxL := maxL) (ret := ret) hM hp.1 hrc hrs hfr hlo hws hcw (fun a' U hW => word_at hW (Or.inl (by first | rfl | simp [Cond.onTables, Cond.keeps, Cond.steady])) hini)
  obtain ⟨hx, hb, hml, ho, -⟩ := S
  obtain ⟨-, ⟨cellB, hcB, hoB, hclB⟩, hPc⟩ := hp
  intro T hT X
  rcases vx_callVX X hx (C := C) (hh := hh) (bytes := bytes) (maxL := maxL) (ret := ret) ho hl hin hse hcode hy hK (by rw [hT]; exact hcB) hoB hclB hg (hsize.trans hml.symm) (argsL := As) (rest := rest) (fun sig h => hn.trans (hlen sig h)) hstack hW (by rw [hb]; exact hdg)
    (fun vm₁ hW₁ => ⟨hf.1, hf.2, hPc (T.setVm vm₁) hT hW₁⟩) with ⟨v, vm₁, ⟨U', l2, c2, s2⟩, hW₁, X', ⟨g', mk, t, L, e1, e2, hq, h1, hL, h2, h3⟩, st⟩ | ⟨q, vm₁, ⟨U', l2, c2, s2⟩, hW₁, X', ⟨g', mk, t, L, E, ce, e1, e2, hq, hce, hcv, hcl, h1, hL, h2, h3⟩, st⟩
  · dsimp only [Pt.U, Pt.locs, Pt.cells, Pt.slots] at X' e1 e2 h1 h2 h3 st
    subst h1; subst h2; subst h3
    exact Or.inl ⟨v, (T.setVm vm₁).calling g' mk (Value.ref b :: As).toArray, t, U', L, hT, X', hL, e1, e2, hq, st⟩
  · dsimp only [Pt.U, Pt.locs, Pt.cells, Pt.slots] at X' e1 e2 h1 h2 h3 st hcl
    subst h1; subst h2; subst h3
    exact Or.inr ⟨q, (T.setVm vm₁).calling g' mk (Value.ref b :: As).toArray, t, U', L, E, ce, hT, X', hL, e1, e2, hq, hce, hcv, vx_cls hW₁ hcl, st⟩
theorem vx_runSX {hh : List (Nat × Nat × Nat × Nat)} (S : CallFix p m c cc nL s args Ts own) (hM : vx_Met l y ws rm Pc Qc XC mc ms free) (cw : vx_CSW R s args own index y bytes maxL ret hh ws rm mc ms n) (hp : PreS s H Pc As)
    (hg : g.method = m) (hn : As.length = n) (hsize : g.locals.size = nL) (hstack : g.stack = As.reverse ++ rest) (hW : 2 * g.monitorRoom + (rest.map fun v => v.category).sum ≤ 8) (hdg : decode cc g.pc = .ok (.invokestatic index, 3)) (hf : cells + mc ≤ R.cells ∧ slots + ms ≤ R.slots) :
    vx_Run p l e R s m args below meth c H locs cells slots mc ms g rest (Qc As.toArray) XC free := by
  obtain ⟨⟨hrc, hrs, hfr, hlo, hws, hcw⟩, hcode, hini, hy, hlen, hl, hstt⟩ := cw
  have hK : vx_Back l R p e below s args y 3 8 (PreOf R mc ms Pc) (PostOf Qc mc ms free) (vx_Post XC mc ms free) := vx_backW (hh := hh) (bytes := bytes) (maxL := maxL) (ret := ret) hM hp.1 hrc hrs hfr hlo hws hcw (fun a' U hW => word_at hW (Or.inl (by first | rfl | simp [Cond.onTables, Cond.keeps, Cond.steady])) hini)
  obtain ⟨hx, hb, hml, ho, -⟩ := S
  intro T hT X
  rcases vx_callSX X hx (hh := hh) (bytes := bytes) (maxL := maxL) (ret := ret) ho hl hstt hini hcode hy hK hg (hsize.trans hml.symm) (argsL := As) (rest := rest) (fun sig h => hn.trans (hlen sig h)) hstack hW (by rw [hb]; exact hdg)
    (fun vm₁ hW₁ => ⟨hf.1, hf.2, hp.2 (T.setVm vm₁) hT hW₁⟩) with ⟨v, vm₁, ⟨U', l2, c2, s2⟩, hW₁, X', ⟨g', mk, t, L, e1, e2, hq, h1, hL, h2, h3⟩, st⟩ | ⟨q, vm₁, ⟨U', l2, c2, s2⟩, hW₁, X', ⟨g', mk, t, L, E, ce, e1, e2, hq, hce, hcv, hcl, h1, hL, h2, h3⟩, st⟩
  · dsimp only [Pt.U, Pt.locs, Pt.cells, Pt.slots] at X' e1 e2 h1 h2 h3 st
    subst h1; subst h2; subst h3
    exact Or.inl ⟨v, (T.setVm vm₁).calling g' mk As.toArray, t, U', L, hT, X', hL, e1, e2, hq, st⟩
  · dsimp only [Pt.U, Pt.locs, Pt.cells, Pt.slots] at X' e1 e2 h1 h2 h3 st hcl
    subst h1; subst h2; subst h3
    exact Or.inr ⟨q, (T.setVm vm₁).calling g' mk As.toArray, t, U', L, E, ce, hT, X', hL, e1, e2, hq, hce, hcv, vx_cls hW₁ hcl, st⟩
end
end VXH
theorem vx_ofWH {l : Launch} {y : MethodName} {ws ws' : List Cond} {rm : Room} {Pc : Array Value → State → Prop} {Qc : Array Value → State → Outcome → State → Prop} {XC : String → State → State → Prop} {mc ms : Nat} {free : Addr → Prop} {cc : ByteArray} {maxL : Nat} {ret : Option FieldType} {hh : List (Nat × Nat × Nat × Nat)}
    (hy : plainName y.cls = true) (hw : ws = Cond.codeWith y cc maxL ret hh :: ws')
    (body : ∀ p e s m args below meth c s₁, BodyLoose p l y (headSpec ws rm) cc maxL ret e s m args below meth c s₁ → c.maxLocals = maxL → Pc args s →
      W p l e (headSpec ws rm).room s m args below meth c s.heap [] 0 0 (vx_MQ below Qc XC args s mc ms free) (entryFrame m args maxL)) : vx_Met l y ws rm Pc Qc XC mc ms free := by
  refine MetFree.of_bodyS (code := cc) (maxLocals := maxL) (ret := ret) hy ?_ ?_
  · intro args s m h hn
    obtain ⟨m9, meth, c, hn9, h1, h2, h3, h4, -, h5, h6, -⟩ := Cond.codeWith_spec (atoms_spec (ws := ws) h _ (by rw [hw]; exact List.mem_cons_self))
    cases hn.symm.trans hn9
    exact ⟨meth, c, h1, h2, h3, h4, h5, h6⟩
  · intro p e s m args below meth c s₁ B hml hP _
    have hh0 : s₁.heap = s.heap := by rw [B.state]; rfl
    obtain ⟨t, a1, o, b1, b2, b3⟩ := body p e s m args below meth c s₁ B hml hP s₁ hh0 (Stand.of_body B)
    exact ⟨t, o, a1, b1, b2, b3⟩
/-! ===== END ===== -/
end
section
def RJx4a65c : String := "java/util/ArrayList"
def TJx4a65c : u_T := fun k => match k with
  | 0 => ("java/util/AbstractList", "modCount", "I", false)
  | 1 => ("java/util/ArrayList", "elementData", "[Ljava/lang/Object;", false)
  | _ => ("java/util/ArrayList", "size", "I", false)
def tyJx4a65c : Nat → FieldType := fun k => match k with
  | 0 => .int
  | 1 => .array (.object "java/lang/Object")
  | _ => .int
theorem nmJx4a65c : ∀ a, a < 3 → ∀ b, b < 3 → a ≠ b → (TJx4a65c a).2.1 ≠ (TJx4a65c b).2.1 := by decide +kernel
theorem tyJx4a65c_ok : ∀ k, k < 3 → parseFieldDescriptor (TJx4a65c k).2.2.1 = some (tyJx4a65c k) := by decide +kernel
def RJxc12de : String := "java/util/AbstractList"
def RJxa1e45 : String := "java/util/AbstractCollection"
def RJ7 : String := "java/util/Arrays"
def RJ15 : String := "java/util/Objects"
def RJ3 : String := "jdk/internal/util/Preconditions"
def RJ8 : String := "jdk/internal/util/ArraysSupport"
def RX0 : String := "TimberList$Board"
def TX0 : u_T := fun k => match k with
  | 0 => ("TimberList$Board", "length", "I", true)
  | 1 => ("TimberList$Board", "width", "I", true)
  | 2 => ("TimberList$Board", "grade", "I", true)
  | 3 => ("TimberList$Board", "defects", "Ljava/util/ArrayList;", true)
  | _ => ("TimberList$Board", "cutPieces", "Ljava/util/ArrayList;", true)
def tyX0 : Nat → FieldType := fun k => match k with
  | 0 => .int
  | 1 => .int
  | 2 => .int
  | 3 => .object "java/util/ArrayList"
  | _ => .object "java/util/ArrayList"
theorem nmX0 : ∀ a, a < 5 → ∀ b, b < 5 → a ≠ b → (TX0 a).2.1 ≠ (TX0 b).2.1 := by decide +kernel
theorem tyX0_ok : ∀ k, k < 5 → parseFieldDescriptor (TX0 k).2.2.1 = some (tyX0 k) := by decide +kernel
def RX1 : String := "TimberList$Cutting"
def TX1 : u_T := fun k => match k with
  | 0 => ("TimberList$Cutting", "part", "LTimberList$Part;", true)
  | 1 => ("TimberList$Cutting", "first", "LTimberList$Piece;", true)
  | _ => ("TimberList$Cutting", "second", "LTimberList$Piece;", true)
def tyX1 : Nat → FieldType := fun k => match k with
  | 0 => .object "TimberList$Part"
  | 1 => .object "TimberList$Piece"
  | _ => .object "TimberList$Piece"
theorem nmX1 : ∀ a, a < 3 → ∀ b, b < 3 → a ≠ b → (TX1 a).2.1 ≠ (TX1 b).2.1 := by decide +kernel
theorem tyX1_ok : ∀ k, k < 3 → parseFieldDescriptor (TX1 k).2.2.1 = some (tyX1 k) := by decide +kernel
def RX2 : String := "TimberList$Defect"
def TX2 : u_T := fun k => match k with
  | 0 => ("TimberList$Defect", "from", "I", true)
  | 1 => ("TimberList$Defect", "to", "I", true)
  | _ => ("TimberList$Defect", "grade", "I", true)
def tyX2 : Nat → FieldType := fun k => match k with
  | 0 => .int
  | 1 => .int
  | _ => .int
theorem nmX2 : ∀ a, a < 3 → ∀ b, b < 3 → a ≠ b → (TX2 a).2.1 ≠ (TX2 b).2.1 := by decide +kernel
theorem tyX2_ok : ∀ k, k < 3 → parseFieldDescriptor (TX2 k).2.2.1 = some (tyX2 k) := by decide +kernel
def RX3 : String := "TimberList$Part"
def TX3 : u_T := fun k => match k with
  | 0 => ("TimberList$Part", "number", "I", true)
  | 1 => ("TimberList$Part", "length", "I", true)
  | 2 => ("TimberList$Part", "width", "I", true)
  | 3 => ("TimberList$Part", "grade", "I", true)
  | 4 => ("TimberList$Part", "canBeJoined", "Z", true)
  | _ => ("TimberList$Part", "left", "I", false)
def tyX3 : Nat → FieldType := fun k => match k with
  | 0 => .int
  | 1 => .int
  | 2 => .int
  | 3 => .int
  | 4 => .boolean
  | _ => .int
theorem nmX3 : ∀ a, a < 6 → ∀ b, b < 6 → a ≠ b → (TX3 a).2.1 ≠ (TX3 b).2.1 := by decide +kernel
theorem tyX3_ok : ∀ k, k < 6 → parseFieldDescriptor (TX3 k).2.2.1 = some (tyX3 k) := by decide +kernel
def RX4 : String := "TimberList$Piece"
def TX4 : u_T := fun k => match k with
  | 0 => ("TimberList$Piece", "part", "LTimberList$Part;", true)
  | 1 => ("TimberList$Piece", "board", "LTimberList$Board;", true)
  | 2 => ("TimberList$Piece", "from", "I", true)
  | 3 => ("TimberList$Piece", "to", "I", true)
  | _ => ("TimberList$Piece", "isJoined", "Z", true)
def tyX4 : Nat → FieldType := fun k => match k with
  | 0 => .object "TimberList$Part"
  | 1 => .object "TimberList$Board"
  | 2 => .int
  | 3 => .int
  | _ => .boolean
theorem nmX4 : ∀ a, a < 5 → ∀ b, b < 5 → a ≠ b → (TX4 a).2.1 ≠ (TX4 b).2.1 := by decide +kernel
theorem tyX4_ok : ∀ k, k < 5 → parseFieldDescriptor (TX4 k).2.2.1 = some (tyX4 k) := by decide +kernel
def RX5 : String := "TimberList"
def TX5 : u_T := fun k => match k with
  | 0 => ("TimberList", "boards", "Ljava/util/ArrayList;", true)
  | 1 => ("TimberList", "parts", "Ljava/util/ArrayList;", true)
  | 2 => ("TimberList", "planningOrder", "Ljava/util/ArrayList;", true)
  | 3 => ("TimberList", "cuttings", "Ljava/util/ArrayList;", true)
  | 4 => ("TimberList", "bestSums", "[I", true)
  | 5 => ("TimberList", "defectCount", "I", false)
  | 6 => ("TimberList", "saw", "I", false)
  | _ => ("TimberList", "joint", "I", false)
def tyX5 : Nat → FieldType := fun k => match k with
  | 0 => .object "java/util/ArrayList"
  | 1 => .object "java/util/ArrayList"
  | 2 => .object "java/util/ArrayList"
  | 3 => .object "java/util/ArrayList"
  | 4 => .array .int
  | 5 => .int
  | 6 => .int
  | _ => .int
theorem nmX5 : ∀ a, a < 8 → ∀ b, b < 8 → a ≠ b → (TX5 a).2.1 ≠ (TX5 b).2.1 := by decide +kernel
theorem tyX5_ok : ∀ k, k < 8 → parseFieldDescriptor (TX5 k).2.2.1 = some (tyX5 k) := by decide +kernel
def RX6 : String := "TimberListModel"
def TX6 : u_T := fun k => match k with
  | 0 => ("TimberListModel", "thrown", "I", false)
  | 1 => ("TimberListModel", "boards", "I", false)
  | 2 => ("TimberListModel", "wood", "[I", true)
  | 3 => ("TimberListModel", "defects", "I", false)
  | 4 => ("TimberListModel", "flaws", "[I", true)
  | 5 => ("TimberListModel", "parts", "I", false)
  | 6 => ("TimberListModel", "wants", "[I", true)
  | 7 => ("TimberListModel", "mayBeJoined", "[Z", true)
  | 8 => ("TimberListModel", "saw", "I", false)
  | 9 => ("TimberListModel", "joint", "I", false)
  | 10 => ("TimberListModel", "made", "I", false)
  | 11 => ("TimberListModel", "cuts", "[I", true)
  | 12 => ("TimberListModel", "areJoined", "[Z", true)
  | 13 => ("TimberListModel", "stretchFrom", "I", false)
  | _ => ("TimberListModel", "stretchTo", "I", false)
def tyX6 : Nat → FieldType := fun k => match k with
  | 0 => .int
  | 1 => .int
  | 2 => .array .int
  | 3 => .int
  | 4 => .array .int
  | 5 => .int
  | 6 => .array .int
  | 7 => .array .boolean
  | 8 => .int
  | 9 => .int
  | 10 => .int
  | 11 => .array .int
  | 12 => .array .boolean
  | 13 => .int
  | _ => .int
theorem nmX6 : ∀ a, a < 15 → ∀ b, b < 15 → a ≠ b → (TX6 a).2.1 ≠ (TX6 b).2.1 := by decide +kernel
theorem tyX6_ok : ∀ k, k < 15 → parseFieldDescriptor (TX6 k).2.2.1 = some (tyX6 k) := by decide +kernel
def RL : String := "TimberListLaw"
abbrev cJx4a65c_init_da8c8 : ByteArray := prog_34_method_2_code
def yJx4a65c_init_da8c8 : MethodName := ⟨RJx4a65c, "<init>", "()V"⟩
abbrev cJx4a65c_grow_92f84 : ByteArray := prog_34_method_6_code
def yJx4a65c_grow_92f84 : MethodName := ⟨RJx4a65c, "grow", "(I)[Ljava/lang/Object;"⟩
abbrev cJx4a65c_grow_d5877 : ByteArray := prog_34_method_7_code
def yJx4a65c_grow_d5877 : MethodName := ⟨RJx4a65c, "grow", "()[Ljava/lang/Object;"⟩
abbrev cJx4a65c_size_8abf5 : ByteArray := prog_34_method_8_code
def yJx4a65c_size_8abf5 : MethodName := ⟨RJx4a65c, "size", "()I"⟩
abbrev cJx4a65c_isEmpty_aae02 : ByteArray := prog_34_method_9_code
def yJx4a65c_isEmpty_aae02 : MethodName := ⟨RJx4a65c, "isEmpty", "()Z"⟩
abbrev cJx4a65c_elementData_915e3 : ByteArray := prog_34_method_18_code
def yJx4a65c_elementData_915e3 : MethodName := ⟨RJx4a65c, "elementData", "(I)Ljava/lang/Object;"⟩
abbrev cJx4a65c_get_915e3 : ByteArray := prog_34_method_20_code
def yJx4a65c_get_915e3 : MethodName := ⟨RJx4a65c, "get", "(I)Ljava/lang/Object;"⟩
abbrev cJx4a65c_add_72be8 : ByteArray := prog_34_method_24_code
def yJx4a65c_add_72be8 : MethodName := ⟨RJx4a65c, "add", "(Ljava/lang/Object;[Ljava/lang/Object;I)V"⟩
abbrev cJx4a65c_add_9ea2d : ByteArray := prog_34_method_25_code
def yJx4a65c_add_9ea2d : MethodName := ⟨RJx4a65c, "add", "(Ljava/lang/Object;)Z"⟩
abbrev cJx4a65c_add_7a177 : ByteArray := prog_34_method_26_code
def yJx4a65c_add_7a177 : MethodName := ⟨RJx4a65c, "add", "(ILjava/lang/Object;)V"⟩
abbrev cJx4a65c_remove_915e3 : ByteArray := prog_34_method_29_code
def yJx4a65c_remove_915e3 : MethodName := ⟨RJx4a65c, "remove", "(I)Ljava/lang/Object;"⟩
abbrev cJx4a65c_fastRemove_b59b0 : ByteArray := prog_34_method_39_code
def yJx4a65c_fastRemove_b59b0 : MethodName := ⟨RJx4a65c, "fastRemove", "([Ljava/lang/Object;I)V"⟩
abbrev cJx4a65c_rangeCheckForAdd_d00df : ByteArray := prog_34_method_45_code
def yJx4a65c_rangeCheckForAdd_d00df : MethodName := ⟨RJx4a65c, "rangeCheckForAdd", "(I)V"⟩
abbrev cJxc12de_init_da8c8 : ByteArray := prog_33_method_1_code
def yJxc12de_init_da8c8 : MethodName := ⟨RJxc12de, "<init>", "()V"⟩
abbrev cJxa1e45_init_da8c8 : ByteArray := prog_32_method_1_code
def yJxa1e45_init_da8c8 : MethodName := ⟨RJxa1e45, "<init>", "()V"⟩
abbrev cJ7_copyOf_1904c : ByteArray := prog_35_method_119_code
def yJ7_copyOf_1904c : MethodName := ⟨RJ7, "copyOf", "([Ljava/lang/Object;I)[Ljava/lang/Object;"⟩
abbrev cJ7_copyOf_6403c : ByteArray := prog_35_method_120_code
def yJ7_copyOf_6403c : MethodName := ⟨RJ7, "copyOf", "([Ljava/lang/Object;ILjava/lang/Class;)[Ljava/lang/Object;"⟩
abbrev cJ15_checkIndex_7cf53 : ByteArray := prog_38_method_17_code
def yJ15_checkIndex_7cf53 : MethodName := ⟨RJ15, "checkIndex", "(II)I"⟩
abbrev cJ3_checkIndex_8e157 : ByteArray := prog_42_method_11_code
def yJ3_checkIndex_8e157 : MethodName := ⟨RJ3, "checkIndex", "(IILjava/util/function/BiFunction;)I"⟩
abbrev cJ8_newLength_cabcc : ByteArray := prog_41_method_27_code
def yJ8_newLength_cabcc : MethodName := ⟨RJ8, "newLength", "(III)I"⟩
abbrev cX0_init : ByteArray := prog_2_method_1_code
def yX0_init : MethodName := ⟨RX0, "<init>", "(III)V"⟩
abbrev cX0_insertDefect : ByteArray := prog_2_method_2_code
def yX0_insertDefect : MethodName := ⟨RX0, "insertDefect", "(LTimberList$Defect;)V"⟩
abbrev cX0_insertPiece : ByteArray := prog_2_method_3_code
def yX0_insertPiece : MethodName := ⟨RX0, "insertPiece", "(LTimberList$Piece;)V"⟩
abbrev cX0_removePiece : ByteArray := prog_2_method_4_code
def yX0_removePiece : MethodName := ⟨RX0, "removePiece", "(LTimberList$Piece;)V"⟩
abbrev cX0_hasPieceSpoiledBy : ByteArray := prog_2_method_5_code
def yX0_hasPieceSpoiledBy : MethodName := ⟨RX0, "hasPieceSpoiledBy", "(III)Z"⟩
abbrev cX0_gradeAt : ByteArray := prog_2_method_6_code
def yX0_gradeAt : MethodName := ⟨RX0, "gradeAt", "(I)I"⟩
abbrev cX0_firstWorse : ByteArray := prog_2_method_7_code
def yX0_firstWorse : MethodName := ⟨RX0, "firstWorse", "(II)I"⟩
abbrev cX0_firstGood : ByteArray := prog_2_method_8_code
def yX0_firstGood : MethodName := ⟨RX0, "firstGood", "(II)I"⟩
abbrev cX0_nextStretchStart : ByteArray := prog_2_method_9_code
def yX0_nextStretchStart : MethodName := ⟨RX0, "nextStretchStart", "(II)I"⟩
abbrev cX0_countStretches : ByteArray := prog_2_method_10_code
def yX0_countStretches : MethodName := ⟨RX0, "countStretches", "(I)I"⟩
abbrev cX0_stretchStart : ByteArray := prog_2_method_11_code
def yX0_stretchStart : MethodName := ⟨RX0, "stretchStart", "(II)I"⟩
abbrev cX0_canGive : ByteArray := prog_2_method_12_code
def yX0_canGive : MethodName := ⟨RX0, "canGive", "(LTimberList$Part;III)Z"⟩
abbrev cX0_isClearOfPieces : ByteArray := prog_2_method_13_code
def yX0_isClearOfPieces : MethodName := ⟨RX0, "isClearOfPieces", "(III)Z"⟩
abbrev cX0_earliestPlace : ByteArray := prog_2_method_14_code
def yX0_earliestPlace : MethodName := ⟨RX0, "earliestPlace", "(LTimberList$Part;I)I"⟩
abbrev cX0_earliestWithin : ByteArray := prog_2_method_15_code
def yX0_earliestWithin : MethodName := ⟨RX0, "earliestWithin", "(IILTimberList$Part;)I"⟩
abbrev cX0_roomStart : ByteArray := prog_2_method_16_code
def yX0_roomStart : MethodName := ⟨RX0, "roomStart", "(II)I"⟩
abbrev cX0_roomEnd : ByteArray := prog_2_method_17_code
def yX0_roomEnd : MethodName := ⟨RX0, "roomEnd", "(II)I"⟩
abbrev cX0_roomLengthAround : ByteArray := prog_2_method_18_code
def yX0_roomLengthAround : MethodName := ⟨RX0, "roomLengthAround", "(II)I"⟩
abbrev cX0_longestRoomLength : ByteArray := prog_2_method_19_code
def yX0_longestRoomLength : MethodName := ⟨RX0, "longestRoomLength", "(I)I"⟩
abbrev cX0_countCuts : ByteArray := prog_2_method_20_code
def yX0_countCuts : MethodName := ⟨RX0, "countCuts", "(I)I"⟩
abbrev cX0_areaOfPieces : ByteArray := prog_2_method_21_code
def yX0_areaOfPieces : MethodName := ⟨RX0, "areaOfPieces", "()I"⟩
abbrev cX1_init : ByteArray := prog_3_method_1_code
def yX1_init : MethodName := ⟨RX1, "<init>", "(LTimberList$Part;LTimberList$Piece;LTimberList$Piece;)V"⟩
abbrev cX2_init : ByteArray := prog_4_method_1_code
def yX2_init : MethodName := ⟨RX2, "<init>", "(III)V"⟩
abbrev cX3_init : ByteArray := prog_5_method_1_code
def yX3_init : MethodName := ⟨RX3, "<init>", "(IIIIIZ)V"⟩
abbrev cX3_isPlannedAhead : ByteArray := prog_5_method_2_code
def yX3_isPlannedAhead : MethodName := ⟨RX3, "isPlannedAhead", "(LTimberList$Part;)Z"⟩
abbrev cX4_init : ByteArray := prog_6_method_1_code
def yX4_init : MethodName := ⟨RX4, "<init>", "(LTimberList$Part;LTimberList$Board;IIZ)V"⟩
abbrev cX4_isClearOf : ByteArray := prog_6_method_2_code
def yX4_isClearOf : MethodName := ⟨RX4, "isClearOf", "(III)Z"⟩
abbrev cX4_tell : ByteArray := prog_6_method_3_code
def yX4_tell : MethodName := ⟨RX4, "tell", "(I)I"⟩
abbrev cX5_init : ByteArray := prog_1_method_1_code
def yX5_init : MethodName := ⟨RX5, "<init>", "()V"⟩
abbrev cX5_addBoard : ByteArray := prog_1_method_2_code
def yX5_addBoard : MethodName := ⟨RX5, "addBoard", "(III)I"⟩
abbrev cX5_addDefect : ByteArray := prog_1_method_3_code
def yX5_addDefect : MethodName := ⟨RX5, "addDefect", "(IIII)I"⟩
abbrev cX5_addPart : ByteArray := prog_1_method_4_code
def yX5_addPart : MethodName := ⟨RX5, "addPart", "(IIIIZ)I"⟩
abbrev cX5_setSaw : ByteArray := prog_1_method_5_code
def yX5_setSaw : MethodName := ⟨RX5, "setSaw", "(I)I"⟩
abbrev cX5_setJoint : ByteArray := prog_1_method_6_code
def yX5_setJoint : MethodName := ⟨RX5, "setJoint", "(I)I"⟩
abbrev cX5_grade : ByteArray := prog_1_method_7_code
def yX5_grade : MethodName := ⟨RX5, "grade", "(II)I"⟩
abbrev cX5_stretches : ByteArray := prog_1_method_8_code
def yX5_stretches : MethodName := ⟨RX5, "stretches", "(II)I"⟩
abbrev cX5_stretch : ByteArray := prog_1_method_9_code
def yX5_stretch : MethodName := ⟨RX5, "stretch", "(IIIZ)I"⟩
abbrev cX5_fits : ByteArray := prog_1_method_10_code
def yX5_fits : MethodName := ⟨RX5, "fits", "(III)Z"⟩
abbrev cX5_earliest : ByteArray := prog_1_method_11_code
def yX5_earliest : MethodName := ⟨RX5, "earliest", "(II)I"⟩
abbrev cX5_cut : ByteArray := prog_1_method_12_code
def yX5_cut : MethodName := ⟨RX5, "cut", "(III)I"⟩
abbrev cX5_join : ByteArray := prog_1_method_13_code
def yX5_join : MethodName := ⟨RX5, "join", "(IIIIII)I"⟩
abbrev cX5_undo : ByteArray := prog_1_method_14_code
def yX5_undo : MethodName := ⟨RX5, "undo", "()I"⟩
abbrev cX5_plan : ByteArray := prog_1_method_15_code
def yX5_plan : MethodName := ⟨RX5, "plan", "()I"⟩
abbrev cX5_left : ByteArray := prog_1_method_16_code
def yX5_left : MethodName := ⟨RX5, "left", "(I)I"⟩
abbrev cX5_pieces : ByteArray := prog_1_method_17_code
def yX5_pieces : MethodName := ⟨RX5, "pieces", "(I)I"⟩
abbrev cX5_piece : ByteArray := prog_1_method_18_code
def yX5_piece : MethodName := ⟨RX5, "piece", "(III)I"⟩
abbrev cX5_cuts : ByteArray := prog_1_method_19_code
def yX5_cuts : MethodName := ⟨RX5, "cuts", "(I)I"⟩
abbrev cX5_longestRoom : ByteArray := prog_1_method_20_code
def yX5_longestRoom : MethodName := ⟨RX5, "longestRoom", "(I)I"⟩
abbrev cX5_bestUse : ByteArray := prog_1_method_21_code
def yX5_bestUse : MethodName := ⟨RX5, "bestUse", "(III)I"⟩
abbrev cX5_used : ByteArray := prog_1_method_22_code
def yX5_used : MethodName := ⟨RX5, "used", "()D"⟩
abbrev cX5_digest : ByteArray := prog_1_method_23_code
def yX5_digest : MethodName := ⟨RX5, "digest", "()J"⟩
abbrev cX5_isWithin : ByteArray := prog_1_method_24_code
def yX5_isWithin : MethodName := ⟨RX5, "isWithin", "(III)Z"⟩
abbrev cX5_isGrade : ByteArray := prog_1_method_25_code
def yX5_isGrade : MethodName := ⟨RX5, "isGrade", "(I)Z"⟩
abbrev cX5_checkGrade : ByteArray := prog_1_method_26_code
def yX5_checkGrade : MethodName := ⟨RX5, "checkGrade", "(I)V"⟩
abbrev cX5_boardNumbered : ByteArray := prog_1_method_27_code
def yX5_boardNumbered : MethodName := ⟨RX5, "boardNumbered", "(I)LTimberList$Board;"⟩
abbrev cX5_partNumbered : ByteArray := prog_1_method_28_code
def yX5_partNumbered : MethodName := ⟨RX5, "partNumbered", "(I)LTimberList$Part;"⟩
abbrev cX5_insertIntoPlanningOrder : ByteArray := prog_1_method_29_code
def yX5_insertIntoPlanningOrder : MethodName := ⟨RX5, "insertIntoPlanningOrder", "(LTimberList$Part;)V"⟩
abbrev cX5_cutWhilePossible : ByteArray := prog_1_method_30_code
def yX5_cutWhilePossible : MethodName := ⟨RX5, "cutWhilePossible", "(LTimberList$Part;)I"⟩
abbrev cX5_tightestBoard : ByteArray := prog_1_method_31_code
def yX5_tightestBoard : MethodName := ⟨RX5, "tightestBoard", "(LTimberList$Part;)LTimberList$Board;"⟩
abbrev cX5_cutSingle : ByteArray := prog_1_method_32_code
def yX5_cutSingle : MethodName := ⟨RX5, "cutSingle", "(LTimberList$Part;LTimberList$Board;I)V"⟩
abbrev cX5_takeFromBoards : ByteArray := prog_1_method_33_code
def yX5_takeFromBoards : MethodName := ⟨RX5, "takeFromBoards", "(LTimberList$Cutting;)V"⟩
abbrev cX5_clearBestSums : ByteArray := prog_1_method_34_code
def yX5_clearBestSums : MethodName := ⟨RX5, "clearBestSums", "()V"⟩
abbrev cX5_addToBestSums : ByteArray := prog_1_method_35_code
def yX5_addToBestSums : MethodName := ⟨RX5, "addToBestSums", "(LTimberList$Part;I)V"⟩
abbrev cX5_withNext : ByteArray := prog_1_method_36_code
def yX5_withNext : MethodName := ⟨RX5, "withNext", "(JJ)J"⟩
abbrev cX5_withPieces : ByteArray := prog_1_method_37_code
def yX5_withPieces : MethodName := ⟨RX5, "withPieces", "(JLjava/util/ArrayList;)J"⟩
abbrev cX6_init : ByteArray := prog_8_method_1_code
def yX6_init : MethodName := ⟨RX6, "<init>", "()V"⟩
abbrev cX6_thrown : ByteArray := prog_8_method_2_code
def yX6_thrown : MethodName := ⟨RX6, "thrown", "()I"⟩
abbrev cX6_fail : ByteArray := prog_8_method_3_code
def yX6_fail : MethodName := ⟨RX6, "fail", "(I)I"⟩
abbrev cX6_isIn : ByteArray := prog_8_method_4_code
def yX6_isIn : MethodName := ⟨RX6, "isIn", "(III)Z"⟩
abbrev cX6_isBoard : ByteArray := prog_8_method_5_code
def yX6_isBoard : MethodName := ⟨RX6, "isBoard", "(I)Z"⟩
abbrev cX6_isPart : ByteArray := prog_8_method_6_code
def yX6_isPart : MethodName := ⟨RX6, "isPart", "(I)Z"⟩
abbrev cX6_length : ByteArray := prog_8_method_7_code
def yX6_length : MethodName := ⟨RX6, "length", "(I)I"⟩
abbrev cX6_width : ByteArray := prog_8_method_8_code
def yX6_width : MethodName := ⟨RX6, "width", "(I)I"⟩
abbrev cX6_want : ByteArray := prog_8_method_9_code
def yX6_want : MethodName := ⟨RX6, "want", "(II)I"⟩
abbrev cX6_addBoard : ByteArray := prog_8_method_10_code
def yX6_addBoard : MethodName := ⟨RX6, "addBoard", "(III)I"⟩
abbrev cX6_isOn : ByteArray := prog_8_method_11_code
def yX6_isOn : MethodName := ⟨RX6, "isOn", "(II)Z"⟩
abbrev cX6_from : ByteArray := prog_8_method_12_code
def yX6_from : MethodName := ⟨RX6, "from", "(I)I"⟩
abbrev cX6_to : ByteArray := prog_8_method_13_code
def yX6_to : MethodName := ⟨RX6, "to", "(I)I"⟩
abbrev cX6_partOf : ByteArray := prog_8_method_14_code
def yX6_partOf : MethodName := ⟨RX6, "partOf", "(I)I"⟩
abbrev cX6_addDefect : ByteArray := prog_8_method_15_code
def yX6_addDefect : MethodName := ⟨RX6, "addDefect", "(IIII)I"⟩
abbrev cX6_addPart : ByteArray := prog_8_method_16_code
def yX6_addPart : MethodName := ⟨RX6, "addPart", "(IIIIZ)I"⟩
abbrev cX6_setSaw : ByteArray := prog_8_method_17_code
def yX6_setSaw : MethodName := ⟨RX6, "setSaw", "(I)I"⟩
abbrev cX6_setJoint : ByteArray := prog_8_method_18_code
def yX6_setJoint : MethodName := ⟨RX6, "setJoint", "(I)I"⟩
abbrev cX6_gradeAt : ByteArray := prog_8_method_19_code
def yX6_gradeAt : MethodName := ⟨RX6, "gradeAt", "(II)I"⟩
abbrev cX6_grade : ByteArray := prog_8_method_20_code
def yX6_grade : MethodName := ⟨RX6, "grade", "(II)I"⟩
abbrev cX6_nextChange : ByteArray := prog_8_method_21_code
def yX6_nextChange : MethodName := ⟨RX6, "nextChange", "(II)I"⟩
abbrev cX6_goOver : ByteArray := prog_8_method_22_code
def yX6_goOver : MethodName := ⟨RX6, "goOver", "(III)I"⟩
abbrev cX6_stretches : ByteArray := prog_8_method_23_code
def yX6_stretches : MethodName := ⟨RX6, "stretches", "(II)I"⟩
abbrev cX6_stretch : ByteArray := prog_8_method_24_code
def yX6_stretch : MethodName := ⟨RX6, "stretch", "(IIIZ)I"⟩
abbrev cX6_onward : ByteArray := prog_8_method_25_code
def yX6_onward : MethodName := ⟨RX6, "onward", "(IIII)I"⟩
abbrev cX6_isPossible : ByteArray := prog_8_method_26_code
def yX6_isPossible : MethodName := ⟨RX6, "isPossible", "(IIII)Z"⟩
abbrev cX6_earliestOn : ByteArray := prog_8_method_27_code
def yX6_earliestOn : MethodName := ⟨RX6, "earliestOn", "(II)I"⟩
abbrev cX6_fits : ByteArray := prog_8_method_28_code
def yX6_fits : MethodName := ⟨RX6, "fits", "(III)Z"⟩
abbrev cX6_earliest : ByteArray := prog_8_method_29_code
def yX6_earliest : MethodName := ⟨RX6, "earliest", "(II)I"⟩
abbrev cX6_add : ByteArray := prog_8_method_30_code
def yX6_add : MethodName := ⟨RX6, "add", "(IIIIZ)V"⟩
abbrev cX6_lessLeft : ByteArray := prog_8_method_31_code
def yX6_lessLeft : MethodName := ⟨RX6, "lessLeft", "(I)I"⟩
abbrev cX6_cut : ByteArray := prog_8_method_32_code
def yX6_cut : MethodName := ⟨RX6, "cut", "(III)I"⟩
abbrev cX6_join : ByteArray := prog_8_method_33_code
def yX6_join : MethodName := ⟨RX6, "join", "(IIIIII)I"⟩
abbrev cX6_undo : ByteArray := prog_8_method_34_code
def yX6_undo : MethodName := ⟨RX6, "undo", "()I"⟩
abbrev cX6_roomFrom : ByteArray := prog_8_method_35_code
def yX6_roomFrom : MethodName := ⟨RX6, "roomFrom", "(II)I"⟩
abbrev cX6_roomTo : ByteArray := prog_8_method_36_code
def yX6_roomTo : MethodName := ⟨RX6, "roomTo", "(II)I"⟩
abbrev cX6_isAhead : ByteArray := prog_8_method_37_code
def yX6_isAhead : MethodName := ⟨RX6, "isAhead", "(II)Z"⟩
abbrev cX6_planOne : ByteArray := prog_8_method_38_code
def yX6_planOne : MethodName := ⟨RX6, "planOne", "()Z"⟩
abbrev cX6_plan : ByteArray := prog_8_method_39_code
def yX6_plan : MethodName := ⟨RX6, "plan", "()I"⟩
abbrev cX6_left : ByteArray := prog_8_method_40_code
def yX6_left : MethodName := ⟨RX6, "left", "(I)I"⟩
abbrev cX6_piecesOf : ByteArray := prog_8_method_41_code
def yX6_piecesOf : MethodName := ⟨RX6, "piecesOf", "(I)I"⟩
abbrev cX6_pieces : ByteArray := prog_8_method_42_code
def yX6_pieces : MethodName := ⟨RX6, "pieces", "(I)I"⟩
abbrev cX6_pieceFrom : ByteArray := prog_8_method_43_code
def yX6_pieceFrom : MethodName := ⟨RX6, "pieceFrom", "(II)I"⟩
abbrev cX6_told : ByteArray := prog_8_method_44_code
def yX6_told : MethodName := ⟨RX6, "told", "(II)I"⟩
abbrev cX6_piece : ByteArray := prog_8_method_45_code
def yX6_piece : MethodName := ⟨RX6, "piece", "(III)I"⟩
abbrev cX6_cuts : ByteArray := prog_8_method_46_code
def yX6_cuts : MethodName := ⟨RX6, "cuts", "(I)I"⟩
abbrev cX6_longestRoom : ByteArray := prog_8_method_47_code
def yX6_longestRoom : MethodName := ⟨RX6, "longestRoom", "(I)I"⟩
abbrev cX6_bestUse : ByteArray := prog_8_method_48_code
def yX6_bestUse : MethodName := ⟨RX6, "bestUse", "(III)I"⟩
abbrev cX6_used : ByteArray := prog_8_method_49_code
def yX6_used : MethodName := ⟨RX6, "used", "()D"⟩
abbrev cX6_digest : ByteArray := prog_8_method_50_code
def yX6_digest : MethodName := ⟨RX6, "digest", "()J"⟩
abbrev cL_addBoard : ByteArray := method_3_code
def yL_addBoard : MethodName := ⟨RL, "addBoard", "(LTimberList;III[J)I"⟩
abbrev cL_addDefect : ByteArray := method_4_code
def yL_addDefect : MethodName := ⟨RL, "addDefect", "(LTimberList;IIII[J)I"⟩
abbrev cL_addPart : ByteArray := method_5_code
def yL_addPart : MethodName := ⟨RL, "addPart", "(LTimberList;IIIIZ[J)I"⟩
abbrev cL_setSaw : ByteArray := method_6_code
def yL_setSaw : MethodName := ⟨RL, "setSaw", "(LTimberList;I[J)I"⟩
abbrev cL_setJoint : ByteArray := method_7_code
def yL_setJoint : MethodName := ⟨RL, "setJoint", "(LTimberList;I[J)I"⟩
abbrev cL_grade : ByteArray := method_8_code
def yL_grade : MethodName := ⟨RL, "grade", "(LTimberList;II[J)I"⟩
abbrev cL_stretches : ByteArray := method_9_code
def yL_stretches : MethodName := ⟨RL, "stretches", "(LTimberList;II[J)I"⟩
abbrev cL_stretch : ByteArray := method_10_code
def yL_stretch : MethodName := ⟨RL, "stretch", "(LTimberList;IIIZ[J)I"⟩
abbrev cL_fits : ByteArray := method_11_code
def yL_fits : MethodName := ⟨RL, "fits", "(LTimberList;III[J)I"⟩
abbrev cL_earliest : ByteArray := method_12_code
def yL_earliest : MethodName := ⟨RL, "earliest", "(LTimberList;II[J)I"⟩
abbrev cL_cut : ByteArray := method_13_code
def yL_cut : MethodName := ⟨RL, "cut", "(LTimberList;III[J)I"⟩
abbrev cL_join : ByteArray := method_14_code
def yL_join : MethodName := ⟨RL, "join", "(LTimberList;IIIIII[J)I"⟩
abbrev cL_undo : ByteArray := method_15_code
def yL_undo : MethodName := ⟨RL, "undo", "(LTimberList;[J)I"⟩
abbrev cL_left : ByteArray := method_16_code
def yL_left : MethodName := ⟨RL, "left", "(LTimberList;I[J)I"⟩
abbrev cL_pieces : ByteArray := method_17_code
def yL_pieces : MethodName := ⟨RL, "pieces", "(LTimberList;I[J)I"⟩
abbrev cL_piece : ByteArray := method_18_code
def yL_piece : MethodName := ⟨RL, "piece", "(LTimberList;III[J)I"⟩
abbrev cL_cuts : ByteArray := method_19_code
def yL_cuts : MethodName := ⟨RL, "cuts", "(LTimberList;I[J)I"⟩
abbrev cL_longestRoom : ByteArray := method_20_code
def yL_longestRoom : MethodName := ⟨RL, "longestRoom", "(LTimberList;I[J)I"⟩
abbrev cL_bestUse : ByteArray := method_21_code
def yL_bestUse : MethodName := ⟨RL, "bestUse", "(LTimberList;III[J)I"⟩
abbrev cL_law : ByteArray := code
def yL_law : MethodName := ⟨RL, "law", "([I)Z"⟩
abbrev classes : List vw_C := [(RJx4a65c, TJx4a65c, 3), (RX0, TX0, 5), (RX1, TX1, 3), (RX2, TX2, 3), (RX3, TX3, 6), (RX4, TX4, 5), (RX5, TX5, 8), (RX6, TX6, 15)]
/-- the tables' words that any state keeps -/
def ALL : List Cond := lw_tbl.filter goodWord
/-- words of nest mates and casts: kept in another way -/
def tm_nw : Cond → Bool
  | .fieldLinkNest .. => true
  | .methodLinkNest .. => true
  | .castable .. => true
  | .declares .. => true
  | _ => false
def NW : List Cond := lw_tbl.filter tm_nw
theorem tm_in1 {w : Cond} (i : Nat) (h : tables_1_1[i]? = some w) (g : goodWord w = true) : w ∈ ALL := List.mem_filter.mpr ⟨List.mem_append_right _ (List.mem_append_left _ (List.mem_of_getElem? h)), g⟩
theorem tm_in2 {w : Cond} (i : Nat) (h : tables_1_2[i]? = some w) (g : goodWord w = true) : w ∈ ALL := List.mem_filter.mpr ⟨List.mem_append_right _ (List.mem_append_right _ (List.mem_append_left _ (List.mem_of_getElem? h))), g⟩
theorem tm_in3 {w : Cond} (i : Nat) (h : tables_1_3[i]? = some w) (g : goodWord w = true) : w ∈ ALL := List.mem_filter.mpr ⟨List.mem_append_right _ (List.mem_append_right _ (List.mem_append_right _ (List.mem_append_left _ (List.mem_of_getElem? h)))), g⟩
theorem tm_in4 {w : Cond} (i : Nat) (h : tables_1_4[i]? = some w) (g : goodWord w = true) : w ∈ ALL := List.mem_filter.mpr ⟨List.mem_append_right _ (List.mem_append_right _ (List.mem_append_right _ (List.mem_append_right _ (List.mem_append_left _ (List.mem_of_getElem? h))))), g⟩
theorem tm_in5 {w : Cond} (i : Nat) (h : tables_1_5[i]? = some w) (g : goodWord w = true) : w ∈ ALL := List.mem_filter.mpr ⟨List.mem_append_right _ (List.mem_append_right _ (List.mem_append_right _ (List.mem_append_right _ (List.mem_append_right _ (List.mem_append_left _ (List.mem_of_getElem? h)))))), g⟩
theorem tm_in6 {w : Cond} (i : Nat) (h : tables_1_6[i]? = some w) (g : goodWord w = true) : w ∈ ALL := List.mem_filter.mpr ⟨List.mem_append_right _ (List.mem_append_right _ (List.mem_append_right _ (List.mem_append_right _ (List.mem_append_right _ (List.mem_append_right _ (List.mem_of_getElem? h)))))), g⟩
theorem tm_nn1 {w : Cond} (i : Nat) (h : tables_1_1[i]? = some w) (g : tm_nw w = true) : w ∈ NW := List.mem_filter.mpr ⟨List.mem_append_right _ (List.mem_append_left _ (List.mem_of_getElem? h)), g⟩
theorem tm_nn2 {w : Cond} (i : Nat) (h : tables_1_2[i]? = some w) (g : tm_nw w = true) : w ∈ NW := List.mem_filter.mpr ⟨List.mem_append_right _ (List.mem_append_right _ (List.mem_append_left _ (List.mem_of_getElem? h))), g⟩
theorem tm_nn3 {w : Cond} (i : Nat) (h : tables_1_3[i]? = some w) (g : tm_nw w = true) : w ∈ NW := List.mem_filter.mpr ⟨List.mem_append_right _ (List.mem_append_right _ (List.mem_append_right _ (List.mem_append_left _ (List.mem_of_getElem? h)))), g⟩
theorem tm_nn4 {w : Cond} (i : Nat) (h : tables_1_4[i]? = some w) (g : tm_nw w = true) : w ∈ NW := List.mem_filter.mpr ⟨List.mem_append_right _ (List.mem_append_right _ (List.mem_append_right _ (List.mem_append_right _ (List.mem_append_left _ (List.mem_of_getElem? h))))), g⟩
theorem tm_nn5 {w : Cond} (i : Nat) (h : tables_1_5[i]? = some w) (g : tm_nw w = true) : w ∈ NW := List.mem_filter.mpr ⟨List.mem_append_right _ (List.mem_append_right _ (List.mem_append_right _ (List.mem_append_right _ (List.mem_append_right _ (List.mem_append_left _ (List.mem_of_getElem? h)))))), g⟩
theorem tm_nn6 {w : Cond} (i : Nat) (h : tables_1_6[i]? = some w) (g : tm_nw w = true) : w ∈ NW := List.mem_filter.mpr ⟨List.mem_append_right _ (List.mem_append_right _ (List.mem_append_right _ (List.mem_append_right _ (List.mem_append_right _ (List.mem_append_right _ (List.mem_of_getElem? h)))))), g⟩
theorem tm_inS {q : MethodName × Nat} (i : Nat) (h : lw_privs[i]? = some q) (g : goodWord (Cond.selects q.1.cls q.1 q.1) = true) : Cond.selects q.1.cls q.1 q.1 ∈ ALL := List.mem_filter.mpr ⟨List.mem_append_left _ (List.mem_map_of_mem (List.mem_of_getElem? h)), g⟩
end
section
theorem dJx4a65c_init_da8c8_0 : decode cJx4a65c_init_da8c8 0 = .ok (.aload_n 0, 1) := by decide +kernel
theorem dJx4a65c_init_da8c8_1 : decode cJx4a65c_init_da8c8 1 = .ok (.invokespecial 1, 3) := by decide +kernel
theorem dJx4a65c_init_da8c8_4 : decode cJx4a65c_init_da8c8 4 = .ok (.aload_n 0, 1) := by decide +kernel
theorem dJx4a65c_init_da8c8_5 : decode cJx4a65c_init_da8c8 5 = .ok (.getstatic 39, 3) := by decide +kernel
theorem dJx4a65c_init_da8c8_8 : decode cJx4a65c_init_da8c8 8 = .ok (.putfield 9, 3) := by decide +kernel
theorem dJx4a65c_init_da8c8_11 : decode cJx4a65c_init_da8c8 11 = .ok (.return_, 1) := by decide +kernel
theorem dJx4a65c_grow_92f84_0 : decode cJx4a65c_grow_92f84 0 = .ok (.aload_n 0, 1) := by decide +kernel
theorem dJx4a65c_grow_92f84_1 : decode cJx4a65c_grow_92f84 1 = .ok (.getfield 9, 3) := by decide +kernel
theorem dJx4a65c_grow_92f84_4 : decode cJx4a65c_grow_92f84 4 = .ok (.arraylength, 1) := by decide +kernel
theorem dJx4a65c_grow_92f84_5 : decode cJx4a65c_grow_92f84 5 = .ok (.istore_n 2, 1) := by decide +kernel
theorem dJx4a65c_grow_92f84_6 : decode cJx4a65c_grow_92f84 6 = .ok (.iload_n 2, 1) := by decide +kernel
theorem dJx4a65c_grow_92f84_7 : decode cJx4a65c_grow_92f84 7 = .ok (.ifCond .gt 13, 3) := by decide +kernel
theorem dJx4a65c_grow_92f84_10 : decode cJx4a65c_grow_92f84 10 = .ok (.aload_n 0, 1) := by decide +kernel
theorem dJx4a65c_grow_92f84_11 : decode cJx4a65c_grow_92f84 11 = .ok (.getfield 9, 3) := by decide +kernel
theorem dJx4a65c_grow_92f84_14 : decode cJx4a65c_grow_92f84 14 = .ok (.getstatic 39, 3) := by decide +kernel
theorem dJx4a65c_grow_92f84_17 : decode cJx4a65c_grow_92f84 17 = .ok (.if_acmp .eq 28, 3) := by decide +kernel
theorem dJx4a65c_grow_92f84_20 : decode cJx4a65c_grow_92f84 20 = .ok (.iload_n 2, 1) := by decide +kernel
theorem dJx4a65c_grow_92f84_21 : decode cJx4a65c_grow_92f84 21 = .ok (.iload_n 1, 1) := by decide +kernel
theorem dJx4a65c_grow_92f84_22 : decode cJx4a65c_grow_92f84 22 = .ok (.iload_n 2, 1) := by decide +kernel
theorem dJx4a65c_grow_92f84_23 : decode cJx4a65c_grow_92f84 23 = .ok (.isub, 1) := by decide +kernel
theorem dJx4a65c_grow_92f84_24 : decode cJx4a65c_grow_92f84 24 = .ok (.iload_n 2, 1) := by decide +kernel
theorem dJx4a65c_grow_92f84_25 : decode cJx4a65c_grow_92f84 25 = .ok (.iconst 1, 1) := by decide +kernel
theorem dJx4a65c_grow_92f84_26 : decode cJx4a65c_grow_92f84 26 = .ok (.ishr, 1) := by decide +kernel
theorem dJx4a65c_grow_92f84_27 : decode cJx4a65c_grow_92f84 27 = .ok (.invokestatic 73, 3) := by decide +kernel
theorem dJx4a65c_grow_92f84_30 : decode cJx4a65c_grow_92f84 30 = .ok (.istore_n 3, 1) := by decide +kernel
theorem dJx4a65c_grow_92f84_31 : decode cJx4a65c_grow_92f84 31 = .ok (.aload_n 0, 1) := by decide +kernel
theorem dJx4a65c_grow_92f84_32 : decode cJx4a65c_grow_92f84 32 = .ok (.aload_n 0, 1) := by decide +kernel
theorem dJx4a65c_grow_92f84_33 : decode cJx4a65c_grow_92f84 33 = .ok (.getfield 9, 3) := by decide +kernel
theorem dJx4a65c_grow_92f84_36 : decode cJx4a65c_grow_92f84 36 = .ok (.iload_n 3, 1) := by decide +kernel
theorem dJx4a65c_grow_92f84_37 : decode cJx4a65c_grow_92f84 37 = .ok (.invokestatic 66, 3) := by decide +kernel
theorem dJx4a65c_grow_92f84_40 : decode cJx4a65c_grow_92f84 40 = .ok (.dup_x1, 1) := by decide +kernel
theorem dJx4a65c_grow_92f84_41 : decode cJx4a65c_grow_92f84 41 = .ok (.putfield 9, 3) := by decide +kernel
theorem dJx4a65c_grow_92f84_44 : decode cJx4a65c_grow_92f84 44 = .ok (.areturn, 1) := by decide +kernel
theorem dJx4a65c_grow_92f84_45 : decode cJx4a65c_grow_92f84 45 = .ok (.aload_n 0, 1) := by decide +kernel
theorem dJx4a65c_grow_92f84_46 : decode cJx4a65c_grow_92f84 46 = .ok (.bipush 10, 2) := by decide +kernel
theorem dJx4a65c_grow_92f84_48 : decode cJx4a65c_grow_92f84 48 = .ok (.iload_n 1, 1) := by decide +kernel
theorem dJx4a65c_grow_92f84_49 : decode cJx4a65c_grow_92f84 49 = .ok (.invokestatic 79, 3) := by decide +kernel
theorem dJx4a65c_grow_92f84_52 : decode cJx4a65c_grow_92f84 52 = .ok (.anewarray 7, 3) := by decide +kernel
theorem dJx4a65c_grow_92f84_55 : decode cJx4a65c_grow_92f84 55 = .ok (.dup_x1, 1) := by decide +kernel
theorem dJx4a65c_grow_92f84_56 : decode cJx4a65c_grow_92f84 56 = .ok (.putfield 9, 3) := by decide +kernel
theorem dJx4a65c_grow_92f84_59 : decode cJx4a65c_grow_92f84 59 = .ok (.areturn, 1) := by decide +kernel
theorem dJx4a65c_grow_d5877_0 : decode cJx4a65c_grow_d5877 0 = .ok (.aload_n 0, 1) := by decide +kernel
theorem dJx4a65c_grow_d5877_1 : decode cJx4a65c_grow_d5877 1 = .ok (.aload_n 0, 1) := by decide +kernel
theorem dJx4a65c_grow_d5877_2 : decode cJx4a65c_grow_d5877 2 = .ok (.getfield 48, 3) := by decide +kernel
theorem dJx4a65c_grow_d5877_5 : decode cJx4a65c_grow_d5877 5 = .ok (.iconst 1, 1) := by decide +kernel
theorem dJx4a65c_grow_d5877_6 : decode cJx4a65c_grow_d5877 6 = .ok (.iadd, 1) := by decide +kernel
theorem dJx4a65c_grow_d5877_7 : decode cJx4a65c_grow_d5877 7 = .ok (.invokevirtual 69, 3) := by decide +kernel
theorem dJx4a65c_grow_d5877_10 : decode cJx4a65c_grow_d5877 10 = .ok (.areturn, 1) := by decide +kernel
theorem dJx4a65c_size_8abf5_0 : decode cJx4a65c_size_8abf5 0 = .ok (.aload_n 0, 1) := by decide +kernel
theorem dJx4a65c_size_8abf5_1 : decode cJx4a65c_size_8abf5 1 = .ok (.getfield 48, 3) := by decide +kernel
theorem dJx4a65c_size_8abf5_4 : decode cJx4a65c_size_8abf5 4 = .ok (.ireturn, 1) := by decide +kernel
theorem dJx4a65c_isEmpty_aae02_0 : decode cJx4a65c_isEmpty_aae02 0 = .ok (.aload_n 0, 1) := by decide +kernel
theorem dJx4a65c_isEmpty_aae02_1 : decode cJx4a65c_isEmpty_aae02 1 = .ok (.getfield 48, 3) := by decide +kernel
theorem dJx4a65c_isEmpty_aae02_4 : decode cJx4a65c_isEmpty_aae02 4 = .ok (.ifCond .ne 7, 3) := by decide +kernel
theorem dJx4a65c_isEmpty_aae02_7 : decode cJx4a65c_isEmpty_aae02 7 = .ok (.iconst 1, 1) := by decide +kernel
theorem dJx4a65c_isEmpty_aae02_8 : decode cJx4a65c_isEmpty_aae02 8 = .ok (.goto 4, 3) := by decide +kernel
theorem dJx4a65c_isEmpty_aae02_11 : decode cJx4a65c_isEmpty_aae02 11 = .ok (.iconst 0, 1) := by decide +kernel
theorem dJx4a65c_isEmpty_aae02_12 : decode cJx4a65c_isEmpty_aae02 12 = .ok (.ireturn, 1) := by decide +kernel
theorem dJx4a65c_elementData_915e3_0 : decode cJx4a65c_elementData_915e3 0 = .ok (.aload_n 0, 1) := by decide +kernel
theorem dJx4a65c_elementData_915e3_1 : decode cJx4a65c_elementData_915e3 1 = .ok (.getfield 9, 3) := by decide +kernel
theorem dJx4a65c_elementData_915e3_4 : decode cJx4a65c_elementData_915e3 4 = .ok (.iload_n 1, 1) := by decide +kernel
theorem dJx4a65c_elementData_915e3_5 : decode cJx4a65c_elementData_915e3 5 = .ok (.aaload, 1) := by decide +kernel
theorem dJx4a65c_elementData_915e3_6 : decode cJx4a65c_elementData_915e3 6 = .ok (.areturn, 1) := by decide +kernel
theorem dJx4a65c_get_915e3_0 : decode cJx4a65c_get_915e3 0 = .ok (.iload_n 1, 1) := by decide +kernel
theorem dJx4a65c_get_915e3_1 : decode cJx4a65c_get_915e3 1 = .ok (.aload_n 0, 1) := by decide +kernel
theorem dJx4a65c_get_915e3_2 : decode cJx4a65c_get_915e3 2 = .ok (.getfield 48, 3) := by decide +kernel
theorem dJx4a65c_get_915e3_5 : decode cJx4a65c_get_915e3 5 = .ok (.invokestatic 118, 3) := by decide +kernel
theorem dJx4a65c_get_915e3_8 : decode cJx4a65c_get_915e3 8 = .ok (.pop, 1) := by decide +kernel
theorem dJx4a65c_get_915e3_9 : decode cJx4a65c_get_915e3 9 = .ok (.aload_n 0, 1) := by decide +kernel
theorem dJx4a65c_get_915e3_10 : decode cJx4a65c_get_915e3 10 = .ok (.iload_n 1, 1) := by decide +kernel
theorem dJx4a65c_get_915e3_11 : decode cJx4a65c_get_915e3 11 = .ok (.invokevirtual 123, 3) := by decide +kernel
theorem dJx4a65c_get_915e3_14 : decode cJx4a65c_get_915e3 14 = .ok (.areturn, 1) := by decide +kernel
theorem dJx4a65c_add_72be8_0 : decode cJx4a65c_add_72be8 0 = .ok (.iload_n 3, 1) := by decide +kernel
theorem dJx4a65c_add_72be8_1 : decode cJx4a65c_add_72be8 1 = .ok (.aload_n 2, 1) := by decide +kernel
theorem dJx4a65c_add_72be8_2 : decode cJx4a65c_add_72be8 2 = .ok (.arraylength, 1) := by decide +kernel
theorem dJx4a65c_add_72be8_3 : decode cJx4a65c_add_72be8 3 = .ok (.if_icmp .ne 8, 3) := by decide +kernel
theorem dJx4a65c_add_72be8_6 : decode cJx4a65c_add_72be8 6 = .ok (.aload_n 0, 1) := by decide +kernel
theorem dJx4a65c_add_72be8_7 : decode cJx4a65c_add_72be8 7 = .ok (.invokevirtual 129, 3) := by decide +kernel
theorem dJx4a65c_add_72be8_10 : decode cJx4a65c_add_72be8 10 = .ok (.astore_n 2, 1) := by decide +kernel
theorem dJx4a65c_add_72be8_11 : decode cJx4a65c_add_72be8 11 = .ok (.aload_n 2, 1) := by decide +kernel
theorem dJx4a65c_add_72be8_12 : decode cJx4a65c_add_72be8 12 = .ok (.iload_n 3, 1) := by decide +kernel
theorem dJx4a65c_add_72be8_13 : decode cJx4a65c_add_72be8 13 = .ok (.aload_n 1, 1) := by decide +kernel
theorem dJx4a65c_add_72be8_14 : decode cJx4a65c_add_72be8 14 = .ok (.aastore, 1) := by decide +kernel
theorem dJx4a65c_add_72be8_15 : decode cJx4a65c_add_72be8 15 = .ok (.aload_n 0, 1) := by decide +kernel
theorem dJx4a65c_add_72be8_16 : decode cJx4a65c_add_72be8 16 = .ok (.iload_n 3, 1) := by decide +kernel
theorem dJx4a65c_add_72be8_17 : decode cJx4a65c_add_72be8 17 = .ok (.iconst 1, 1) := by decide +kernel
theorem dJx4a65c_add_72be8_18 : decode cJx4a65c_add_72be8 18 = .ok (.iadd, 1) := by decide +kernel
theorem dJx4a65c_add_72be8_19 : decode cJx4a65c_add_72be8 19 = .ok (.putfield 48, 3) := by decide +kernel
theorem dJx4a65c_add_72be8_22 : decode cJx4a65c_add_72be8 22 = .ok (.return_, 1) := by decide +kernel
theorem dJx4a65c_add_9ea2d_0 : decode cJx4a65c_add_9ea2d 0 = .ok (.aload_n 0, 1) := by decide +kernel
theorem dJx4a65c_add_9ea2d_1 : decode cJx4a65c_add_9ea2d 1 = .ok (.dup, 1) := by decide +kernel
theorem dJx4a65c_add_9ea2d_2 : decode cJx4a65c_add_9ea2d 2 = .ok (.getfield 63, 3) := by decide +kernel
theorem dJx4a65c_add_9ea2d_5 : decode cJx4a65c_add_9ea2d 5 = .ok (.iconst 1, 1) := by decide +kernel
theorem dJx4a65c_add_9ea2d_6 : decode cJx4a65c_add_9ea2d 6 = .ok (.iadd, 1) := by decide +kernel
theorem dJx4a65c_add_9ea2d_7 : decode cJx4a65c_add_9ea2d 7 = .ok (.putfield 63, 3) := by decide +kernel
theorem dJx4a65c_add_9ea2d_10 : decode cJx4a65c_add_9ea2d 10 = .ok (.aload_n 0, 1) := by decide +kernel
theorem dJx4a65c_add_9ea2d_11 : decode cJx4a65c_add_9ea2d 11 = .ok (.aload_n 1, 1) := by decide +kernel
theorem dJx4a65c_add_9ea2d_12 : decode cJx4a65c_add_9ea2d 12 = .ok (.aload_n 0, 1) := by decide +kernel
theorem dJx4a65c_add_9ea2d_13 : decode cJx4a65c_add_9ea2d 13 = .ok (.getfield 9, 3) := by decide +kernel
theorem dJx4a65c_add_9ea2d_16 : decode cJx4a65c_add_9ea2d 16 = .ok (.aload_n 0, 1) := by decide +kernel
theorem dJx4a65c_add_9ea2d_17 : decode cJx4a65c_add_9ea2d 17 = .ok (.getfield 48, 3) := by decide +kernel
theorem dJx4a65c_add_9ea2d_20 : decode cJx4a65c_add_9ea2d 20 = .ok (.invokevirtual 131, 3) := by decide +kernel
theorem dJx4a65c_add_9ea2d_23 : decode cJx4a65c_add_9ea2d 23 = .ok (.iconst 1, 1) := by decide +kernel
theorem dJx4a65c_add_9ea2d_24 : decode cJx4a65c_add_9ea2d 24 = .ok (.ireturn, 1) := by decide +kernel
theorem dJx4a65c_add_7a177_0 : decode cJx4a65c_add_7a177 0 = .ok (.aload_n 0, 1) := by decide +kernel
theorem dJx4a65c_add_7a177_1 : decode cJx4a65c_add_7a177 1 = .ok (.iload_n 1, 1) := by decide +kernel
theorem dJx4a65c_add_7a177_2 : decode cJx4a65c_add_7a177 2 = .ok (.invokevirtual 135, 3) := by decide +kernel
theorem dJx4a65c_add_7a177_5 : decode cJx4a65c_add_7a177 5 = .ok (.aload_n 0, 1) := by decide +kernel
theorem dJx4a65c_add_7a177_6 : decode cJx4a65c_add_7a177 6 = .ok (.dup, 1) := by decide +kernel
theorem dJx4a65c_add_7a177_7 : decode cJx4a65c_add_7a177 7 = .ok (.getfield 63, 3) := by decide +kernel
theorem dJx4a65c_add_7a177_10 : decode cJx4a65c_add_7a177 10 = .ok (.iconst 1, 1) := by decide +kernel
theorem dJx4a65c_add_7a177_11 : decode cJx4a65c_add_7a177 11 = .ok (.iadd, 1) := by decide +kernel
theorem dJx4a65c_add_7a177_12 : decode cJx4a65c_add_7a177 12 = .ok (.putfield 63, 3) := by decide +kernel
theorem dJx4a65c_add_7a177_15 : decode cJx4a65c_add_7a177 15 = .ok (.aload_n 0, 1) := by decide +kernel
theorem dJx4a65c_add_7a177_16 : decode cJx4a65c_add_7a177 16 = .ok (.getfield 48, 3) := by decide +kernel
theorem dJx4a65c_add_7a177_19 : decode cJx4a65c_add_7a177 19 = .ok (.dup, 1) := by decide +kernel
theorem dJx4a65c_add_7a177_20 : decode cJx4a65c_add_7a177 20 = .ok (.istore_n 3, 1) := by decide +kernel
theorem dJx4a65c_add_7a177_21 : decode cJx4a65c_add_7a177 21 = .ok (.aload_n 0, 1) := by decide +kernel
theorem dJx4a65c_add_7a177_22 : decode cJx4a65c_add_7a177 22 = .ok (.getfield 9, 3) := by decide +kernel
theorem dJx4a65c_add_7a177_25 : decode cJx4a65c_add_7a177 25 = .ok (.dup, 1) := by decide +kernel
theorem dJx4a65c_add_7a177_26 : decode cJx4a65c_add_7a177 26 = .ok (.astore 4, 2) := by decide +kernel
theorem dJx4a65c_add_7a177_28 : decode cJx4a65c_add_7a177 28 = .ok (.arraylength, 1) := by decide +kernel
theorem dJx4a65c_add_7a177_29 : decode cJx4a65c_add_7a177 29 = .ok (.if_icmp .ne 9, 3) := by decide +kernel
theorem dJx4a65c_add_7a177_32 : decode cJx4a65c_add_7a177 32 = .ok (.aload_n 0, 1) := by decide +kernel
theorem dJx4a65c_add_7a177_33 : decode cJx4a65c_add_7a177 33 = .ok (.invokevirtual 129, 3) := by decide +kernel
theorem dJx4a65c_add_7a177_36 : decode cJx4a65c_add_7a177 36 = .ok (.astore 4, 2) := by decide +kernel
theorem dJx4a65c_add_7a177_38 : decode cJx4a65c_add_7a177 38 = .ok (.aload 4, 2) := by decide +kernel
theorem dJx4a65c_add_7a177_40 : decode cJx4a65c_add_7a177 40 = .ok (.iload_n 1, 1) := by decide +kernel
theorem dJx4a65c_add_7a177_41 : decode cJx4a65c_add_7a177 41 = .ok (.aload 4, 2) := by decide +kernel
theorem dJx4a65c_add_7a177_43 : decode cJx4a65c_add_7a177 43 = .ok (.iload_n 1, 1) := by decide +kernel
theorem dJx4a65c_add_7a177_44 : decode cJx4a65c_add_7a177 44 = .ok (.iconst 1, 1) := by decide +kernel
theorem dJx4a65c_add_7a177_45 : decode cJx4a65c_add_7a177 45 = .ok (.iadd, 1) := by decide +kernel
theorem dJx4a65c_add_7a177_46 : decode cJx4a65c_add_7a177 46 = .ok (.iload_n 3, 1) := by decide +kernel
theorem dJx4a65c_add_7a177_47 : decode cJx4a65c_add_7a177 47 = .ok (.iload_n 1, 1) := by decide +kernel
theorem dJx4a65c_add_7a177_48 : decode cJx4a65c_add_7a177 48 = .ok (.isub, 1) := by decide +kernel
theorem dJx4a65c_add_7a177_49 : decode cJx4a65c_add_7a177 49 = .ok (.invokestatic 112, 3) := by decide +kernel
theorem dJx4a65c_add_7a177_52 : decode cJx4a65c_add_7a177 52 = .ok (.aload 4, 2) := by decide +kernel
theorem dJx4a65c_add_7a177_54 : decode cJx4a65c_add_7a177 54 = .ok (.iload_n 1, 1) := by decide +kernel
theorem dJx4a65c_add_7a177_55 : decode cJx4a65c_add_7a177 55 = .ok (.aload_n 2, 1) := by decide +kernel
theorem dJx4a65c_add_7a177_56 : decode cJx4a65c_add_7a177 56 = .ok (.aastore, 1) := by decide +kernel
theorem dJx4a65c_add_7a177_57 : decode cJx4a65c_add_7a177 57 = .ok (.aload_n 0, 1) := by decide +kernel
theorem dJx4a65c_add_7a177_58 : decode cJx4a65c_add_7a177 58 = .ok (.iload_n 3, 1) := by decide +kernel
theorem dJx4a65c_add_7a177_59 : decode cJx4a65c_add_7a177 59 = .ok (.iconst 1, 1) := by decide +kernel
theorem dJx4a65c_add_7a177_60 : decode cJx4a65c_add_7a177 60 = .ok (.iadd, 1) := by decide +kernel
theorem dJx4a65c_add_7a177_61 : decode cJx4a65c_add_7a177 61 = .ok (.putfield 48, 3) := by decide +kernel
theorem dJx4a65c_add_7a177_64 : decode cJx4a65c_add_7a177 64 = .ok (.return_, 1) := by decide +kernel
theorem dJx4a65c_remove_915e3_0 : decode cJx4a65c_remove_915e3 0 = .ok (.iload_n 1, 1) := by decide +kernel
theorem dJx4a65c_remove_915e3_1 : decode cJx4a65c_remove_915e3 1 = .ok (.aload_n 0, 1) := by decide +kernel
theorem dJx4a65c_remove_915e3_2 : decode cJx4a65c_remove_915e3 2 = .ok (.getfield 48, 3) := by decide +kernel
theorem dJx4a65c_remove_915e3_5 : decode cJx4a65c_remove_915e3 5 = .ok (.invokestatic 118, 3) := by decide +kernel
theorem dJx4a65c_remove_915e3_8 : decode cJx4a65c_remove_915e3 8 = .ok (.pop, 1) := by decide +kernel
theorem dJx4a65c_remove_915e3_9 : decode cJx4a65c_remove_915e3 9 = .ok (.aload_n 0, 1) := by decide +kernel
theorem dJx4a65c_remove_915e3_10 : decode cJx4a65c_remove_915e3 10 = .ok (.getfield 9, 3) := by decide +kernel
theorem dJx4a65c_remove_915e3_13 : decode cJx4a65c_remove_915e3 13 = .ok (.astore_n 2, 1) := by decide +kernel
theorem dJx4a65c_remove_915e3_14 : decode cJx4a65c_remove_915e3 14 = .ok (.aload_n 2, 1) := by decide +kernel
theorem dJx4a65c_remove_915e3_15 : decode cJx4a65c_remove_915e3 15 = .ok (.iload_n 1, 1) := by decide +kernel
theorem dJx4a65c_remove_915e3_16 : decode cJx4a65c_remove_915e3 16 = .ok (.aaload, 1) := by decide +kernel
theorem dJx4a65c_remove_915e3_17 : decode cJx4a65c_remove_915e3 17 = .ok (.astore_n 3, 1) := by decide +kernel
theorem dJx4a65c_remove_915e3_18 : decode cJx4a65c_remove_915e3 18 = .ok (.aload_n 0, 1) := by decide +kernel
theorem dJx4a65c_remove_915e3_19 : decode cJx4a65c_remove_915e3 19 = .ok (.aload_n 2, 1) := by decide +kernel
theorem dJx4a65c_remove_915e3_20 : decode cJx4a65c_remove_915e3 20 = .ok (.iload_n 1, 1) := by decide +kernel
theorem dJx4a65c_remove_915e3_21 : decode cJx4a65c_remove_915e3 21 = .ok (.invokevirtual 144, 3) := by decide +kernel
theorem dJx4a65c_remove_915e3_24 : decode cJx4a65c_remove_915e3 24 = .ok (.aload_n 3, 1) := by decide +kernel
theorem dJx4a65c_remove_915e3_25 : decode cJx4a65c_remove_915e3 25 = .ok (.areturn, 1) := by decide +kernel
theorem dJx4a65c_fastRemove_b59b0_0 : decode cJx4a65c_fastRemove_b59b0 0 = .ok (.aload_n 0, 1) := by decide +kernel
theorem dJx4a65c_fastRemove_b59b0_1 : decode cJx4a65c_fastRemove_b59b0 1 = .ok (.dup, 1) := by decide +kernel
theorem dJx4a65c_fastRemove_b59b0_2 : decode cJx4a65c_fastRemove_b59b0 2 = .ok (.getfield 63, 3) := by decide +kernel
theorem dJx4a65c_fastRemove_b59b0_5 : decode cJx4a65c_fastRemove_b59b0 5 = .ok (.iconst 1, 1) := by decide +kernel
theorem dJx4a65c_fastRemove_b59b0_6 : decode cJx4a65c_fastRemove_b59b0 6 = .ok (.iadd, 1) := by decide +kernel
theorem dJx4a65c_fastRemove_b59b0_7 : decode cJx4a65c_fastRemove_b59b0 7 = .ok (.putfield 63, 3) := by decide +kernel
theorem dJx4a65c_fastRemove_b59b0_10 : decode cJx4a65c_fastRemove_b59b0 10 = .ok (.aload_n 0, 1) := by decide +kernel
theorem dJx4a65c_fastRemove_b59b0_11 : decode cJx4a65c_fastRemove_b59b0 11 = .ok (.getfield 48, 3) := by decide +kernel
theorem dJx4a65c_fastRemove_b59b0_14 : decode cJx4a65c_fastRemove_b59b0 14 = .ok (.iconst 1, 1) := by decide +kernel
theorem dJx4a65c_fastRemove_b59b0_15 : decode cJx4a65c_fastRemove_b59b0 15 = .ok (.isub, 1) := by decide +kernel
theorem dJx4a65c_fastRemove_b59b0_16 : decode cJx4a65c_fastRemove_b59b0 16 = .ok (.dup, 1) := by decide +kernel
theorem dJx4a65c_fastRemove_b59b0_17 : decode cJx4a65c_fastRemove_b59b0 17 = .ok (.istore_n 3, 1) := by decide +kernel
theorem dJx4a65c_fastRemove_b59b0_18 : decode cJx4a65c_fastRemove_b59b0 18 = .ok (.iload_n 2, 1) := by decide +kernel
theorem dJx4a65c_fastRemove_b59b0_19 : decode cJx4a65c_fastRemove_b59b0 19 = .ok (.if_icmp .le 15, 3) := by decide +kernel
theorem dJx4a65c_fastRemove_b59b0_22 : decode cJx4a65c_fastRemove_b59b0 22 = .ok (.aload_n 1, 1) := by decide +kernel
theorem dJx4a65c_fastRemove_b59b0_23 : decode cJx4a65c_fastRemove_b59b0 23 = .ok (.iload_n 2, 1) := by decide +kernel
theorem dJx4a65c_fastRemove_b59b0_24 : decode cJx4a65c_fastRemove_b59b0 24 = .ok (.iconst 1, 1) := by decide +kernel
theorem dJx4a65c_fastRemove_b59b0_25 : decode cJx4a65c_fastRemove_b59b0 25 = .ok (.iadd, 1) := by decide +kernel
theorem dJx4a65c_fastRemove_b59b0_26 : decode cJx4a65c_fastRemove_b59b0 26 = .ok (.aload_n 1, 1) := by decide +kernel
theorem dJx4a65c_fastRemove_b59b0_27 : decode cJx4a65c_fastRemove_b59b0 27 = .ok (.iload_n 2, 1) := by decide +kernel
theorem dJx4a65c_fastRemove_b59b0_28 : decode cJx4a65c_fastRemove_b59b0 28 = .ok (.iload_n 3, 1) := by decide +kernel
theorem dJx4a65c_fastRemove_b59b0_29 : decode cJx4a65c_fastRemove_b59b0 29 = .ok (.iload_n 2, 1) := by decide +kernel
theorem dJx4a65c_fastRemove_b59b0_30 : decode cJx4a65c_fastRemove_b59b0 30 = .ok (.isub, 1) := by decide +kernel
theorem dJx4a65c_fastRemove_b59b0_31 : decode cJx4a65c_fastRemove_b59b0 31 = .ok (.invokestatic 112, 3) := by decide +kernel
theorem dJx4a65c_fastRemove_b59b0_34 : decode cJx4a65c_fastRemove_b59b0 34 = .ok (.aload_n 1, 1) := by decide +kernel
theorem dJx4a65c_fastRemove_b59b0_35 : decode cJx4a65c_fastRemove_b59b0 35 = .ok (.aload_n 0, 1) := by decide +kernel
theorem dJx4a65c_fastRemove_b59b0_36 : decode cJx4a65c_fastRemove_b59b0 36 = .ok (.iload_n 3, 1) := by decide +kernel
theorem dJx4a65c_fastRemove_b59b0_37 : decode cJx4a65c_fastRemove_b59b0 37 = .ok (.dup_x1, 1) := by decide +kernel
theorem dJx4a65c_fastRemove_b59b0_38 : decode cJx4a65c_fastRemove_b59b0 38 = .ok (.putfield 48, 3) := by decide +kernel
theorem dJx4a65c_fastRemove_b59b0_41 : decode cJx4a65c_fastRemove_b59b0 41 = .ok (.aconst_null, 1) := by decide +kernel
theorem dJx4a65c_fastRemove_b59b0_42 : decode cJx4a65c_fastRemove_b59b0 42 = .ok (.aastore, 1) := by decide +kernel
theorem dJx4a65c_fastRemove_b59b0_43 : decode cJx4a65c_fastRemove_b59b0 43 = .ok (.return_, 1) := by decide +kernel
theorem dJx4a65c_rangeCheckForAdd_d00df_0 : decode cJx4a65c_rangeCheckForAdd_d00df 0 = .ok (.iload_n 1, 1) := by decide +kernel
theorem dJx4a65c_rangeCheckForAdd_d00df_1 : decode cJx4a65c_rangeCheckForAdd_d00df 1 = .ok (.aload_n 0, 1) := by decide +kernel
theorem dJx4a65c_rangeCheckForAdd_d00df_2 : decode cJx4a65c_rangeCheckForAdd_d00df 2 = .ok (.getfield 48, 3) := by decide +kernel
theorem dJx4a65c_rangeCheckForAdd_d00df_5 : decode cJx4a65c_rangeCheckForAdd_d00df 5 = .ok (.if_icmp .gt 7, 3) := by decide +kernel
theorem dJx4a65c_rangeCheckForAdd_d00df_8 : decode cJx4a65c_rangeCheckForAdd_d00df 8 = .ok (.iload_n 1, 1) := by decide +kernel
theorem dJx4a65c_rangeCheckForAdd_d00df_9 : decode cJx4a65c_rangeCheckForAdd_d00df 9 = .ok (.ifCond .ge 16, 3) := by decide +kernel
theorem dJx4a65c_rangeCheckForAdd_d00df_12 : decode cJx4a65c_rangeCheckForAdd_d00df 12 = .ok (.new 187, 3) := by decide +kernel
theorem dJx4a65c_rangeCheckForAdd_d00df_15 : decode cJx4a65c_rangeCheckForAdd_d00df 15 = .ok (.dup, 1) := by decide +kernel
theorem dJx4a65c_rangeCheckForAdd_d00df_16 : decode cJx4a65c_rangeCheckForAdd_d00df 16 = .ok (.aload_n 0, 1) := by decide +kernel
theorem dJx4a65c_rangeCheckForAdd_d00df_17 : decode cJx4a65c_rangeCheckForAdd_d00df 17 = .ok (.iload_n 1, 1) := by decide +kernel
theorem dJx4a65c_rangeCheckForAdd_d00df_18 : decode cJx4a65c_rangeCheckForAdd_d00df 18 = .ok (.invokevirtual 198, 3) := by decide +kernel
theorem dJx4a65c_rangeCheckForAdd_d00df_21 : decode cJx4a65c_rangeCheckForAdd_d00df 21 = .ok (.invokespecial 193, 3) := by decide +kernel
theorem dJx4a65c_rangeCheckForAdd_d00df_24 : decode cJx4a65c_rangeCheckForAdd_d00df 24 = .ok (.athrow, 1) := by decide +kernel
theorem dJx4a65c_rangeCheckForAdd_d00df_25 : decode cJx4a65c_rangeCheckForAdd_d00df 25 = .ok (.return_, 1) := by decide +kernel
theorem dJxc12de_init_da8c8_0 : decode cJxc12de_init_da8c8 0 = .ok (.aload_n 0, 1) := by decide +kernel
theorem dJxc12de_init_da8c8_1 : decode cJxc12de_init_da8c8 1 = .ok (.invokespecial 1, 3) := by decide +kernel
theorem dJxc12de_init_da8c8_4 : decode cJxc12de_init_da8c8 4 = .ok (.aload_n 0, 1) := by decide +kernel
theorem dJxc12de_init_da8c8_5 : decode cJxc12de_init_da8c8 5 = .ok (.iconst 0, 1) := by decide +kernel
theorem dJxc12de_init_da8c8_6 : decode cJxc12de_init_da8c8 6 = .ok (.putfield 7, 3) := by decide +kernel
theorem dJxc12de_init_da8c8_9 : decode cJxc12de_init_da8c8 9 = .ok (.return_, 1) := by decide +kernel
theorem dJxa1e45_init_da8c8_0 : decode cJxa1e45_init_da8c8 0 = .ok (.aload_n 0, 1) := by decide +kernel
theorem dJxa1e45_init_da8c8_1 : decode cJxa1e45_init_da8c8 1 = .ok (.invokespecial 1, 3) := by decide +kernel
theorem dJxa1e45_init_da8c8_4 : decode cJxa1e45_init_da8c8 4 = .ok (.return_, 1) := by decide +kernel
theorem dJ7_copyOf_1904c_0 : decode cJ7_copyOf_1904c 0 = .ok (.aload_n 0, 1) := by decide +kernel
theorem dJ7_copyOf_1904c_1 : decode cJ7_copyOf_1904c 1 = .ok (.iload_n 1, 1) := by decide +kernel
theorem dJ7_copyOf_1904c_2 : decode cJ7_copyOf_1904c 2 = .ok (.aload_n 0, 1) := by decide +kernel
theorem dJ7_copyOf_1904c_3 : decode cJ7_copyOf_1904c 3 = .ok (.invokevirtual 86, 3) := by decide +kernel
theorem dJ7_copyOf_1904c_6 : decode cJ7_copyOf_1904c 6 = .ok (.invokestatic 300, 3) := by decide +kernel
theorem dJ7_copyOf_1904c_9 : decode cJ7_copyOf_1904c 9 = .ok (.areturn, 1) := by decide +kernel
theorem dJ7_copyOf_6403c_0 : decode cJ7_copyOf_6403c 0 = .ok (.aload_n 2, 1) := by decide +kernel
theorem dJ7_copyOf_6403c_1 : decode cJ7_copyOf_6403c 1 = .ok (.ldc 110, 2) := by decide +kernel
theorem dJ7_copyOf_6403c_3 : decode cJ7_copyOf_6403c 3 = .ok (.if_acmp .ne 10, 3) := by decide +kernel
theorem dJ7_copyOf_6403c_6 : decode cJ7_copyOf_6403c 6 = .ok (.iload_n 1, 1) := by decide +kernel
theorem dJ7_copyOf_6403c_7 : decode cJ7_copyOf_6403c 7 = .ok (.anewarray 2, 3) := by decide +kernel
theorem dJ7_copyOf_6403c_10 : decode cJ7_copyOf_6403c 10 = .ok (.goto 14, 3) := by decide +kernel
theorem dJ7_copyOf_6403c_13 : decode cJ7_copyOf_6403c 13 = .ok (.aload_n 2, 1) := by decide +kernel
theorem dJ7_copyOf_6403c_14 : decode cJ7_copyOf_6403c 14 = .ok (.invokevirtual 90, 3) := by decide +kernel
theorem dJ7_copyOf_6403c_17 : decode cJ7_copyOf_6403c 17 = .ok (.iload_n 1, 1) := by decide +kernel
theorem dJ7_copyOf_6403c_18 : decode cJ7_copyOf_6403c 18 = .ok (.invokestatic 95, 3) := by decide +kernel
theorem dJ7_copyOf_6403c_21 : decode cJ7_copyOf_6403c 21 = .ok (.checkcast 110, 3) := by decide +kernel
theorem dJ7_copyOf_6403c_24 : decode cJ7_copyOf_6403c 24 = .ok (.astore_n 3, 1) := by decide +kernel
theorem dJ7_copyOf_6403c_25 : decode cJ7_copyOf_6403c 25 = .ok (.aload_n 0, 1) := by decide +kernel
theorem dJ7_copyOf_6403c_26 : decode cJ7_copyOf_6403c 26 = .ok (.iconst 0, 1) := by decide +kernel
theorem dJ7_copyOf_6403c_27 : decode cJ7_copyOf_6403c 27 = .ok (.aload_n 3, 1) := by decide +kernel
theorem dJ7_copyOf_6403c_28 : decode cJ7_copyOf_6403c 28 = .ok (.iconst 0, 1) := by decide +kernel
theorem dJ7_copyOf_6403c_29 : decode cJ7_copyOf_6403c 29 = .ok (.aload_n 0, 1) := by decide +kernel
theorem dJ7_copyOf_6403c_30 : decode cJ7_copyOf_6403c 30 = .ok (.arraylength, 1) := by decide +kernel
theorem dJ7_copyOf_6403c_31 : decode cJ7_copyOf_6403c 31 = .ok (.iload_n 1, 1) := by decide +kernel
theorem dJ7_copyOf_6403c_32 : decode cJ7_copyOf_6403c 32 = .ok (.invokestatic 304, 3) := by decide +kernel
theorem dJ7_copyOf_6403c_35 : decode cJ7_copyOf_6403c 35 = .ok (.invokestatic 150, 3) := by decide +kernel
theorem dJ7_copyOf_6403c_38 : decode cJ7_copyOf_6403c 38 = .ok (.aload_n 3, 1) := by decide +kernel
theorem dJ7_copyOf_6403c_39 : decode cJ7_copyOf_6403c 39 = .ok (.areturn, 1) := by decide +kernel
theorem dJ15_checkIndex_7cf53_0 : decode cJ15_checkIndex_7cf53 0 = .ok (.iload_n 0, 1) := by decide +kernel
theorem dJ15_checkIndex_7cf53_1 : decode cJ15_checkIndex_7cf53 1 = .ok (.iload_n 1, 1) := by decide +kernel
theorem dJ15_checkIndex_7cf53_2 : decode cJ15_checkIndex_7cf53 2 = .ok (.aconst_null, 1) := by decide +kernel
theorem dJ15_checkIndex_7cf53_3 : decode cJ15_checkIndex_7cf53 3 = .ok (.invokestatic 105, 3) := by decide +kernel
theorem dJ15_checkIndex_7cf53_6 : decode cJ15_checkIndex_7cf53 6 = .ok (.ireturn, 1) := by decide +kernel
theorem dJ3_checkIndex_8e157_0 : decode cJ3_checkIndex_8e157 0 = .ok (.iload_n 0, 1) := by decide +kernel
theorem dJ3_checkIndex_8e157_1 : decode cJ3_checkIndex_8e157 1 = .ok (.ifCond .lt 8, 3) := by decide +kernel
theorem dJ3_checkIndex_8e157_4 : decode cJ3_checkIndex_8e157 4 = .ok (.iload_n 0, 1) := by decide +kernel
theorem dJ3_checkIndex_8e157_5 : decode cJ3_checkIndex_8e157 5 = .ok (.iload_n 1, 1) := by decide +kernel
theorem dJ3_checkIndex_8e157_6 : decode cJ3_checkIndex_8e157 6 = .ok (.if_icmp .lt 10, 3) := by decide +kernel
theorem dJ3_checkIndex_8e157_9 : decode cJ3_checkIndex_8e157 9 = .ok (.aload_n 2, 1) := by decide +kernel
theorem dJ3_checkIndex_8e157_10 : decode cJ3_checkIndex_8e157 10 = .ok (.iload_n 0, 1) := by decide +kernel
theorem dJ3_checkIndex_8e157_11 : decode cJ3_checkIndex_8e157 11 = .ok (.iload_n 1, 1) := by decide +kernel
theorem dJ3_checkIndex_8e157_12 : decode cJ3_checkIndex_8e157 12 = .ok (.invokestatic 95, 3) := by decide +kernel
theorem dJ3_checkIndex_8e157_15 : decode cJ3_checkIndex_8e157 15 = .ok (.athrow, 1) := by decide +kernel
theorem dJ3_checkIndex_8e157_16 : decode cJ3_checkIndex_8e157 16 = .ok (.iload_n 0, 1) := by decide +kernel
theorem dJ3_checkIndex_8e157_17 : decode cJ3_checkIndex_8e157 17 = .ok (.ireturn, 1) := by decide +kernel
theorem dJ8_newLength_cabcc_0 : decode cJ8_newLength_cabcc 0 = .ok (.iload_n 0, 1) := by decide +kernel
theorem dJ8_newLength_cabcc_1 : decode cJ8_newLength_cabcc 1 = .ok (.iload_n 1, 1) := by decide +kernel
theorem dJ8_newLength_cabcc_2 : decode cJ8_newLength_cabcc 2 = .ok (.iload_n 2, 1) := by decide +kernel
theorem dJ8_newLength_cabcc_3 : decode cJ8_newLength_cabcc 3 = .ok (.invokestatic 194, 3) := by decide +kernel
theorem dJ8_newLength_cabcc_6 : decode cJ8_newLength_cabcc 6 = .ok (.iadd, 1) := by decide +kernel
theorem dJ8_newLength_cabcc_7 : decode cJ8_newLength_cabcc 7 = .ok (.istore_n 3, 1) := by decide +kernel
theorem dJ8_newLength_cabcc_8 : decode cJ8_newLength_cabcc 8 = .ok (.iconst 0, 1) := by decide +kernel
theorem dJ8_newLength_cabcc_9 : decode cJ8_newLength_cabcc 9 = .ok (.iload_n 3, 1) := by decide +kernel
theorem dJ8_newLength_cabcc_10 : decode cJ8_newLength_cabcc 10 = .ok (.if_icmp .ge 11, 3) := by decide +kernel
theorem dJ8_newLength_cabcc_13 : decode cJ8_newLength_cabcc 13 = .ok (.iload_n 3, 1) := by decide +kernel
theorem dJ8_newLength_cabcc_14 : decode cJ8_newLength_cabcc 14 = .ok (.ldc 200, 2) := by decide +kernel
theorem dJ8_newLength_cabcc_16 : decode cJ8_newLength_cabcc 16 = .ok (.if_icmp .gt 5, 3) := by decide +kernel
theorem dJ8_newLength_cabcc_19 : decode cJ8_newLength_cabcc 19 = .ok (.iload_n 3, 1) := by decide +kernel
theorem dJ8_newLength_cabcc_20 : decode cJ8_newLength_cabcc 20 = .ok (.ireturn, 1) := by decide +kernel
theorem dJ8_newLength_cabcc_21 : decode cJ8_newLength_cabcc 21 = .ok (.iload_n 0, 1) := by decide +kernel
theorem dJ8_newLength_cabcc_22 : decode cJ8_newLength_cabcc 22 = .ok (.iload_n 1, 1) := by decide +kernel
theorem dJ8_newLength_cabcc_23 : decode cJ8_newLength_cabcc 23 = .ok (.invokestatic 201, 3) := by decide +kernel
theorem dJ8_newLength_cabcc_26 : decode cJ8_newLength_cabcc 26 = .ok (.ireturn, 1) := by decide +kernel
end
section
/-! The abstract world: a map from addresses to cells; frozen addresses Fz are never written. -/
abbrev tmO : Type := Nat → Option va_E
/-- an int as the machine holds it -/
abbrev I (n : Int) : Int32 := Int32.ofInt n
def tm_rg (n : Int) : Prop := -2147483648 ≤ n ∧ n ≤ 2147483647
theorem I_toInt {n : Int} (h : -2147483648 ≤ n ∧ n ≤ 2147483647) : (I n).toInt = n := Int32.toInt_ofInt_of_le (by omega) (by omega)
theorem I_of (x : Int32) : x = I x.toInt := (Int32.ofInt_toInt x).symm
theorem I_rg (x : Int32) : -2147483648 ≤ x.toInt ∧ x.toInt ≤ 2147483647 := ⟨by have := x.le_toInt; omega, by have := x.toInt_lt; omega⟩
theorem I_lt {a b : Int} (h : (-2147483648 ≤ a ∧ a ≤ 2147483647) ∧ -2147483648 ≤ b ∧ b ≤ 2147483647) : I a < I b ↔ a < b := by rw [Int32.lt_iff_toInt_lt, I_toInt h.1, I_toInt h.2]
theorem I_le {a b : Int} (h : (-2147483648 ≤ a ∧ a ≤ 2147483647) ∧ -2147483648 ≤ b ∧ b ≤ 2147483647) : I a ≤ I b ↔ a ≤ b := by rw [Int32.le_iff_toInt_le, I_toInt h.1, I_toInt h.2]
theorem I_eq {a b : Int} (h : (-2147483648 ≤ a ∧ a ≤ 2147483647) ∧ -2147483648 ≤ b ∧ b ≤ 2147483647) : I a = I b ↔ a = b := by rw [← Int32.toInt_inj, I_toInt h.1, I_toInt h.2]
theorem I_nat {a : Int} (h : 0 ≤ a ∧ a ≤ 2147483647) : (I a).toNatClampNeg = a.toNat := Int32.toNatClampNeg_ofInt_of_le (by omega) (by omega)
theorem I_in {a : Int} {n : Nat} (h : 0 ≤ a ∧ a < n ∧ a ≤ 2147483647) : vp_in (I a) n := vp_in_iff.mpr (by rw [I_toInt (by omega)]; omega)
def tm_up (Ω : tmO) (a : Nat) (e : va_E) : tmO := fun b => if b = a then some e else Ω b
theorem tm_up_s {Ω : tmO} {a : Nat} {e : va_E} : tm_up Ω a e a = some e := if_pos rfl
theorem tm_up_n {Ω : tmO} {a b : Nat} {e : va_E} (h : b ≠ a) : tm_up Ω a e b = Ω b := if_neg h
def tm_wl (Ω : tmO) (L : List Nat) : va_W := L.map (fun a => (a, (Ω a).getD (.inr (0, []))))
theorem tm_wl_at {Ω : tmO} {L : List Nat} {k : Nat} {q : Nat × va_E} (h : (tm_wl Ω L)[k]? = some q) : L[k]? = some q.1 ∧ q.2 = (Ω q.1).getD (.inr (0, [])) := by
  unfold tm_wl at h
  rw [List.getElem?_map] at h
  cases hL : L[k]? with
  | none => rw [hL] at h; cases h
  | some a => rw [hL] at h; cases h; exact ⟨rfl, rfl⟩
theorem tm_wl_of {Ω : tmO} {L : List Nat} {k a : Nat} (h : L[k]? = some a) : (tm_wl Ω L)[k]? = some (a, (Ω a).getD (.inr (0, []))) := by
  unfold tm_wl; rw [List.getElem?_map, h]; rfl
/-- the heap holds the world, apart, at addresses that aren't frozen -/
def tm_hol (D : va_G) (Fz : Nat → Prop) (Ω : tmO) (H : Heap) : Prop := ∃ L : List Nat, (∀ a, a ∈ L ↔ Ω a ≠ none) ∧ va_P D classes (tm_wl Ω L) H ∧ va_D (fun q => ¬ Fz q) (tm_wl Ω L)
theorem tm_hol_get {Ω : tmO} {L : List Nat} {a : Nat} {e : va_E} (hL : ∀ a, a ∈ L ↔ Ω a ≠ none) (h : Ω a = some e) : ∃ k : Nat, (tm_wl Ω L)[k]? = some (a, e) := by
  have hm : a ∈ L := (hL a).mpr (by rw [h]; exact fun z => by cases z)
  obtain ⟨k, hk⟩ := List.getElem?_of_mem hm
  exact ⟨k, (tm_wl_of hk).trans (by rw [h]; rfl)⟩
theorem tm_hol_at {D : va_G} {Fz : Nat → Prop} {Ω : tmO} {H : Heap} {a : Nat} {e : va_E} (h : tm_hol D Fz Ω H) (ha : Ω a = some e) : va_at D classes (a, e) H ∧ ¬ Fz a ∧ a < H.size := by
  obtain ⟨L, hL, hP, hD⟩ := h
  obtain ⟨k, hk⟩ := tm_hol_get hL ha
  exact ⟨hP k _ hk, hD.2 k _ hk, (hP k _ hk).lt⟩
theorem tm_wl_set {A : Nat → Prop} {Ω : tmO} {L : List Nat} {a k : Nat} {e e' : va_E} (hD : va_D A (tm_wl Ω L)) (hk : (tm_wl Ω L)[k]? = some (a, e)) : (tm_wl Ω L).set k (a, e') = tm_wl (tm_up Ω a e') L := by
  refine List.ext_getElem? fun j => ?_
  have hLk := (tm_wl_at hk).1
  by_cases hj : j = k
  · subst hj
    rw [tm_wl_of (Ω := tm_up Ω a e') hLk, List.getElem?_set_self (List.getElem?_eq_some_iff.mp hk).1]
    show _ = some (a, (tm_up Ω a e' a).getD _)
    rw [tm_up_s]; rfl
  · rw [List.getElem?_set_ne (Ne.symm hj)]
    cases hq : L[j]? with
    | none => unfold tm_wl; rw [List.getElem?_map, List.getElem?_map, hq]; rfl
    | some b =>
      have hb : b ≠ a := by
        intro hb
        subst hb
        exact hj (hD.1 j k _ _ (tm_wl_of hq) hk rfl)
      rw [tm_wl_of hq, tm_wl_of hq, tm_up_n hb]
theorem tm_hol_set {D : va_G} {Fz : Nat → Prop} {Ω : tmO} {H1 : Heap} {L : List Nat} {a k : Nat} {e e' : va_E} (hL : ∀ a, a ∈ L ↔ Ω a ≠ none) (hD : va_D (fun q => ¬ Fz q) (tm_wl Ω L)) (hk : (tm_wl Ω L)[k]? = some (a, e)) (hP1 : va_P D classes ((tm_wl Ω L).set k (a, e')) H1) (hD1 : va_D (fun q => ¬ Fz q) ((tm_wl Ω L).set k (a, e'))) : tm_hol D Fz (tm_up Ω a e') H1 := by
  rw [tm_wl_set hD hk] at hP1 hD1
  refine ⟨L, fun b => ?_, hP1, hD1⟩
  by_cases hb : b = a
  · subst hb
    rw [tm_up_s]
    exact ⟨(fun _ z => by cases z), fun _ => List.mem_of_getElem? (tm_wl_at hk).1⟩
  · rw [tm_up_n hb]; exact hL b
theorem tm_wl_push {Ω : tmO} {L : List Nat} {a : Nat} {e : va_E} (h : a ∉ L) : tm_wl Ω L ++ [(a, e)] = tm_wl (tm_up Ω a e) (L ++ [a]) := by
  unfold tm_wl
  rw [List.map_append, List.map_singleton, tm_up_s]
  refine congrArg (· ++ _) (List.map_congr_left fun b hb => ?_)
  rw [tm_up_n (fun z => h (by rw [← z]; exact hb))]
theorem tm_hol_push {D : va_G} {Fz : Nat → Prop} {Ω : tmO} {H1 : Heap} {L : List Nat} {a : Nat} {e : va_E} (hL : ∀ a, a ∈ L ↔ Ω a ≠ none) (hP1 : va_P D classes (tm_wl Ω L ++ [(a, e)]) H1) (hD1 : va_D (fun q => ¬ Fz q) (tm_wl Ω L ++ [(a, e)])) : tm_hol D Fz (tm_up Ω a e) H1 ∧ Ω a = none := by
  have hn : a ∉ L := by
    intro hm
    obtain ⟨k, hk⟩ := List.getElem?_of_mem hm
    have hl : k < L.length := (List.getElem?_eq_some_iff.mp hk).1
    have hl2 : (tm_wl Ω L).length = L.length := by unfold tm_wl; rw [List.length_map]
    have h1 : (tm_wl Ω L ++ [(a, e)])[k]? = some (a, (Ω a).getD (.inr (0, []))) := by rw [List.getElem?_append_left (by omega)]; exact tm_wl_of hk
    have h2 : (tm_wl Ω L ++ [(a, e)])[L.length]? = some (a, e) := by rw [List.getElem?_append_right (by omega), hl2, Nat.sub_self]; rfl
    have := hD1.1 _ _ _ _ h1 h2 rfl
    omega
  rw [tm_wl_push hn] at hP1 hD1
  have hnone : Ω a = none := by
    cases h : Ω a with
    | none => rfl
    | some x => exact absurd ((hL a).mpr (by rw [h]; exact fun z => by cases z)) hn
  refine ⟨⟨L ++ [a], fun b => ?_, hP1, hD1⟩, hnone⟩
  rw [List.mem_append, List.mem_singleton, hL b]
  by_cases hb : b = a
  · subst hb; rw [tm_up_s]; exact ⟨(fun _ z => by cases z), fun _ => Or.inr rfl⟩
  · rw [tm_up_n hb]; exact ⟨fun h => h.elim id (fun z => absurd z hb), Or.inl⟩
/-- what a state's tables and statics give: the classes, nest links and casts, the empty array of lists, the statics that a throw reads, the texts -/
def tm_tys (T : ClassId × ClassId × ClassId × ClassId) : List (ClassId × FieldType) := [(T.1, .int), (T.2.1, .boolean), (T.2.2.1, .long), (T.2.2.2, .object "java/lang/Object")]
/-- of the tables alone -/
def tm_Et (D : va_G) (T : ClassId × ClassId × ClassId × ClassId) (mi : Nat) (U : State) : Prop :=
  va_K D classes (tm_tys T) U ∧ (∀ w ∈ NW, va_Nw w U) ∧ (∀ (own tx : String) (k : Nat), Cond.stringRef own k tx ∈ lw_tbl → ∃ sa, vk_R own k tx sa U) ∧ va_Mi "[Ljava/lang/Object;" mi U ∧ va_AO "java/lang/Object" U
/-- of the statics -/
def tm_Es (T : ClassId × ClassId × ClassId × ClassId) (e0 : Nat) (Fz : Nat → Prop) (U : State) (H : Heap) : Prop :=
  va_Z "java/util/ArrayList" "DEFAULTCAPACITY_EMPTY_ELEMENTDATA" "[Ljava/lang/Object;" (.ref e0) (fun q => ¬ Fz q) U H ∧ H[e0]? = some (arrV T.2.2.2 0 (fun _ => .null)) ∧ Fz e0 ∧
  vx_Zq Bundle.tN "UNASSIGNED_STACK" Bundle.steD (fun q => ¬ Fz q) U H ∧ vx_Zq Bundle.tN "SUPPRESSED_SENTINEL" Bundle.listD (fun q => ¬ Fz q) U H ∧ ∀ q, Fz q → q < H.size
theorem tm_Et.warm {D : va_G} {T : ClassId × ClassId × ClassId × ClassId} {mi : Nat} {s U : State} (hW : s.WarmedH U.vm) (h : tm_Et D T mi s) : tm_Et D T mi U := by
  obtain ⟨h1, h2, h3, h4, h5⟩ := h
  refine ⟨va_K.moved hW.alike h1, fun w hw => ?_, fun own tx k hk => ?_, va_Mi.moved hW.alike h4, va_AO.moved hW.alike h5⟩
  · have h := h2 w hw
    have hg := (List.mem_filter.mp hw).2
    cases w <;> first
      | exact va_Nw.warmF hW h
      | exact va_Nw.warmM hW h
      | exact va_Nw.warmC hW h
      | exact va_Nw.warmD hW h
      | exact absurd hg (by decide)
      | (exfalso; revert hg; exact fun z => by cases z)
  · obtain ⟨sa, hsa⟩ := h3 own tx k hk
    exact ⟨sa, vk_R.warm hW hsa⟩
theorem tm_Es.moved {T : ClassId × ClassId × ClassId × ClassId} {e0 : Nat} {Fz : Nat → Prop} {s U : State} {H : Heap} (hvm : s.vm.Alike U.vm) (h : tm_Es T e0 Fz s H) : tm_Es T e0 Fz U H :=
  ⟨va_Z.moved hvm h.1, h.2.1, h.2.2.1, vx_Zq.moved hvm h.2.2.2.1, vx_Zq.moved hvm h.2.2.2.2.1, h.2.2.2.2.2⟩
theorem tm_Es.kept {T : ClassId × ClassId × ClassId × ClassId} {e0 : Nat} {Fz : Nat → Prop} {s : State} {H H1 : Heap} (hz : H.size ≤ H1.size) (hq : ∀ a : Nat, a < H.size → Fz a → H1[a]? = H[a]?) (h : tm_Es T e0 Fz s H) : tm_Es T e0 Fz s H1 :=
  ⟨va_Z.kept h.1 (fun a h1 h2 => hq a h1 (Classical.byContradiction h2)), by rw [hq e0 (h.2.2.2.2.2 _ h.2.2.1) h.2.2.1]; exact h.2.1, h.2.2.1, vx_Zq.kept h.2.2.2.1 (fun a h1 h2 => hq a h1 (Classical.byContradiction h2)), vx_Zq.kept h.2.2.2.2.1 (fun a h1 h2 => hq a h1 (Classical.byContradiction h2)), fun q h9 => Nat.lt_of_lt_of_le (h.2.2.2.2.2 q h9) hz⟩
/-- the method's walk: everything that stays through it -/
abbrev tmX : Type := (Program × Launch × Env × Room × State × MethodId × Array Value × List Frame × Method × Code × (State → Prop)) × va_G × (ClassId × ClassId × ClassId × ClassId) × Nat × Nat × (Nat → Prop) × Nat
def tm_W (x : tmX) (H : Heap) (locs : List Loc) (cells slots : Nat) (g : JFrame) : Prop := W x.1.1 x.1.2.1 x.1.2.2.1 x.1.2.2.2.1 x.1.2.2.2.2.1 x.1.2.2.2.2.2.1 x.1.2.2.2.2.2.2.1 x.1.2.2.2.2.2.2.2.1 x.1.2.2.2.2.2.2.2.2.1 x.1.2.2.2.2.2.2.2.2.2.1 H locs cells slots x.1.2.2.2.2.2.2.2.2.2.2 g
abbrev tm_st (x : tmX) : State := x.1.2.2.2.2.1
abbrev tm_R (x : tmX) : Room := x.1.2.2.2.1
abbrev tm_m (x : tmX) : MethodId := x.1.2.2.2.2.2.1
abbrev tm_as (x : tmX) : Array Value := x.1.2.2.2.2.2.2.1
abbrev tm_c (x : tmX) : Code := x.1.2.2.2.2.2.2.2.2.2.1
abbrev tm_me (x : tmX) : Method := x.1.2.2.2.2.2.2.2.2.1
abbrev tm_D (x : tmX) : va_G := x.2.1
abbrev tm_T (x : tmX) : ClassId × ClassId × ClassId × ClassId := x.2.2.1
abbrev tm_e0 (x : tmX) : Nat := x.2.2.2.1
abbrev tm_mi (x : tmX) : Nat := x.2.2.2.2.1
abbrev tm_Fz (x : tmX) : Nat → Prop := x.2.2.2.2.2.1
abbrev tm_nL (x : tmX) : Nat := x.2.2.2.2.2.2
/-- what stays of the method: the machine, its code, its class, the words -/
def tm_C (x : tmX) (cc : ByteArray) (own : String) (ret : Option FieldType) : Prop :=
  x.1.1.tables.exec = Jvm.exec ∧ (tm_c x).code = cc ∧ (tm_c x).maxLocals = tm_nL x ∧ (tm_st x).vm.findClass own = some (tm_m x).cls ∧ (∀ w ∈ ALL, w.before (tm_as x) (tm_st x) = true) ∧ (tm_me x).locks = false ∧ (tm_me x).sig.returnType = ret ∧ x.1.2.1.stackTraces = false ∧ tm_Et (tm_D x) (tm_T x) (tm_mi x) (tm_st x) ∧ tm_Es (tm_T x) (tm_e0 x) (tm_Fz x) (tm_st x) (tm_st x).heap
theorem tm_CK {x : tmX} {cc : ByteArray} {own : String} {ret : Option FieldType} (hC : tm_C x cc own ret) : va_K (tm_D x) classes (tm_tys (tm_T x)) (tm_st x) := hC.2.2.2.2.2.2.2.2.1.1
theorem tm_CN {x : tmX} {cc : ByteArray} {own : String} {ret : Option FieldType} (hC : tm_C x cc own ret) {w : Cond} (h : w ∈ NW) : va_Nw w (tm_st x) := hC.2.2.2.2.2.2.2.2.1.2.1 w h
theorem tm_CW {x : tmX} {cc : ByteArray} {own : String} {ret : Option FieldType} (hC : tm_C x cc own ret) {w : Cond} (h : w ∈ ALL) : w.before (tm_as x) (tm_st x) = true := hC.2.2.2.2.1 w h
theorem tm_CE {x : tmX} {cc : ByteArray} {own : String} {ret : Option FieldType} (hC : tm_C x cc own ret) {H : Heap} {locs : List Loc} (hS : va_S (fun q => ¬ tm_Fz x q) (tm_st x).heap H locs) : tm_Es (tm_T x) (tm_e0 x) (tm_Fz x) (tm_st x) H := tm_Es.kept hS.1 (fun a h1 h2 => hS.2.1 a h1 (fun z => z h2)) hC.2.2.2.2.2.2.2.2.2
/-- the walk at a place: from every heap of that kind, with b cells and n slots left -/
def tm_V (x : tmX) (G : Heap → Prop) (b n : Nat) (pc : Nat) (L : List (Nat × Value)) (st : List Value) : Prop :=
  ∀ (H : Heap) (locs : List Loc) (ls : Array Slot) (cells slots : Nat), cells + b ≤ (tm_R x).cells → slots + n ≤ (tm_R x).slots → va_S (fun q => ¬ tm_Fz x q) (tm_st x).heap H locs → G H → lv_has ls (tm_nL x) L → tm_W x H locs cells slots (F0 (tm_m x) pc ls st)
section TMV
variable {x : tmX} {cc : ByteArray} {own : String} {ret : Option FieldType} {G : Heap → Prop} {b n pc : Nat} {L L' : List (Nat × Value)} {st : List Value}
theorem tm_sub (ks : List Nat) (hl : lv_pick L ks = L') (k : tm_V x G b n pc L' st) : tm_V x G b n pc L st :=
  fun H locs ls cells slots h1 h2 hS hG h => k H locs ls cells slots h1 h2 hS hG (lv_sub h ks hl)
theorem tm_less {b' n' : Nat} (h : b' ≤ b ∧ n' ≤ n) (k : tm_V x G b' n' pc L st) : tm_V x G b n pc L st :=
  fun H locs ls cells slots h1 h2 hS hG hl => k H locs ls cells slots (by omega) (by omega) hS hG hl
theorem tm_goto {off : Int} (tgt : Nat) (hC : tm_C x cc own ret) (hd : decode cc pc = .ok (.goto off, 3)) (ht : (pc : Int) + off = (tgt : Int)) (k : tm_V x G b n tgt L st) : tm_V x G b n pc L st :=
  fun H locs ls cells slots h1 h2 hS hG hl => lv_goto hC.1 hC.2.1 hd ht (k H locs ls cells slots h1 h2 hS hG hl)
theorem tm_iconst {v : Int} (hC : tm_C x cc own ret) (hd : decode cc pc = .ok (.iconst v, 1)) (k : tm_V x G b n (pc + 1) L (.int (I v) :: st)) : tm_V x G b n pc L st :=
  fun H locs ls cells slots h1 h2 hS hG hl => lv_iconst hC.1 hC.2.1 hd rfl (k H locs ls cells slots h1 h2 hS hG hl)
theorem tm_bipush {v : Int} (hC : tm_C x cc own ret) (hd : decode cc pc = .ok (.bipush v, 2)) (hv : (Int8.ofInt v).toInt32 = I v) (k : tm_V x G b n (pc + 2) L (.int (I v) :: st)) : tm_V x G b n pc L st :=
  fun H locs ls cells slots h1 h2 hS hG hl => lv_bipush hC.1 hC.2.1 hd hv (k H locs ls cells slots h1 h2 hS hG hl)
theorem tm_sipush {v : Int} (hC : tm_C x cc own ret) (hd : decode cc pc = .ok (.sipush v, 3)) (hv : (Int16.ofInt v).toInt32 = I v) (k : tm_V x G b n (pc + 3) L (.int (I v) :: st)) : tm_V x G b n pc L st :=
  fun H locs ls cells slots h1 h2 hS hG hl => lv_sipush hC.1 hC.2.1 hd hv (k H locs ls cells slots h1 h2 hS hG hl)
theorem tm_lconst {v : Fin 2} {w : Int64} (hC : tm_C x cc own ret) (hd : decode cc pc = .ok (.lconst v, 1)) (hv : Int64.ofNat (v : Nat) = w) (k : tm_V x G b n (pc + 1) L (.long w :: st)) : tm_V x G b n pc L st :=
  fun H locs ls cells slots h1 h2 hS hG hl => lv_lconst hC.1 hC.2.1 hd hv (k H locs ls cells slots h1 h2 hS hG hl)
theorem tm_dconst0 (hC : tm_C x cc own ret) (hd : decode cc pc = .ok (.dconst 0, 1)) (k : tm_V x G b n (pc + 1) L (.double 0 :: st)) : tm_V x G b n pc L st :=
  fun H locs ls cells slots h1 h2 hS hG hl => lv_dconst0 hC.1 hC.2.1 hd (k H locs ls cells slots h1 h2 hS hG hl)
theorem tm_null (hC : tm_C x cc own ret) (hd : decode cc pc = .ok (.aconst_null, 1)) (k : tm_V x G b n (pc + 1) L (.null :: st)) : tm_V x G b n pc L st :=
  fun H locs ls cells slots h1 h2 hS hG hl => lv_null hC.1 hC.2.1 hd (k H locs ls cells slots h1 h2 hS hG hl)
theorem tm_ldc2 {i : Nat} {v : Int64} (hC : tm_C x cc own ret) (hw : Cond.constantLong own i v ∈ ALL) (hd : decode cc pc = .ok (.ldc2_w i, 3)) (k : tm_V x G b n (pc + 3) L (.long v :: st)) : tm_V x G b n pc L st :=
  fun H locs ls cells slots h1 h2 hS hG hl => lv_ldc2 hC.1 hC.2.1 hC.2.2.2.1 (hC.2.2.2.2.1 _ hw) hd (k H locs ls cells slots h1 h2 hS hG hl)
theorem tm_ldc {i : Nat} {v : Int32} (hC : tm_C x cc own ret) (hw : Cond.constant own i v ∈ ALL) (hd : decode cc pc = .ok (.ldc i, 2)) (k : tm_V x G b n (pc + 2) L (.int v :: st)) : tm_V x G b n pc L st :=
  fun H locs ls cells slots h1 h2 hS hG hl => lv_ldc hC.1 hC.2.1 hC.2.2.2.1 (hC.2.2.2.2.1 _ hw) hd (k H locs ls cells slots h1 h2 hS hG hl)
theorem tm_iload_n {j : Fin 4} {i : Nat} {v : Int32} (p : Nat) (hC : tm_C x cc own ret) (hd : decode cc pc = .ok (.iload_n j, 1)) (hi : (j : Nat) = i) (hl0 : L[p]? = some (i, .int v)) (k : tm_V x G b n (pc + 1) L (.int v :: st)) : tm_V x G b n pc L st :=
  fun H locs ls cells slots h1 h2 hS hG hl => lv_iload_n hC.1 hC.2.1 hd hi (lv_at hl p hl0) (k H locs ls cells slots h1 h2 hS hG hl)
theorem tm_iload {i : Nat} {v : Int32} (p : Nat) (hC : tm_C x cc own ret) (hd : decode cc pc = .ok (.iload i, 2)) (hl0 : L[p]? = some (i, .int v)) (k : tm_V x G b n (pc + 2) L (.int v :: st)) : tm_V x G b n pc L st :=
  fun H locs ls cells slots h1 h2 hS hG hl => lv_iload hC.1 hC.2.1 hd (lv_at hl p hl0) (k H locs ls cells slots h1 h2 hS hG hl)
theorem tm_aload_n {j : Fin 4} {i : Nat} {v : Nat} (p : Nat) (hC : tm_C x cc own ret) (hd : decode cc pc = .ok (.aload_n j, 1)) (hi : (j : Nat) = i) (hl0 : L[p]? = some (i, .ref v)) (k : tm_V x G b n (pc + 1) L (.ref v :: st)) : tm_V x G b n pc L st :=
  fun H locs ls cells slots h1 h2 hS hG hl => lv_aload_n hC.1 hC.2.1 hd hi (lv_at hl p hl0) (k H locs ls cells slots h1 h2 hS hG hl)
theorem tm_aload {i : Nat} {v : Nat} (p : Nat) (hC : tm_C x cc own ret) (hd : decode cc pc = .ok (.aload i, 2)) (hl0 : L[p]? = some (i, .ref v)) (k : tm_V x G b n (pc + 2) L (.ref v :: st)) : tm_V x G b n pc L st :=
  fun H locs ls cells slots h1 h2 hS hG hl => lv_aload hC.1 hC.2.1 hd (lv_at hl p hl0) (k H locs ls cells slots h1 h2 hS hG hl)
theorem tm_lload_n {j : Fin 4} {i : Nat} {v : Int64} (p : Nat) (hC : tm_C x cc own ret) (hd : decode cc pc = .ok (.lload_n j, 1)) (hi : (j : Nat) = i) (hl0 : L[p]? = some (i, .long v)) (k : tm_V x G b n (pc + 1) L (.long v :: st)) : tm_V x G b n pc L st :=
  fun H locs ls cells slots h1 h2 hS hG hl => lv_lload_n hC.1 hC.2.1 hd hi (lv_at hl p hl0) (k H locs ls cells slots h1 h2 hS hG hl)
theorem tm_lload {i : Nat} {v : Int64} (p : Nat) (hC : tm_C x cc own ret) (hd : decode cc pc = .ok (.lload i, 2)) (hl0 : L[p]? = some (i, .long v)) (k : tm_V x G b n (pc + 2) L (.long v :: st)) : tm_V x G b n pc L st :=
  fun H locs ls cells slots h1 h2 hS hG hl => lv_lload hC.1 hC.2.1 hd (lv_at hl p hl0) (k H locs ls cells slots h1 h2 hS hG hl)
theorem tm_dload_n {j : Fin 4} {i : Nat} {v : UInt64} (p : Nat) (hC : tm_C x cc own ret) (hd : decode cc pc = .ok (.dload_n j, 1)) (hi : (j : Nat) = i) (hl0 : L[p]? = some (i, .double v)) (k : tm_V x G b n (pc + 1) L (.double v :: st)) : tm_V x G b n pc L st :=
  fun H locs ls cells slots h1 h2 hS hG hl => lv_dload_n hC.1 hC.2.1 hd hi (lv_at hl p hl0) (k H locs ls cells slots h1 h2 hS hG hl)
theorem tm_dload {i : Nat} {v : UInt64} (p : Nat) (hC : tm_C x cc own ret) (hd : decode cc pc = .ok (.dload i, 2)) (hl0 : L[p]? = some (i, .double v)) (k : tm_V x G b n (pc + 2) L (.double v :: st)) : tm_V x G b n pc L st :=
  fun H locs ls cells slots h1 h2 hS hG hl => lv_dload hC.1 hC.2.1 hd (lv_at hl p hl0) (k H locs ls cells slots h1 h2 hS hG hl)
theorem tm_istore_n {j : Fin 4} {i : Nat} {v : Int32} (L' : List (Nat × Value)) (hC : tm_C x cc own ret) (hd : decode cc pc = .ok (.istore_n j, 1)) (hi : (j : Nat) = i) (hn : i < tm_nL x) (hl0 : (i, Value.int v) :: L.filter (fun q => !(q.1 == i) && !(q.1 + 1 == i && q.2.category == 2)) = L') (k : tm_V x G b n (pc + 1) L' st) : tm_V x G b n pc L (Value.int v :: st) :=
  fun H locs ls cells slots h1 h2 hS hG hl => lv_istore_n hC.1 hC.2.1 hd hi hl hn hl0 (fun ls' hl' => k H locs ls' cells slots h1 h2 hS hG hl')
theorem tm_istore {i : Nat} {v : Int32} (L' : List (Nat × Value)) (hC : tm_C x cc own ret) (hd : decode cc pc = .ok (.istore i, 2)) (hn : i < tm_nL x) (hl0 : (i, Value.int v) :: L.filter (fun q => !(q.1 == i) && !(q.1 + 1 == i && q.2.category == 2)) = L') (k : tm_V x G b n (pc + 2) L' st) : tm_V x G b n pc L (Value.int v :: st) :=
  fun H locs ls cells slots h1 h2 hS hG hl => lv_istore hC.1 hC.2.1 hd hl hn hl0 (fun ls' hl' => k H locs ls' cells slots h1 h2 hS hG hl')
theorem tm_astore_n {j : Fin 4} {i : Nat} {v : Nat} (L' : List (Nat × Value)) (hC : tm_C x cc own ret) (hd : decode cc pc = .ok (.astore_n j, 1)) (hi : (j : Nat) = i) (hn : i < tm_nL x) (hl0 : (i, Value.ref v) :: L.filter (fun q => !(q.1 == i) && !(q.1 + 1 == i && q.2.category == 2)) = L') (k : tm_V x G b n (pc + 1) L' st) : tm_V x G b n pc L (Value.ref v :: st) :=
  fun H locs ls cells slots h1 h2 hS hG hl => lv_astore_n hC.1 hC.2.1 hd hi hl hn hl0 (fun ls' hl' => k H locs ls' cells slots h1 h2 hS hG hl')
theorem tm_astore {i : Nat} {v : Nat} (L' : List (Nat × Value)) (hC : tm_C x cc own ret) (hd : decode cc pc = .ok (.astore i, 2)) (hn : i < tm_nL x) (hl0 : (i, Value.ref v) :: L.filter (fun q => !(q.1 == i) && !(q.1 + 1 == i && q.2.category == 2)) = L') (k : tm_V x G b n (pc + 2) L' st) : tm_V x G b n pc L (Value.ref v :: st) :=
  fun H locs ls cells slots h1 h2 hS hG hl => lv_astore hC.1 hC.2.1 hd hl hn hl0 (fun ls' hl' => k H locs ls' cells slots h1 h2 hS hG hl')
theorem tm_lstore_n {j : Fin 4} {i : Nat} {v : Int64} (L' : List (Nat × Value)) (hC : tm_C x cc own ret) (hd : decode cc pc = .ok (.lstore_n j, 1)) (hi : (j : Nat) = i) (hn : i + 1 < tm_nL x) (hl0 : (i, Value.long v) :: L.filter (fun q => !(q.1 == i) && (!(q.1 == i + 1) && !(q.1 + 1 == i && q.2.category == 2))) = L') (k : tm_V x G b n (pc + 1) L' st) : tm_V x G b n pc L (Value.long v :: st) :=
  fun H locs ls cells slots h1 h2 hS hG hl => lv_lstore_n hC.1 hC.2.1 hd hi hl hn hl0 (fun ls' hl' => k H locs ls' cells slots h1 h2 hS hG hl')
theorem tm_lstore {i : Nat} {v : Int64} (L' : List (Nat × Value)) (hC : tm_C x cc own ret) (hd : decode cc pc = .ok (.lstore i, 2)) (hn : i + 1 < tm_nL x) (hl0 : (i, Value.long v) :: L.filter (fun q => !(q.1 == i) && (!(q.1 == i + 1) && !(q.1 + 1 == i && q.2.category == 2))) = L') (k : tm_V x G b n (pc + 2) L' st) : tm_V x G b n pc L (Value.long v :: st) :=
  fun H locs ls cells slots h1 h2 hS hG hl => lv_lstore hC.1 hC.2.1 hd hl hn hl0 (fun ls' hl' => k H locs ls' cells slots h1 h2 hS hG hl')
theorem tm_dstore_n {j : Fin 4} {i : Nat} {v : UInt64} (L' : List (Nat × Value)) (hC : tm_C x cc own ret) (hd : decode cc pc = .ok (.dstore_n j, 1)) (hi : (j : Nat) = i) (hn : i + 1 < tm_nL x) (hl0 : (i, Value.double v) :: L.filter (fun q => !(q.1 == i) && (!(q.1 == i + 1) && !(q.1 + 1 == i && q.2.category == 2))) = L') (k : tm_V x G b n (pc + 1) L' st) : tm_V x G b n pc L (Value.double v :: st) :=
  fun H locs ls cells slots h1 h2 hS hG hl => lv_dstore_n hC.1 hC.2.1 hd hi hl hn hl0 (fun ls' hl' => k H locs ls' cells slots h1 h2 hS hG hl')
theorem tm_dstore {i : Nat} {v : UInt64} (L' : List (Nat × Value)) (hC : tm_C x cc own ret) (hd : decode cc pc = .ok (.dstore i, 2)) (hn : i + 1 < tm_nL x) (hl0 : (i, Value.double v) :: L.filter (fun q => !(q.1 == i) && (!(q.1 == i + 1) && !(q.1 + 1 == i && q.2.category == 2))) = L') (k : tm_V x G b n (pc + 2) L' st) : tm_V x G b n pc L (Value.double v :: st) :=
  fun H locs ls cells slots h1 h2 hS hG hl => lv_dstore hC.1 hC.2.1 hd hl hn hl0 (fun ls' hl' => k H locs ls' cells slots h1 h2 hS hG hl')
theorem tm_aload_nN {j : Fin 4} {i : Nat} (p : Nat) (hC : tm_C x cc own ret) (hd : decode cc pc = .ok (.aload_n j, 1)) (hi : (j : Nat) = i) (hl0 : L[p]? = some (i, .null)) (k : tm_V x G b n (pc + 1) L (.null :: st)) : tm_V x G b n pc L st :=
  fun H locs ls cells slots h1 h2 hS hG hl => lv_aload_nN hC.1 hC.2.1 hd hi (lv_at hl p hl0) (k H locs ls cells slots h1 h2 hS hG hl)
theorem tm_astore_nN {j : Fin 4} {i : Nat} (L' : List (Nat × Value)) (hC : tm_C x cc own ret) (hd : decode cc pc = .ok (.astore_n j, 1)) (hi : (j : Nat) = i) (hn : i < tm_nL x) (hl0 : (i, Value.null) :: L.filter (fun q => !(q.1 == i) && !(q.1 + 1 == i && q.2.category == 2)) = L') (k : tm_V x G b n (pc + 1) L' st) : tm_V x G b n pc L (.null :: st) :=
  fun H locs ls cells slots h1 h2 hS hG hl => lv_astore_nN hC.1 hC.2.1 hd hi hl hn hl0 (fun ls' hl' => k H locs ls' cells slots h1 h2 hS hG hl')
theorem tm_iinc {i : Nat} {d v : Int} (p : Nat) (L' : List (Nat × Value)) (hC : tm_C x cc own ret) (hd : decode cc pc = .ok (.iinc i d, 3)) (hl1 : L[p]? = some (i, .int (I v))) (hn : i < tm_nL x) (hl0 : (i, Value.int (I (v + d))) :: L.filter (fun q => !(q.1 == i) && !(q.1 + 1 == i && q.2.category == 2)) = L') (k : tm_V x G b n (pc + 3) L' st) : tm_V x G b n pc L st :=
  fun H locs ls cells slots h1 h2 hS hG hl => lv_iinc hC.1 hC.2.1 hd hl hl1 (v := I (v + d)) (Int32.ofInt_add v d).symm hn hl0 (fun ls' hl' => k H locs ls' cells slots h1 h2 hS hG hl')
theorem tm_iadd {u v : Int} (hC : tm_C x cc own ret) (hd : decode cc pc = .ok (.iadd, 1)) (k : tm_V x G b n (pc + 1) L (.int (I (u + v)) :: st)) : tm_V x G b n pc L (.int (I v) :: .int (I u) :: st) :=
  fun H locs ls cells slots h1 h2 hS hG hl => lv_iadd hC.1 hC.2.1 hd (by rw [← Int32.ofInt_add]; exact k H locs ls cells slots h1 h2 hS hG hl)
theorem tm_isub {u v : Int} (hC : tm_C x cc own ret) (hd : decode cc pc = .ok (.isub, 1)) (k : tm_V x G b n (pc + 1) L (.int (I (u - v)) :: st)) : tm_V x G b n pc L (.int (I v) :: .int (I u) :: st) :=
  fun H locs ls cells slots h1 h2 hS hG hl => lv_isub hC.1 hC.2.1 hd (by rw [← Int32.ofInt_sub]; exact k H locs ls cells slots h1 h2 hS hG hl)
theorem tm_imul {u v : Int} (hC : tm_C x cc own ret) (hd : decode cc pc = .ok (.imul, 1)) (k : tm_V x G b n (pc + 1) L (.int (I (u * v)) :: st)) : tm_V x G b n pc L (.int (I v) :: .int (I u) :: st) :=
  fun H locs ls cells slots h1 h2 hS hG hl => lv_imul hC.1 hC.2.1 hd (by rw [← Int32.ofInt_mul]; exact k H locs ls cells slots h1 h2 hS hG hl)
theorem tm_ladd {u v : Int64} (hC : tm_C x cc own ret) (hd : decode cc pc = .ok (.ladd, 1)) (k : tm_V x G b n (pc + 1) L (.long (u + v) :: st)) : tm_V x G b n pc L (.long v :: .long u :: st) :=
  fun H locs ls cells slots h1 h2 hS hG hl => lv_ladd hC.1 hC.2.1 hd (k H locs ls cells slots h1 h2 hS hG hl)
theorem tm_lmul {u v : Int64} (hC : tm_C x cc own ret) (hd : decode cc pc = .ok (.lmul, 1)) (k : tm_V x G b n (pc + 1) L (.long (u * v) :: st)) : tm_V x G b n pc L (.long v :: .long u :: st) :=
  fun H locs ls cells slots h1 h2 hS hG hl => lv_lmul hC.1 hC.2.1 hd (k H locs ls cells slots h1 h2 hS hG hl)
theorem tm_iand {u v : Int32} (hC : tm_C x cc own ret) (hd : decode cc pc = .ok (.iand, 1)) (k : tm_V x G b n (pc + 1) L (.int (u &&& v) :: st)) : tm_V x G b n pc L (.int v :: .int u :: st) :=
  fun H locs ls cells slots h1 h2 hS hG hl => lv_iand hC.1 hC.2.1 hd (k H locs ls cells slots h1 h2 hS hG hl)
theorem tm_i2l {u : Int32} (hC : tm_C x cc own ret) (hd : decode cc pc = .ok (.i2l, 1)) (k : tm_V x G b n (pc + 1) L (.long u.toInt64 :: st)) : tm_V x G b n pc L (.int u :: st) :=
  fun H locs ls cells slots h1 h2 hS hG hl => lv_i2l hC.1 hC.2.1 hd rfl (k H locs ls cells slots h1 h2 hS hG hl)
theorem tm_dup {v : Value} (hC : tm_C x cc own ret) (hd : decode cc pc = .ok (.dup, 1)) (hv : v.category = 1) (k : tm_V x G b n (pc + 1) L (v :: v :: st)) : tm_V x G b n pc L (v :: st) :=
  fun H locs ls cells slots h1 h2 hS hG hl => lv_dup hC.1 hC.2.1 hd hv (k H locs ls cells slots h1 h2 hS hG hl)
theorem tm_dup_x1 {v w : Value} (hC : tm_C x cc own ret) (hd : decode cc pc = .ok (.dup_x1, 1)) (hv : v.category = 1) (hw : w.category = 1) (k : tm_V x G b n (pc + 1) L (v :: w :: v :: st)) : tm_V x G b n pc L (v :: w :: st) :=
  fun H locs ls cells slots h1 h2 hS hG hl => lv_dup_x1 hC.1 hC.2.1 hd hv hw (k H locs ls cells slots h1 h2 hS hG hl)
theorem tm_dup2 {v w : Value} (hC : tm_C x cc own ret) (hd : decode cc pc = .ok (.dup2, 1)) (hv : v.category = 1) (hw : w.category = 1) (k : tm_V x G b n (pc + 1) L (v :: w :: v :: w :: st)) : tm_V x G b n pc L (v :: w :: st) :=
  fun H locs ls cells slots h1 h2 hS hG hl => lv_dup2_11 hC.1 hC.2.1 hd hv hw (k H locs ls cells slots h1 h2 hS hG hl)
theorem tm_pop {v : Value} (hC : tm_C x cc own ret) (hd : decode cc pc = .ok (.pop, 1)) (hv : v.category = 1) (k : tm_V x G b n (pc + 1) L st) : tm_V x G b n pc L (v :: st) :=
  fun H locs ls cells slots h1 h2 hS hG hl => lv_pop hC.1 hC.2.1 hd hv (k H locs ls cells slots h1 h2 hS hG hl)
theorem tm_ifnull {a : Nat} {off : Int} (hC : tm_C x cc own ret) (hd : decode cc pc = .ok (.ifnull off, 3)) (k : tm_V x G b n (pc + 3) L st) : tm_V x G b n pc L (.ref a :: st) :=
  fun H locs ls cells slots h1 h2 hS hG hl => lv_ifnull hC.1 hC.2.1 hd (k H locs ls cells slots h1 h2 hS hG hl)
theorem tm_ifnullN {off : Int} (tgt : Nat) (hC : tm_C x cc own ret) (hd : decode cc pc = .ok (.ifnull off, 3)) (ht : (pc : Int) + off = (tgt : Int)) (k : tm_V x G b n tgt L st) : tm_V x G b n pc L (.null :: st) :=
  fun H locs ls cells slots h1 h2 hS hG hl => lv_ifnullN hC.1 hC.2.1 hd ht (k H locs ls cells slots h1 h2 hS hG hl)
theorem tm_ifnonnull {a : Nat} {off : Int} (tgt : Nat) (hC : tm_C x cc own ret) (hd : decode cc pc = .ok (.ifnonnull off, 3)) (ht : (pc : Int) + off = (tgt : Int)) (k : tm_V x G b n tgt L st) : tm_V x G b n pc L (.ref a :: st) :=
  fun H locs ls cells slots h1 h2 hS hG hl => lv_ifnonnull hC.1 hC.2.1 hd ht (k H locs ls cells slots h1 h2 hS hG hl)
theorem tm_ifnonnullN {off : Int} (hC : tm_C x cc own ret) (hd : decode cc pc = .ok (.ifnonnull off, 3)) (k : tm_V x G b n (pc + 3) L st) : tm_V x G b n pc L (.null :: st) :=
  fun H locs ls cells slots h1 h2 hS hG hl => lv_ifnonnullN hC.1 hC.2.1 hd (k H locs ls cells slots h1 h2 hS hG hl)
theorem tm_acmp_ne {u v : Nat} {off : Int} (tgt : Nat) (hC : tm_C x cc own ret) (hd : decode cc pc = .ok (.if_acmp .ne off, 3)) (ht : (pc : Int) + off = (tgt : Int)) (kt : u ≠ v → tm_V x G b n tgt L st) (kf : u = v → tm_V x G b n (pc + 3) L st) : tm_V x G b n pc L (.ref v :: .ref u :: st) :=
  fun H locs ls cells slots h1 h2 hS hG hl => lv_acmp_ne (rx := some u) (ry := some v) hC.1 hC.2.1 hd ht (fun z => kt (fun e => z (congrArg some e)) H locs ls cells slots h1 h2 hS hG hl) (fun z => kf (Option.some.inj z) H locs ls cells slots h1 h2 hS hG hl)
theorem tm_acmp_eq {u v : Nat} {off : Int} (tgt : Nat) (hC : tm_C x cc own ret) (hd : decode cc pc = .ok (.if_acmp .eq off, 3)) (ht : (pc : Int) + off = (tgt : Int)) (kt : u = v → tm_V x G b n tgt L st) (kf : u ≠ v → tm_V x G b n (pc + 3) L st) : tm_V x G b n pc L (.ref v :: .ref u :: st) :=
  fun H locs ls cells slots h1 h2 hS hG hl => lv_acmp_eq (rx := some u) (ry := some v) hC.1 hC.2.1 hd ht (fun z => kt (Option.some.inj z) H locs ls cells slots h1 h2 hS hG hl) (fun z => kf (fun e => z (congrArg some e)) H locs ls cells slots h1 h2 hS hG hl)
theorem tm_icmp_lt {u v : Int} {off : Int} (tgt : Nat) (hC : tm_C x cc own ret) (hd : decode cc pc = .ok (.if_icmp .lt off, 3)) (ht : (pc : Int) + off = (tgt : Int)) (h : (-2147483648 ≤ u ∧ u ≤ 2147483647) ∧ -2147483648 ≤ v ∧ v ≤ 2147483647) (kt : u < v → tm_V x G b n tgt L st) (kf : ¬ (u < v) → tm_V x G b n (pc + 3) L st) : tm_V x G b n pc L (.int (I v) :: .int (I u) :: st) :=
  fun H locs ls cells slots h1 h2 hS hG hl => lv_icmp_lt hC.1 hC.2.1 hd ht (fun z => kt ((I_lt h).mp z) H locs ls cells slots h1 h2 hS hG hl) (fun z => kf (fun e => z ((I_lt h).mpr e)) H locs ls cells slots h1 h2 hS hG hl)
theorem tm_icmp_le {u v : Int} {off : Int} (tgt : Nat) (hC : tm_C x cc own ret) (hd : decode cc pc = .ok (.if_icmp .le off, 3)) (ht : (pc : Int) + off = (tgt : Int)) (h : (-2147483648 ≤ u ∧ u ≤ 2147483647) ∧ -2147483648 ≤ v ∧ v ≤ 2147483647) (kt : u ≤ v → tm_V x G b n tgt L st) (kf : ¬ (u ≤ v) → tm_V x G b n (pc + 3) L st) : tm_V x G b n pc L (.int (I v) :: .int (I u) :: st) :=
  fun H locs ls cells slots h1 h2 hS hG hl => lv_icmp_le hC.1 hC.2.1 hd ht (fun z => kt ((I_le h).mp z) H locs ls cells slots h1 h2 hS hG hl) (fun z => kf (fun e => z ((I_le h).mpr e)) H locs ls cells slots h1 h2 hS hG hl)
theorem tm_icmp_eq {u v : Int} {off : Int} (tgt : Nat) (hC : tm_C x cc own ret) (hd : decode cc pc = .ok (.if_icmp .eq off, 3)) (ht : (pc : Int) + off = (tgt : Int)) (h : (-2147483648 ≤ u ∧ u ≤ 2147483647) ∧ -2147483648 ≤ v ∧ v ≤ 2147483647) (kt : u = v → tm_V x G b n tgt L st) (kf : ¬ (u = v) → tm_V x G b n (pc + 3) L st) : tm_V x G b n pc L (.int (I v) :: .int (I u) :: st) :=
  fun H locs ls cells slots h1 h2 hS hG hl => lv_icmp_eq hC.1 hC.2.1 hd ht (fun z => kt ((I_eq h).mp z) H locs ls cells slots h1 h2 hS hG hl) (fun z => kf (fun e => z ((I_eq h).mpr e)) H locs ls cells slots h1 h2 hS hG hl)
theorem tm_icmp_gt {u v : Int} {off : Int} (tgt : Nat) (hC : tm_C x cc own ret) (hd : decode cc pc = .ok (.if_icmp .gt off, 3)) (ht : (pc : Int) + off = (tgt : Int)) (h : (-2147483648 ≤ u ∧ u ≤ 2147483647) ∧ -2147483648 ≤ v ∧ v ≤ 2147483647) (kt : v < u → tm_V x G b n tgt L st) (kf : ¬ (v < u) → tm_V x G b n (pc + 3) L st) : tm_V x G b n pc L (.int (I v) :: .int (I u) :: st) :=
  fun H locs ls cells slots h1 h2 hS hG hl => lv_icmp_gt hC.1 hC.2.1 hd ht (fun z => kt ((I_lt ⟨h.2, h.1⟩).mp z) H locs ls cells slots h1 h2 hS hG hl) (fun z => kf (fun e => z ((I_lt ⟨h.2, h.1⟩).mpr e)) H locs ls cells slots h1 h2 hS hG hl)
theorem tm_icmp_ge {u v : Int} {off : Int} (tgt : Nat) (hC : tm_C x cc own ret) (hd : decode cc pc = .ok (.if_icmp .ge off, 3)) (ht : (pc : Int) + off = (tgt : Int)) (h : (-2147483648 ≤ u ∧ u ≤ 2147483647) ∧ -2147483648 ≤ v ∧ v ≤ 2147483647) (kt : v ≤ u → tm_V x G b n tgt L st) (kf : ¬ (v ≤ u) → tm_V x G b n (pc + 3) L st) : tm_V x G b n pc L (.int (I v) :: .int (I u) :: st) :=
  fun H locs ls cells slots h1 h2 hS hG hl => lv_icmp_ge hC.1 hC.2.1 hd ht (fun z => kt ((I_le ⟨h.2, h.1⟩).mp z) H locs ls cells slots h1 h2 hS hG hl) (fun z => kf (fun e => z ((I_le ⟨h.2, h.1⟩).mpr e)) H locs ls cells slots h1 h2 hS hG hl)
theorem tm_icmp_ne {u v : Int} {off : Int} (tgt : Nat) (hC : tm_C x cc own ret) (hd : decode cc pc = .ok (.if_icmp .ne off, 3)) (ht : (pc : Int) + off = (tgt : Int)) (h : (-2147483648 ≤ u ∧ u ≤ 2147483647) ∧ -2147483648 ≤ v ∧ v ≤ 2147483647) (kt : ¬ u = v → tm_V x G b n tgt L st) (kf : u = v → tm_V x G b n (pc + 3) L st) : tm_V x G b n pc L (.int (I v) :: .int (I u) :: st) :=
  fun H locs ls cells slots h1 h2 hS hG hl => lv_icmp_ne hC.1 hC.2.1 hd ht (fun z => kt (fun e => z ((I_eq h).mpr e)) H locs ls cells slots h1 h2 hS hG hl) (fun z => kf ((I_eq h).mp z) H locs ls cells slots h1 h2 hS hG hl)
theorem tm_if_lt {u : Int} {off : Int} (tgt : Nat) (hC : tm_C x cc own ret) (hd : decode cc pc = .ok (.ifCond .lt off, 3)) (ht : (pc : Int) + off = (tgt : Int)) (h : -2147483648 ≤ u ∧ u ≤ 2147483647) (kt : u < 0 → tm_V x G b n tgt L st) (kf : ¬ (u < 0) → tm_V x G b n (pc + 3) L st) : tm_V x G b n pc L (.int (I u) :: st) :=
  fun H locs ls cells slots h1 h2 hS hG hl => lv_if_lt hC.1 hC.2.1 hd ht (fun z => kt ((I_lt (b := 0) ⟨h, by omega⟩).mp z) H locs ls cells slots h1 h2 hS hG hl) (fun z => kf (fun e => z ((I_lt (b := 0) ⟨h, by omega⟩).mpr e)) H locs ls cells slots h1 h2 hS hG hl)
theorem tm_if_le {u : Int} {off : Int} (tgt : Nat) (hC : tm_C x cc own ret) (hd : decode cc pc = .ok (.ifCond .le off, 3)) (ht : (pc : Int) + off = (tgt : Int)) (h : -2147483648 ≤ u ∧ u ≤ 2147483647) (kt : u ≤ 0 → tm_V x G b n tgt L st) (kf : ¬ (u ≤ 0) → tm_V x G b n (pc + 3) L st) : tm_V x G b n pc L (.int (I u) :: st) :=
  fun H locs ls cells slots h1 h2 hS hG hl => lv_if_le hC.1 hC.2.1 hd ht (fun z => kt ((I_le (b := 0) ⟨h, by omega⟩).mp z) H locs ls cells slots h1 h2 hS hG hl) (fun z => kf (fun e => z ((I_le (b := 0) ⟨h, by omega⟩).mpr e)) H locs ls cells slots h1 h2 hS hG hl)
theorem tm_if_eq {u : Int} {off : Int} (tgt : Nat) (hC : tm_C x cc own ret) (hd : decode cc pc = .ok (.ifCond .eq off, 3)) (ht : (pc : Int) + off = (tgt : Int)) (h : -2147483648 ≤ u ∧ u ≤ 2147483647) (kt : u = 0 → tm_V x G b n tgt L st) (kf : ¬ (u = 0) → tm_V x G b n (pc + 3) L st) : tm_V x G b n pc L (.int (I u) :: st) :=
  fun H locs ls cells slots h1 h2 hS hG hl => lv_if_eq hC.1 hC.2.1 hd ht (fun z => kt ((I_eq (b := 0) ⟨h, by omega⟩).mp z) H locs ls cells slots h1 h2 hS hG hl) (fun z => kf (fun e => z ((I_eq (b := 0) ⟨h, by omega⟩).mpr e)) H locs ls cells slots h1 h2 hS hG hl)
theorem tm_if_gt {u : Int} {off : Int} (tgt : Nat) (hC : tm_C x cc own ret) (hd : decode cc pc = .ok (.ifCond .gt off, 3)) (ht : (pc : Int) + off = (tgt : Int)) (h : -2147483648 ≤ u ∧ u ≤ 2147483647) (kt : 0 < u → tm_V x G b n tgt L st) (kf : ¬ (0 < u) → tm_V x G b n (pc + 3) L st) : tm_V x G b n pc L (.int (I u) :: st) :=
  fun H locs ls cells slots h1 h2 hS hG hl => lv_if_gt hC.1 hC.2.1 hd ht (fun z => kt ((I_lt (a := 0) ⟨by omega, h⟩).mp z) H locs ls cells slots h1 h2 hS hG hl) (fun z => kf (fun e => z ((I_lt (a := 0) ⟨by omega, h⟩).mpr e)) H locs ls cells slots h1 h2 hS hG hl)
theorem tm_if_ge {u : Int} {off : Int} (tgt : Nat) (hC : tm_C x cc own ret) (hd : decode cc pc = .ok (.ifCond .ge off, 3)) (ht : (pc : Int) + off = (tgt : Int)) (h : -2147483648 ≤ u ∧ u ≤ 2147483647) (kt : 0 ≤ u → tm_V x G b n tgt L st) (kf : ¬ (0 ≤ u) → tm_V x G b n (pc + 3) L st) : tm_V x G b n pc L (.int (I u) :: st) :=
  fun H locs ls cells slots h1 h2 hS hG hl => lv_if_ge hC.1 hC.2.1 hd ht (fun z => kt ((I_le (a := 0) ⟨by omega, h⟩).mp z) H locs ls cells slots h1 h2 hS hG hl) (fun z => kf (fun e => z ((I_le (a := 0) ⟨by omega, h⟩).mpr e)) H locs ls cells slots h1 h2 hS hG hl)
theorem tm_if_ne {u : Int} {off : Int} (tgt : Nat) (hC : tm_C x cc own ret) (hd : decode cc pc = .ok (.ifCond .ne off, 3)) (ht : (pc : Int) + off = (tgt : Int)) (h : -2147483648 ≤ u ∧ u ≤ 2147483647) (kt : ¬ u = 0 → tm_V x G b n tgt L st) (kf : u = 0 → tm_V x G b n (pc + 3) L st) : tm_V x G b n pc L (.int (I u) :: st) :=
  fun H locs ls cells slots h1 h2 hS hG hl => lv_if_ne hC.1 hC.2.1 hd ht (fun z => kt (fun e => z ((I_eq (b := 0) ⟨h, by omega⟩).mpr e)) H locs ls cells slots h1 h2 hS hG hl) (fun z => kf ((I_eq (b := 0) ⟨h, by omega⟩).mp z) H locs ls cells slots h1 h2 hS hG hl)
/-- a truth value as the machine holds it -/
noncomputable def bi (P : Prop) : Int := @ite Int P (Classical.propDecidable P) 1 0
theorem bi_t {P : Prop} (h : P) : bi P = 1 := if_pos h
theorem bi_f {P : Prop} (h : ¬ P) : bi P = 0 := if_neg h
theorem bi_01 (P : Prop) : bi P = 0 ∨ bi P = 1 := by by_cases h : P; exact Or.inr (bi_t h); exact Or.inl (bi_f h)
theorem bi_rg (P : Prop) : 0 ≤ bi P ∧ bi P ≤ 1 := by rcases bi_01 P with h | h <;> omega
theorem bi_iff {P Q : Prop} (h : P ↔ Q) : bi P = bi Q := by rw [propext h]
theorem bi_0 {P : Prop} : bi P = 0 ↔ ¬ P := ⟨fun h q => by rw [bi_t q] at h; omega, bi_f⟩
theorem tm_ifb_eq {P : Prop} {off : Int} (tgt : Nat) (hC : tm_C x cc own ret) (hd : decode cc pc = .ok (.ifCond .eq off, 3)) (ht : (pc : Int) + off = (tgt : Int)) (kt : ¬ P → tm_V x G b n tgt L st) (kf : P → tm_V x G b n (pc + 3) L st) : tm_V x G b n pc L (.int (I (bi P)) :: st) :=
  tm_if_eq tgt hC hd ht (by have := bi_rg P; omega) (fun z => kt (bi_0.mp z)) (fun z => kf (Classical.byContradiction fun q => z (bi_f q)))
theorem tm_ifb_ne {P : Prop} {off : Int} (tgt : Nat) (hC : tm_C x cc own ret) (hd : decode cc pc = .ok (.ifCond .ne off, 3)) (ht : (pc : Int) + off = (tgt : Int)) (kt : P → tm_V x G b n tgt L st) (kf : ¬ P → tm_V x G b n (pc + 3) L st) : tm_V x G b n pc L (.int (I (bi P)) :: st) :=
  tm_if_ne tgt hC hd ht (by have := bi_rg P; omega) (fun z => kt (Classical.byContradiction fun q => z (bi_f q))) (fun z => kf (bi_0.mp z))
end TMV
end
section
/-! Contracts, their ends, and calls: over any kind of world (h Fz w H: the heap H holds the world w, apart from the frozen Fz). -/
abbrev tmM : Type := MethodName × ByteArray × Nat × Option FieldType
abbrev tmG : Type := Launch × va_G × (ClassId × ClassId × ClassId × ClassId) × Nat × Nat
abbrev tm_g (x : tmX) : tmG := (x.1.2.1, tm_D x, tm_T x, tm_e0 x, tm_mi x)
def tm_rm (d mc ms : Nat) : Room := { frames := d, cells := mc, slots := ms, locals := 64 * d }
def tm_qc {Wd : Type} (h : (Nat → Prop) → Wd → Heap → Prop) (Fz : Nat → Prop) (post : Option Value → Wd → Prop) : Array Value → State → Outcome → State → Prop := fun _ st o t => ∃ (v : Option Value) (w' : Wd), o = .returned v ∧ post v w' ∧ h Fz w' t.heap ∧ va_F (fun q => ¬ Fz q) st t
def tm_xc {Wd : Type} (h : (Nat → Prop) → Wd → Heap → Prop) (Fz : Nat → Prop) (xp : String → Wd → Prop) : String → State → State → Prop := fun E st t => ∃ (w' : Wd), xp E w' ∧ h Fz w' t.heap ∧ va_F (fun q => ¬ Fz q) st t
def tm_pc {Wd : Type} (γ : tmG) (h : (Nat → Prop) → Wd → Heap → Prop) (Fz : Nat → Prop) (w : Wd) (As : List Value) : Array Value → State → Prop := va_Pc As (fun U => tm_Et γ.2.1 γ.2.2.1 γ.2.2.2.2 U ∧ tm_Es γ.2.2.1 γ.2.2.2.1 Fz U U.heap ∧ h Fz w U.heap)
/-- a contract of a method that throws nothing -/
def tm_Con {Wd : Type} (γ : tmG) (h : (Nat → Prop) → Wd → Heap → Prop) (M : tmM) (d mc ms : Nat) (As : List Value) (w : Wd) (post : Option Value → Wd → Prop) : Prop :=
  ∀ Fz : Nat → Prop, Met γ.1 M.1 (.code M.1 M.2.1 M.2.2.1 M.2.2.2 :: ALL) (tm_rm d mc ms) (tm_pc γ h Fz w As) (tm_qc h Fz post) mc ms (fun q => ¬ Fz q)
/-- .. of one that may throw -/
def tm_ConX {Wd : Type} (γ : tmG) (h : (Nat → Prop) → Wd → Heap → Prop) (M : tmM) (d mc ms : Nat) (As : List Value) (w : Wd) (post : Option Value → Wd → Prop) (xp : String → Wd → Prop) : Prop :=
  ∀ Fz : Nat → Prop, vx_Met γ.1 M.1 (.code M.1 M.2.1 M.2.2.1 M.2.2.2 :: ALL) (tm_rm d mc ms) (tm_pc γ h Fz w As) (tm_qc h Fz post) (tm_xc h Fz xp) mc ms (fun q => ¬ Fz q)
abbrev tm_Q (x : tmX) : State → Prop := x.1.2.2.2.2.2.2.2.2.2.2
abbrev tm_be (x : tmX) : List Frame := x.1.2.2.2.2.2.2.2.1
def tm_Rt {Wd : Type} (x : tmX) (h : (Nat → Prop) → Wd → Heap → Prop) (post : Option Value → Wd → Prop) : Prop :=
  tm_Q x = MQ (tm_be x) (tm_qc h (tm_Fz x) post) (tm_as x) (tm_st x) (tm_R x).cells (tm_R x).slots (fun q => ¬ tm_Fz x q)
def tm_RtX {Wd : Type} (x : tmX) (h : (Nat → Prop) → Wd → Heap → Prop) (post : Option Value → Wd → Prop) (xp : String → Wd → Prop) : Prop :=
  tm_Q x = vx_MQ (tm_be x) (tm_qc h (tm_Fz x) post) (tm_xc h (tm_Fz x) xp) (tm_as x) (tm_st x) (tm_R x).cells (tm_R x).slots (fun q => ¬ tm_Fz x q)
/-- what a body of a contract begins with -/
def tm_B (x : tmX) (γ : tmG) (M : tmM) (d mc ms : Nat) : Prop := tm_g x = γ ∧ tm_nL x = M.2.2.1 ∧ tm_R x = tm_rm d mc ms ∧ tm_C x M.2.1 M.1.cls M.2.2.2 ∧ (tm_me x).name = M.1.name
theorem tm_blind {Wd : Type} {γ : tmG} {h : (Nat → Prop) → Wd → Heap → Prop} {Fz : Nat → Prop} {w : Wd} {As : List Value} : FrameBlind (tm_pc γ h Fz w As) := by
  intro a U g mk hp
  obtain ⟨h1, h2, h3, h4⟩ := hp
  refine ⟨h1, ?_, ?_, h4⟩
  · exact tm_Et.warm (s := U) (U := U.calling g mk a) (State.WarmedH.refl U) h2
  · exact tm_Es.moved (s := U) (U := U.calling g mk a) (State.WarmedH.refl U).alike h3

theorem tm_con {Wd : Type} {γ : tmG} {h : (Nat → Prop) → Wd → Heap → Prop} {M : tmM} {d mc ms : Nat} {As : List Value} {w : Wd} {post : Option Value → Wd → Prop} (hst : γ.1.stackTraces = false) (hy : plainName M.1.cls = true) (hn : (lg_sl As).length ≤ M.2.2.1)
    (body : ∀ x : tmX, tm_B x γ M d mc ms → tm_Rt x h post → tm_V x (h (tm_Fz x) w) mc ms 0 (lv_args 0 As) []) : tm_Con γ h M d mc ms As w post := by
  intro Fz
  refine Met.ofW (cc := M.2.1) (maxL := M.2.2.1) (ret := M.2.2.2) hy rfl ?_
  intro p e s m args below meth c s₁ B hml hv
  obtain ⟨rfl, hEt, hEs, hG⟩ := hv
  have hts := atoms_spec (ws := .code M.1 M.2.1 M.2.2.1 M.2.2.2 :: ALL) B.pre
  have hown : s.vm.findClass M.1.cls = some m.cls := findClass_of_methodNamed B.named
  obtain ⟨l, D, T, e0, mi⟩ := γ
  have hb := body ((p, l, e, tm_rm d mc ms, s, m, As.toArray, below, meth, c, MQ below (tm_qc h Fz post) As.toArray s mc ms (fun q => ¬ Fz q)), D, T, e0, mi, Fz, M.2.2.1)
    ⟨rfl, rfl, rfl, ⟨B.exec, B.bytes, hml, hown, fun w hw => hts w (List.mem_cons_of_mem _ hw), B.notSynchronized, B.returns, hst, hEt, hEs⟩, (name_of_methodNamed B.named B.method).1⟩ rfl
  rw [lg_entry_eq]
  exact hb s.heap [] _ 0 0 (by show 0 + mc ≤ mc; omega) (by show 0 + ms ≤ ms; omega) va_S.rf hG (lv_entry As hn)
theorem tm_conX {Wd : Type} {γ : tmG} {h : (Nat → Prop) → Wd → Heap → Prop} {M : tmM} {d mc ms : Nat} {As : List Value} {w : Wd} {post : Option Value → Wd → Prop} {xp : String → Wd → Prop} (hst : γ.1.stackTraces = false) (hy : plainName M.1.cls = true) (hn : (lg_sl As).length ≤ M.2.2.1)
    (body : ∀ x : tmX, tm_B x γ M d mc ms → tm_RtX x h post xp → (∀ z ∈ (tm_c x).exceptionTable.toList, False) → tm_V x (h (tm_Fz x) w) mc ms 0 (lv_args 0 As) []) : tm_ConX γ h M d mc ms As w post xp := by
  intro Fz
  refine vx_ofW (cc := M.2.1) (maxL := M.2.2.1) (ret := M.2.2.2) hy rfl ?_
  intro p e s m args below meth c s₁ B hml hnt hv
  obtain ⟨rfl, hEt, hEs, hG⟩ := hv
  have hts := atoms_spec (ws := .code M.1 M.2.1 M.2.2.1 M.2.2.2 :: ALL) B.pre
  have hown : s.vm.findClass M.1.cls = some m.cls := findClass_of_methodNamed B.named
  obtain ⟨l, D, T, e0, mi⟩ := γ
  have hb := body ((p, l, e, tm_rm d mc ms, s, m, As.toArray, below, meth, c, vx_MQ below (tm_qc h Fz post) (tm_xc h Fz xp) As.toArray s mc ms (fun q => ¬ Fz q)), D, T, e0, mi, Fz, M.2.2.1)
    ⟨rfl, rfl, rfl, ⟨B.exec, B.bytes, hml, hown, fun w hw => hts w (List.mem_cons_of_mem _ hw), B.notSynchronized, B.returns, hst, hEt, hEs⟩, (name_of_methodNamed B.named B.method).1⟩ rfl hnt
  rw [lg_entry_eq]
  exact hb s.heap [] _ 0 0 (by show 0 + mc ≤ mc; omega) (by show 0 + ms ≤ ms; omega) va_S.rf hG (lv_entry As hn)
section TMR
variable {x : tmX} {cc : ByteArray} {own : String} {ret : Option FieldType} {b n pc : Nat} {L : List (Nat × Value)} {st : List Value} {Wd : Type} {h : (Nat → Prop) → Wd → Heap → Prop} {w : Wd} {post : Option Value → Wd → Prop} {xp : String → Wd → Prop}
theorem tm_end {v : Option Value} {vs : List Value} (hR : tm_Rt x h post) (hp : post v w)
    (k : ∀ (H : Heap) (locs : List Loc) (ls : Array Slot) (cells slots : Nat), (∀ t : State, t.heap = H → (tm_st x).WarmedH t.vm → tm_qc h (tm_Fz x) post (tm_as x) (tm_st x) (.returned v) t) → (∀ q ∈ locs, ¬ tm_Fz x q.base) → W x.1.1 x.1.2.1 x.1.2.2.1 (tm_R x) (tm_st x) (tm_m x) (tm_as x) (tm_be x) (tm_me x) (tm_c x) H locs cells slots (MQ (tm_be x) (tm_qc h (tm_Fz x) post) (tm_as x) (tm_st x) cells slots (fun q => ¬ tm_Fz x q)) (F0 (tm_m x) pc ls vs)) : tm_V x (h (tm_Fz x) w) b n pc L vs := by
  intro H locs ls cells slots h1 h2 hS hG hl
  show W _ _ _ _ _ _ _ _ _ _ H locs cells slots (tm_Q x) _
  rw [show tm_Q x = _ from hR]
  refine W.widen (k := (tm_R x).cells) (n := (tm_R x).slots) (by omega) (by omega) ?_
  exact k H locs ls _ _ (fun t ht hW => ⟨v, w, rfl, hp, by rw [ht]; exact hG, hS.F ht⟩) hS.2.2
theorem tm_endX {v : Option Value} {vs : List Value} (hR : tm_RtX x h post xp) (hp : post v w)
    (k : ∀ (H : Heap) (locs : List Loc) (ls : Array Slot) (cells slots : Nat), (∀ t : State, t.heap = H → (tm_st x).WarmedH t.vm → tm_qc h (tm_Fz x) post (tm_as x) (tm_st x) (.returned v) t) → (∀ q ∈ locs, ¬ tm_Fz x q.base) → W x.1.1 x.1.2.1 x.1.2.2.1 (tm_R x) (tm_st x) (tm_m x) (tm_as x) (tm_be x) (tm_me x) (tm_c x) H locs cells slots (MQ (tm_be x) (tm_qc h (tm_Fz x) post) (tm_as x) (tm_st x) cells slots (fun q => ¬ tm_Fz x q)) (F0 (tm_m x) pc ls vs)) : tm_V x (h (tm_Fz x) w) b n pc L vs := by
  intro H locs ls cells slots h1 h2 hS hG hl
  show W _ _ _ _ _ _ _ _ _ _ H locs cells slots (tm_Q x) _
  rw [show tm_Q x = _ from hR]
  refine W.widen (k := (tm_R x).cells) (n := (tm_R x).slots) (by omega) (by omega) ?_
  exact vx_ret (k H locs ls _ _ (fun t ht hW => ⟨v, w, rfl, hp, by rw [ht]; exact hG, hS.F ht⟩) hS.2.2)
theorem tm_iret {v : Int32} (hC : tm_C x cc own (some .int)) (hR : tm_Rt x h post) (hd : decode cc pc = .ok (.ireturn, 1)) (hp : post (some (.int v)) w) : tm_V x (h (tm_Fz x) w) b n pc L [.int v] :=
  tm_end hR hp (fun H locs ls cells slots hq hf => W.iret hC.1 hC.2.1 hC.2.2.2.2.2.2.1 hq hf hd hC.2.2.2.2.2.1)
theorem tm_zret {v : Int} (hC : tm_C x cc own (some .boolean)) (hR : tm_Rt x h post) (hd : decode cc pc = .ok (.ireturn, 1)) (hv : v = 0 ∨ v = 1) (hp : post (some (.int (I v))) w) : tm_V x (h (tm_Fz x) w) b n pc L [.int (I v)] :=
  tm_end hR hp (fun H locs ls cells slots hq hf => W.zret hC.1 hC.2.1 hC.2.2.2.2.2.2.1 (by rcases hv with rfl | rfl <;> rfl) hq hf hd hC.2.2.2.2.2.1)
theorem tm_lret {v : Int64} (hC : tm_C x cc own (some .long)) (hR : tm_Rt x h post) (hd : decode cc pc = .ok (.lreturn, 1)) (hp : post (some (.long v)) w) : tm_V x (h (tm_Fz x) w) b n pc L [.long v] :=
  tm_end hR hp (fun H locs ls cells slots hq hf => W.lret hC.1 hC.2.1 hC.2.2.2.2.2.2.1 hq hf hd hC.2.2.2.2.2.1)
theorem tm_dret {v : UInt64} (hC : tm_C x cc own (some .double)) (hR : tm_Rt x h post) (hd : decode cc pc = .ok (.dreturn, 1)) (hp : post (some (.double v)) w) : tm_V x (h (tm_Fz x) w) b n pc L [.double v] :=
  tm_end hR hp (fun H locs ls cells slots hq hf => W.dret hC.1 hC.2.1 hC.2.2.2.2.2.2.1 hq hf hd hC.2.2.2.2.2.1)
theorem tm_vret (hC : tm_C x cc own none) (hR : tm_Rt x h post) (hd : decode cc pc = .ok (.return_, 1)) (hp : post none w) : tm_V x (h (tm_Fz x) w) b n pc L [] :=
  tm_end hR hp (fun H locs ls cells slots hq hf => W.vret hC.1 hC.2.1 hC.2.2.2.2.2.2.1 hq hf hd hC.2.2.2.2.2.1)
theorem tm_aret {rt : FieldType} {a : Nat} (hC : tm_C x cc own (some rt)) (hR : tm_Rt x h post) (hrt : (∃ n, rt = .object n) ∨ ∃ t, rt = .array t) (hd : decode cc pc = .ok (.areturn, 1)) (hp : post (some (.ref a)) w) : tm_V x (h (tm_Fz x) w) b n pc L [.ref a] :=
  tm_end hR hp (fun H locs ls cells slots hq hf => W.aret hC.1 hC.2.1 hC.2.2.2.2.2.2.1 hrt (Or.inr ⟨a, rfl⟩) hq hf hd hC.2.2.2.2.2.1)
theorem tm_aretN {rt : FieldType} (hC : tm_C x cc own (some rt)) (hR : tm_Rt x h post) (hrt : (∃ n, rt = .object n) ∨ ∃ t, rt = .array t) (hd : decode cc pc = .ok (.areturn, 1)) (hp : post (some .null) w) : tm_V x (h (tm_Fz x) w) b n pc L [.null] :=
  tm_end hR hp (fun H locs ls cells slots hq hf => W.aret hC.1 hC.2.1 hC.2.2.2.2.2.2.1 hrt (Or.inl rfl) hq hf hd hC.2.2.2.2.2.1)
theorem tm_iretX {v : Int32} (hC : tm_C x cc own (some .int)) (hR : tm_RtX x h post xp) (hd : decode cc pc = .ok (.ireturn, 1)) (hp : post (some (.int v)) w) : tm_V x (h (tm_Fz x) w) b n pc L [.int v] :=
  tm_endX hR hp (fun H locs ls cells slots hq hf => W.iret hC.1 hC.2.1 hC.2.2.2.2.2.2.1 hq hf hd hC.2.2.2.2.2.1)
theorem tm_zretX {v : Int} (hC : tm_C x cc own (some .boolean)) (hR : tm_RtX x h post xp) (hd : decode cc pc = .ok (.ireturn, 1)) (hv : v = 0 ∨ v = 1) (hp : post (some (.int (I v))) w) : tm_V x (h (tm_Fz x) w) b n pc L [.int (I v)] :=
  tm_endX hR hp (fun H locs ls cells slots hq hf => W.zret hC.1 hC.2.1 hC.2.2.2.2.2.2.1 (by rcases hv with rfl | rfl <;> rfl) hq hf hd hC.2.2.2.2.2.1)
theorem tm_lretX {v : Int64} (hC : tm_C x cc own (some .long)) (hR : tm_RtX x h post xp) (hd : decode cc pc = .ok (.lreturn, 1)) (hp : post (some (.long v)) w) : tm_V x (h (tm_Fz x) w) b n pc L [.long v] :=
  tm_endX hR hp (fun H locs ls cells slots hq hf => W.lret hC.1 hC.2.1 hC.2.2.2.2.2.2.1 hq hf hd hC.2.2.2.2.2.1)
theorem tm_dretX {v : UInt64} (hC : tm_C x cc own (some .double)) (hR : tm_RtX x h post xp) (hd : decode cc pc = .ok (.dreturn, 1)) (hp : post (some (.double v)) w) : tm_V x (h (tm_Fz x) w) b n pc L [.double v] :=
  tm_endX hR hp (fun H locs ls cells slots hq hf => W.dret hC.1 hC.2.1 hC.2.2.2.2.2.2.1 hq hf hd hC.2.2.2.2.2.1)
theorem tm_vretX (hC : tm_C x cc own none) (hR : tm_RtX x h post xp) (hd : decode cc pc = .ok (.return_, 1)) (hp : post none w) : tm_V x (h (tm_Fz x) w) b n pc L [] :=
  tm_endX hR hp (fun H locs ls cells slots hq hf => W.vret hC.1 hC.2.1 hC.2.2.2.2.2.2.1 hq hf hd hC.2.2.2.2.2.1)
theorem tm_aretX {rt : FieldType} {a : Nat} (hC : tm_C x cc own (some rt)) (hR : tm_RtX x h post xp) (hrt : (∃ n, rt = .object n) ∨ ∃ t, rt = .array t) (hd : decode cc pc = .ok (.areturn, 1)) (hp : post (some (.ref a)) w) : tm_V x (h (tm_Fz x) w) b n pc L [.ref a] :=
  tm_endX hR hp (fun H locs ls cells slots hq hf => W.aret hC.1 hC.2.1 hC.2.2.2.2.2.2.1 hrt (Or.inr ⟨a, rfl⟩) hq hf hd hC.2.2.2.2.2.1)
theorem tm_aretNX {rt : FieldType} (hC : tm_C x cc own (some rt)) (hR : tm_RtX x h post xp) (hrt : (∃ n, rt = .object n) ∨ ∃ t, rt = .array t) (hd : decode cc pc = .ok (.areturn, 1)) (hp : post (some .null) w) : tm_V x (h (tm_Fz x) w) b n pc L [.null] :=
  tm_endX hR hp (fun H locs ls cells slots hq hf => W.aret hC.1 hC.2.1 hC.2.2.2.2.2.2.1 hrt (Or.inl rfl) hq hf hd hC.2.2.2.2.2.1)
/-- behind a call -/
theorem tm_run {mc ms : Nat} {a : Array Value} {rest st0 : List Value}
    (hr : ∀ (H : Heap) (locs : List Loc) (ls : Array Slot) (cells slots : Nat), cells + mc ≤ (tm_R x).cells → slots + ms ≤ (tm_R x).slots → va_S (fun q => ¬ tm_Fz x q) (tm_st x).heap H locs → h (tm_Fz x) w H → ls.size = tm_nL x → va_Run x.1.1 x.1.2.1 x.1.2.2.1 (tm_R x) (tm_st x) (tm_m x) (tm_as x) (tm_be x) (tm_me x) (tm_c x) H locs cells slots mc ms (F0 (tm_m x) pc ls st0) rest (tm_qc h (tm_Fz x) post a) (fun q => ¬ tm_Fz x q))
    (k : ∀ (v : Option Value) (w' : Wd), post v w' → tm_V x (h (tm_Fz x) w') b n (pc + 3) L (v.toList ++ rest)) : tm_V x (h (tm_Fz x) w) (mc + b) (ms + n) pc L st0 := by
  intro H locs ls cells slots h1 h2 hS hG hl T hT X
  obtain ⟨v, st₀, t, T', Lc, h0, X', hLc, e1, e2, ⟨v', w', hv, hp, hh, hF⟩, hgo⟩ := hr H locs ls cells slots (by omega) (by omega) hS hG hl.1 T hT X
  cases hv
  obtain ⟨hz, hk, hS'⟩ := vx_keep h0 e1 hS (fun q _ hq => hq) (fun q hq => hq) hLc hF
  obtain ⟨t2, a1, b1⟩ := k v w' hp T'.heap (locs ++ Lc) ls (cells + mc) (slots + ms) (by omega) (by omega) hS' (by rw [e1]; exact hh) hl T' rfl X'
  exact ⟨t2, hgo t2 a1, b1⟩
/-- what the tables say of a call -/
def tm_kv (own : String) (idx : Nat) (M : tmM) (n : Nat) : Prop := Cond.methodLink own idx M.1 ∈ ALL ∧ Cond.instanceMethod M.1 ∈ ALL ∧ Cond.selects M.1.cls M.1 M.1 ∈ ALL ∧ Cond.initialized M.1.cls ∈ ALL ∧ Cond.code M.1 M.2.1 M.2.2.1 M.2.2.2 ∈ ALL ∧ (M.1.cls ≠ "java/lang/invoke/MethodHandle" ∧ M.1.cls ≠ "java/lang/invoke/VarHandle") ∧ (parseMethodDescriptor M.1.desc).map (fun d => d.parameters.length) = some n
def tm_kn (own : String) (idx : Nat) (M : tmM) (n : Nat) : Prop := (∃ host, Cond.methodLinkNest own idx M.1 host ∈ NW) ∧ Cond.instanceMethod M.1 ∈ ALL ∧ Cond.selects M.1.cls M.1 M.1 ∈ ALL ∧ Cond.initialized M.1.cls ∈ ALL ∧ Cond.code M.1 M.2.1 M.2.2.1 M.2.2.2 ∈ ALL ∧ (M.1.cls ≠ "java/lang/invoke/MethodHandle" ∧ M.1.cls ≠ "java/lang/invoke/VarHandle") ∧ (parseMethodDescriptor M.1.desc).map (fun d => d.parameters.length) = some n
def tm_ks (own : String) (idx : Nat) (M : tmM) (n : Nat) : Prop := Cond.methodLink own idx M.1 ∈ ALL ∧ Cond.static M.1 ∈ ALL ∧ True ∧ Cond.initialized M.1.cls ∈ ALL ∧ Cond.code M.1 M.2.1 M.2.2.1 M.2.2.2 ∈ ALL ∧ (M.1.cls ≠ "java/lang/invoke/MethodHandle" ∧ M.1.cls ≠ "java/lang/invoke/VarHandle") ∧ (parseMethodDescriptor M.1.desc).map (fun d => d.parameters.length) = some n
def tm_ki (own : String) (idx : Nat) (M : tmM) (n : Nat) : Prop := Cond.methodLink own idx M.1 ∈ ALL ∧ Cond.instanceMethod M.1 ∈ ALL ∧ (M.1.name = "<init>" ∧ M.2.2.2 = none) ∧ Cond.initialized M.1.cls ∈ ALL ∧ Cond.code M.1 M.2.1 M.2.2.1 M.2.2.2 ∈ ALL ∧ (M.1.cls ≠ "java/lang/invoke/MethodHandle" ∧ M.1.cls ≠ "java/lang/invoke/VarHandle") ∧ (parseMethodDescriptor M.1.desc).map (fun d => d.parameters.length) = some n
def tm_kin (own : String) (idx : Nat) (M : tmM) (n : Nat) : Prop := (∃ host, Cond.methodLinkNest own idx M.1 host ∈ NW) ∧ Cond.instanceMethod M.1 ∈ ALL ∧ (M.1.name = "<init>" ∧ M.2.2.2 = none) ∧ Cond.initialized M.1.cls ∈ ALL ∧ Cond.code M.1 M.2.1 M.2.2.1 M.2.2.2 ∈ ALL ∧ (M.1.cls ≠ "java/lang/invoke/MethodHandle" ∧ M.1.cls ≠ "java/lang/invoke/VarHandle") ∧ (parseMethodDescriptor M.1.desc).map (fun d => d.parameters.length) = some n
theorem tm_good {w : Cond} {ws : List Cond} {s : State} {args : Array Value} (hts : ∀ w ∈ ALL, w.before args s = true) (hc : w ∈ ALL) (hw : ∀ z ∈ ws, z = w ∨ z ∈ ALL) : ∀ z ∈ ws, ∀ (a' : Array Value) (U : State), s.WarmedH U.vm → z.before a' U = true := by
  intro z hz a' U hW
  have hm : z ∈ ALL := by rcases hw z hz with h | h; rw [h]; exact hc; exact h
  exact word_at hW (good_of_word (List.mem_filter.mp hm).2) (hts z hm)
theorem tm_callB {idx nn mc ms d : Nat} {M : tmM} {y2 : Prop} (hC : tm_C x cc own ret) (hk : Cond.methodLink own idx M.1 ∈ ALL ∧ y2 ∧ Cond.initialized M.1.cls ∈ ALL ∧ Cond.code M.1 M.2.1 M.2.2.1 M.2.2.2 ∈ ALL ∧ (M.1.cls ≠ "java/lang/invoke/MethodHandle" ∧ M.1.cls ≠ "java/lang/invoke/VarHandle") ∧ (parseMethodDescriptor M.1.desc).map (fun d => d.parameters.length) = some nn) (hd : d + 1 ≤ (tm_R x).frames ∧ 19 + M.2.2.1 + 64 * d ≤ (tm_R x).locals) :
    CallB (tm_R x) (tm_st x) (tm_as x) own idx M.1 M.2.1 M.2.2.1 M.2.2.2 (.code M.1 M.2.1 M.2.2.1 M.2.2.2 :: ALL) (tm_rm d mc ms) mc ms nn := by
  obtain ⟨k1, k2, k3, k4, k5, k6⟩ := hk
  refine ⟨rfl, rfl, hd.1, by show 8 + (M.2.2.1 + 11) + 64 * d ≤ _; omega, tm_good hC.2.2.2.2.1 k4 (fun z hz => List.mem_cons.mp hz), List.mem_cons_self, hC.2.2.2.2.1 _ k4, hC.2.2.2.2.1 _ k3, k5, fun sig hs => ?_, hC.2.2.2.2.1 _ k1⟩
  rw [hs] at k6
  exact (Option.some.inj k6).symm
theorem tm_callN {idx nn mc ms d : Nat} {M : tmM} {y2 : Prop} {host : String} (hC : tm_C x cc own ret) (hk : Cond.methodLinkNest own idx M.1 host ∈ NW ∧ y2 ∧ Cond.initialized M.1.cls ∈ ALL ∧ Cond.code M.1 M.2.1 M.2.2.1 M.2.2.2 ∈ ALL ∧ (M.1.cls ≠ "java/lang/invoke/MethodHandle" ∧ M.1.cls ≠ "java/lang/invoke/VarHandle") ∧ (parseMethodDescriptor M.1.desc).map (fun d => d.parameters.length) = some nn) (hd : d + 1 ≤ (tm_R x).frames ∧ 19 + M.2.2.1 + 64 * d ≤ (tm_R x).locals) :
    va_CN (tm_R x) (tm_st x) (tm_as x) own idx M.1 host M.2.1 M.2.2.1 M.2.2.2 (.code M.1 M.2.1 M.2.2.1 M.2.2.2 :: ALL) (tm_rm d mc ms) mc ms nn := by
  obtain ⟨k1, k2, k3, k4, k5, k6⟩ := hk
  refine ⟨⟨rfl, rfl, hd.1, by show 8 + (M.2.2.1 + 11) + 64 * d ≤ _; omega, tm_good hC.2.2.2.2.1 k4 (fun z hz => List.mem_cons.mp hz), List.mem_cons_self⟩, hC.2.2.2.2.1 _ k4, hC.2.2.2.2.1 _ k3, k5, fun sig hs => ?_, va_Nw.use rfl (tm_CN hC k1)⟩
  rw [hs] at k6
  exact (Option.some.inj k6).symm
theorem tm_pre {As : List Value} {H : Heap} (hC : tm_C x cc own ret) {locs : List Loc} (hS : va_S (fun q => ¬ tm_Fz x q) (tm_st x).heap H locs) (hG : h (tm_Fz x) w H) : ∀ U : State, U.heap = H → (tm_st x).WarmedH U.vm → tm_pc (tm_g x) h (tm_Fz x) w As As.toArray U :=
  fun U hU hW => ⟨rfl, hC.2.2.2.2.2.2.2.2.1.warm hW, by rw [hU]; exact (tm_CE hC hS).moved hW.alike, by rw [hU]; exact hG⟩
theorem tm_fix (hC : tm_C x cc own ret) : CallFix x.1.1 (tm_m x) (tm_c x) cc (tm_nL x) (tm_st x) (tm_as x) ALL own := ⟨hC.1, hC.2.1, hC.2.2.1, hC.2.2.2.1, hC.2.2.2.2.1⟩
theorem tm_callV {idx nn d mc ms : Nat} {M : tmM} {a : Nat} {As rest st0 : List Value} (hC : tm_C x cc own ret) (hM : tm_Con (tm_g x) h M d mc ms (.ref a :: As) w post) (hk : tm_kv own idx M nn) (hd : d + 1 ≤ (tm_R x).frames ∧ 19 + M.2.2.1 + 64 * d ≤ (tm_R x).locals) (hn : As.length = nn) (hrec : ∀ H, h (tm_Fz x) w H → ∃ cell : Cell, H[a]? = some cell ∧ cell.vm.isStatics = false ∧ (tm_st x).vm.findClass M.1.cls = some cell.cls) (hs0 : st0 = As.reverse ++ .ref a :: rest) (hw8 : (rest.map fun v => v.category).sum ≤ 8) (hdg : decode cc pc = .ok (.invokevirtual idx, 3))
    (k : ∀ (v : Option Value) (w' : Wd), post v w' → tm_V x (h (tm_Fz x) w') b n (pc + 3) L (v.toList ++ rest)) : tm_V x (h (tm_Fz x) w) (mc + b) (ms + n) pc L st0 := by
  have cw := And.intro (tm_callB (mc := mc) (ms := ms) (d := d) (y2 := True) hC ⟨hk.1, trivial, hk.2.2.2⟩ hd) (And.intro (hC.2.2.2.2.1 _ hk.2.1) (hC.2.2.2.2.1 _ hk.2.2.1))
  refine tm_run (a := (.ref a :: As).toArray) (fun H locs ls cells slots h1 h2 hS hG hsz => ?_) k
  exact va_runV (tm_fix hC) (hM (tm_Fz x)) cw ⟨tm_blind, hrec H hG, fun U hU hW => tm_pre hC hS hG U hU hW⟩ rfl hn hsz hs0 (lv_room hw8) hdg ⟨h1, h2⟩
theorem tm_callVN {idx nn d mc ms : Nat} {M : tmM} {a : Nat} {As rest st0 : List Value} (hC : tm_C x cc own ret) (hM : tm_Con (tm_g x) h M d mc ms (.ref a :: As) w post) (hk : tm_kn own idx M nn) (hd : d + 1 ≤ (tm_R x).frames ∧ 19 + M.2.2.1 + 64 * d ≤ (tm_R x).locals) (hn : As.length = nn) (hrec : ∀ H, h (tm_Fz x) w H → ∃ cell : Cell, H[a]? = some cell ∧ cell.vm.isStatics = false ∧ (tm_st x).vm.findClass M.1.cls = some cell.cls) (hs0 : st0 = As.reverse ++ .ref a :: rest) (hw8 : (rest.map fun v => v.category).sum ≤ 8) (hdg : decode cc pc = .ok (.invokevirtual idx, 3))
    (k : ∀ (v : Option Value) (w' : Wd), post v w' → tm_V x (h (tm_Fz x) w') b n (pc + 3) L (v.toList ++ rest)) : tm_V x (h (tm_Fz x) w) (mc + b) (ms + n) pc L st0 := by
  obtain ⟨host, hk1⟩ := hk.1
  have cw := And.intro (tm_callN (mc := mc) (ms := ms) (d := d) (y2 := True) hC ⟨hk1, trivial, hk.2.2.2⟩ hd) (And.intro (hC.2.2.2.2.1 _ hk.2.1) (hC.2.2.2.2.1 _ hk.2.2.1))
  refine tm_run (a := (.ref a :: As).toArray) (fun H locs ls cells slots h1 h2 hS hG hsz => ?_) k
  exact va_runVN (tm_fix hC) (hM (tm_Fz x)) cw ⟨tm_blind, hrec H hG, fun U hU hW => tm_pre hC hS hG U hU hW⟩ rfl hn hsz hs0 (lv_room hw8) hdg ⟨h1, h2⟩
theorem tm_callS {idx nn d mc ms : Nat} {M : tmM} {As rest st0 : List Value} (hC : tm_C x cc own ret) (hM : tm_Con (tm_g x) h M d mc ms (As) w post) (hk : tm_ks own idx M nn) (hd : d + 1 ≤ (tm_R x).frames ∧ 19 + M.2.2.1 + 64 * d ≤ (tm_R x).locals) (hn : As.length = nn) (hs0 : st0 = As.reverse ++ rest) (hw8 : (rest.map fun v => v.category).sum ≤ 8) (hdg : decode cc pc = .ok (.invokestatic idx, 3))
    (k : ∀ (v : Option Value) (w' : Wd), post v w' → tm_V x (h (tm_Fz x) w') b n (pc + 3) L (v.toList ++ rest)) : tm_V x (h (tm_Fz x) w) (mc + b) (ms + n) pc L st0 := by
  have cw := And.intro (tm_callB (mc := mc) (ms := ms) (d := d) (y2 := True) hC ⟨hk.1, trivial, hk.2.2.2⟩ hd) (hC.2.2.2.2.1 _ hk.2.1)
  refine tm_run (a := (As).toArray) (fun H locs ls cells slots h1 h2 hS hG hsz => ?_) k
  exact va_runS (tm_fix hC) (hM (tm_Fz x)) cw ⟨tm_blind, fun U hU hW => tm_pre hC hS hG U hU hW⟩ rfl hn hsz hs0 (lv_room hw8) hdg ⟨h1, h2⟩
theorem tm_callI {idx nn d mc ms : Nat} {M : tmM} {a : Nat} {As rest st0 : List Value} (hC : tm_C x cc own ret) (hM : tm_Con (tm_g x) h M d mc ms (.ref a :: As) w post) (hk : tm_ki own idx M nn) (hd : d + 1 ≤ (tm_R x).frames ∧ 19 + M.2.2.1 + 64 * d ≤ (tm_R x).locals) (hn : As.length = nn) (hs0 : st0 = As.reverse ++ .ref a :: rest) (hw8 : (rest.map fun v => v.category).sum ≤ 8) (hdg : decode cc pc = .ok (.invokespecial idx, 3))
    (k : ∀ (v : Option Value) (w' : Wd), post v w' → tm_V x (h (tm_Fz x) w') b n (pc + 3) L (v.toList ++ rest)) : tm_V x (h (tm_Fz x) w) (mc + b) (ms + n) pc L st0 := by
  obtain ⟨y, bytes, maxL, rt⟩ := M
  obtain ⟨k1, k2, ⟨k3, k4⟩, k5⟩ := hk
  dsimp only at k4
  subst k4
  have cw := And.intro (tm_callB (mc := mc) (ms := ms) (d := d) (y2 := True) (M := (y, bytes, maxL, none)) hC ⟨k1, trivial, k5⟩ hd) (And.intro k3 (hC.2.2.2.2.1 _ k2))
  refine tm_run (a := (.ref a :: As).toArray) (fun H locs ls cells slots h1 h2 hS hG hsz => ?_) k
  exact va_runI (tm_fix hC) (hM (tm_Fz x)) cw ⟨tm_blind, fun U hU hW => tm_pre hC hS hG U hU hW⟩ rfl hn hsz hs0 (lv_room hw8) hdg ⟨h1, h2⟩
theorem tm_callIN {idx nn d mc ms : Nat} {M : tmM} {a : Nat} {As rest st0 : List Value} (hC : tm_C x cc own ret) (hM : tm_Con (tm_g x) h M d mc ms (.ref a :: As) w post) (hk : tm_kin own idx M nn) (hd : d + 1 ≤ (tm_R x).frames ∧ 19 + M.2.2.1 + 64 * d ≤ (tm_R x).locals) (hn : As.length = nn) (hs0 : st0 = As.reverse ++ .ref a :: rest) (hw8 : (rest.map fun v => v.category).sum ≤ 8) (hdg : decode cc pc = .ok (.invokespecial idx, 3))
    (k : ∀ (v : Option Value) (w' : Wd), post v w' → tm_V x (h (tm_Fz x) w') b n (pc + 3) L (v.toList ++ rest)) : tm_V x (h (tm_Fz x) w) (mc + b) (ms + n) pc L st0 := by
  obtain ⟨y, bytes, maxL, rt⟩ := M
  obtain ⟨⟨host, k1⟩, k2, ⟨k3, k4⟩, k5⟩ := hk
  dsimp only at k4
  subst k4
  have cw := And.intro (tm_callN (mc := mc) (ms := ms) (d := d) (y2 := True) (M := (y, bytes, maxL, none)) hC ⟨k1, trivial, k5⟩ hd) (And.intro k3 (hC.2.2.2.2.1 _ k2))
  refine tm_run (a := (.ref a :: As).toArray) (fun H locs ls cells slots h1 h2 hS hG hsz => ?_) k
  exact va_runIN (tm_fix hC) (hM (tm_Fz x)) cw ⟨tm_blind, fun U hU hW => tm_pre hC hS hG U hU hW⟩ rfl hn hsz hs0 (lv_room hw8) hdg ⟨h1, h2⟩
end TMR
end
section
/-! Heap rows over the plain world. -/
abbrev tm_G (x : tmX) (Ω : tmO) : Heap → Prop := tm_hol (tm_D x) (tm_Fz x) Ω
def tm_f (own : String) (idx ci k : Nat) : Prop := ∃ (C ref : String) (T : u_T) (N : Nat), classes[ci]? = some (C, T, N) ∧ (∀ w ∈ u_ws C T N, w ∈ ALL) ∧ k < N ∧ (Cond.fieldLink own idx ref (T k).2.1 (T k).2.2.1 ∈ ALL ∨ ∃ host, Cond.fieldLinkNest own idx ref (T k).2.1 (T k).2.2.1 host ∈ NW) ∧ ((T k).1 = ref ∨ Cond.sameField ref (T k).1 (T k).2.1 (T k).2.2.1 ∈ ALL)
def tm_tt (ci k : Nat) (fin : Bool) (own : String) (v : Value) : Prop := ∀ (C : String) (T : u_T) (N : Nat), classes[ci]? = some (C, T, N) → (∃ ty0 : Nat → FieldType, ∀ k, k < N → parseFieldDescriptor (T k).2.2.1 = some (ty0 k)) ∧ (∀ a, a < N → ∀ b, b < N → a ≠ b → (T a).2.1 ≠ (T b).2.1) ∧ (T k).2.2.2 = fin ∧ (fin = true → (T k).1 = own) ∧ ∃ ty : FieldType, parseFieldDescriptor (T k).2.2.1 = some ty ∧ narrow ty v = v ∧ fits ty v = true
/-- a new object: its class, its blank fields -/
def tm_nw9 (own : String) (idx ci : Nat) (fs : List Value) : Prop := ∃ (C : String) (T : u_T) (N : Nat) (ty : Nat → FieldType), classes[ci]? = some (C, T, N) ∧ (∀ w ∈ u_ws C T N, w ∈ ALL) ∧ (∀ k, k < N → parseFieldDescriptor (T k).2.2.1 = some (ty k)) ∧ Cond.classLink own idx C ∈ ALL ∧ Cond.instantiable C N ∈ ALL ∧ Cond.initialized C ∈ ALL ∧ fs.length = N ∧ ∀ j, j < N → defaultValue (ty j) = vp_V fs j
def tm_ai (T : ClassId × ClassId × ClassId × ClassId) (n : Nat) (g : Int → Int) : va_E := .inl (T.1, n, .inl (fun j => I (g j)))
def tm_az (T : ClassId × ClassId × ClassId × ClassId) (n : Nat) (g : Int → Int) : va_E := .inl (T.2.1, n, .inl (fun j => I (g j)))
def tm_al (T : ClassId × ClassId × ClassId × ClassId) (n : Nat) (g : Nat → Int64) : va_E := .inl (T.2.2.1, n, .inr (.inl g))
def tm_ao (T : ClassId × ClassId × ClassId × ClassId) (n : Nat) (g : Nat → Option Nat) : va_E := .inl (T.2.2.2, n, .inr (.inr (.inr (.inr g))))
def tm_ui (g : Int → Int) (i v : Int) : Int → Int := fun j => if j = i then v else g j
theorem tm_ui_s {g : Int → Int} {i v : Int} : tm_ui g i v i = v := if_pos rfl
theorem tm_ui_n {g : Int → Int} {i j v : Int} (h : j ≠ i) : tm_ui g i v j = g j := if_neg h
theorem tm_upd {g : Int → Int} {i v : Int} (hi : 0 ≤ i) : upd (fun j : Nat => I (g j)) i.toNat (I v) = fun j : Nat => I (tm_ui g i v j) := by
  funext j
  by_cases h : j = i.toNat
  · subst h
    rw [show ((i.toNat : Nat) : Int) = i by omega, tm_ui_s]
    exact pk_us
  · rw [tm_ui_n (by omega)]
    exact pk_un h
section TMH
variable {x : tmX} {cc : ByteArray} {own : String} {ret : Option FieldType} {b n pc : Nat} {L : List (Nat × Value)} {st : List Value} {Ω : tmO} {a : Nat}
theorem tm_same {ref o nm d : String} (hC : tm_C x cc own ret) (h : o = ref ∨ Cond.sameField ref o nm d ∈ ALL) : ∀ z, (tm_st x).fieldFound? o nm d = some z → (tm_st x).fieldFound? ref nm d = some z := by
  intro z hz
  rcases h with h | h
  · rw [← h]; exact hz
  · exact u_same (tm_CW hC h) z hz
theorem tm_getf1 {idx ci k : Nat} {fs : List Value} {v : Value} (hC : tm_C x cc own ret) (hf : tm_f own idx ci k) (ha : Ω a = some (.inr (ci, fs))) (hv : fs[k]? = some v) (hd : decode cc pc = .ok (.getfield idx, 3)) (kk : tm_V x (tm_G x Ω) b n (pc + 3) L (v :: st)) : tm_V x (tm_G x Ω) b n pc L (.ref a :: st) := by
  intro H locs ls cells slots h1 h2 hS hG hl
  obtain ⟨C, ref, T, N, hc, hin, hk, hlk, hsm⟩ := hf
  have kk := kk H locs ls cells slots h1 h2 hS hG hl
  obtain ⟨Lw, hL, hP, hD⟩ := hG
  obtain ⟨q0, hq⟩ := tm_hol_get hL ha
  rcases hlk with hlk | ⟨host, hlk⟩
  · exact va_get hC.1 hC.2.1 hC.2.2.2.2.1 hin hC.2.2.2.1 (tm_CK hC) hP q0 hq hc k hk (tm_CW hC hlk) (tm_same hC hsm) hv hd kk
  · exact va_getN hC.1 hC.2.1 hC.2.2.2.2.1 hin hC.2.2.2.1 (tm_CK hC) hP q0 hq hc k hk (va_Nw.use rfl (tm_CN hC hlk)) (tm_same hC hsm) hv hd kk
theorem tm_putf1 {idx ci k : Nat} {fs : List Value} {v : Value} (hC : tm_C x cc own ret) (hf : tm_f own idx ci k) (ha : Ω a = some (.inr (ci, fs))) (ht : tm_tt ci k false own v) (hl9 : k < fs.length) (hd : decode cc pc = .ok (.putfield idx, 3)) (kk : tm_V x (tm_G x (tm_up Ω a (.inr (ci, fs.set k v)))) b n (pc + 3) L st) : tm_V x (tm_G x Ω) b n pc L (v :: .ref a :: st) := by
  intro H locs ls cells slots h1 h2 hS hG hl
  obtain ⟨C, ref, T, N, hc, hin, hk, hlk, hsm⟩ := hf
  obtain ⟨⟨ty0, hty⟩, hnm, hfin, -, ty, hpd, hnar, hfit⟩ := ht C T N hc
  obtain ⟨Lw, hL, hP, hD⟩ := hG
  obtain ⟨q0, hq⟩ := tm_hol_get hL ha
  rcases hlk with hlk | ⟨host, hlk⟩
  · exact va_put hC.1 hC.2.1 hC.2.2.2.2.1 hin ty0 hty hnm hC.2.2.2.1 (tm_CK hC) hP hD hS q0 hq hc k hk (tm_CW hC hlk) (tm_same hC hsm) hfin hpd hnar hfit hl9 hd (fun H1 locs1 hP1 hD1 hS1 => kk H1 locs1 ls cells slots h1 h2 hS1 (tm_hol_set hL hD hq hP1 hD1) hl)
  · exact va_putN hC.1 hC.2.1 hC.2.2.2.2.1 hin ty0 hty hnm hC.2.2.2.1 (tm_CK hC) hP hD hS q0 hq hc k hk (va_Nw.use rfl (tm_CN hC hlk)) (tm_same hC hsm) hfin hpd hnar hfit hl9 hd (fun H1 locs1 hP1 hD1 hS1 => kk H1 locs1 ls cells slots h1 h2 hS1 (tm_hol_set hL hD hq hP1 hD1) hl)
theorem tm_putfF1 {idx ci k : Nat} {fs : List Value} {v : Value} (hC : tm_C x cc own ret) (hin2 : (tm_me x).name = "<init>") (hf : tm_f own idx ci k) (ha : Ω a = some (.inr (ci, fs))) (ht : tm_tt ci k true own v) (hl9 : k < fs.length) (hd : decode cc pc = .ok (.putfield idx, 3)) (hnn : ∃ (C ref : String) (T : u_T) (N : Nat), classes[ci]? = some (C, T, N) ∧ Cond.fieldLink own idx ref (T k).2.1 (T k).2.2.1 ∈ ALL ∧ (T k).1 = ref) (kk : tm_V x (tm_G x (tm_up Ω a (.inr (ci, fs.set k v)))) b n (pc + 3) L st) : tm_V x (tm_G x Ω) b n pc L (v :: .ref a :: st) := by
  intro H locs ls cells slots h1 h2 hS hG hl
  obtain ⟨C, ref, T, N, hc, hin, hk, -, -⟩ := hf
  obtain ⟨C2, ref2, T2, N2, hc2, hlk, hsm⟩ := hnn
  cases Option.some.inj (hc.symm.trans hc2)
  obtain ⟨⟨ty0, hty⟩, hnm, hfin, hown, ty, hpd, hnar, hfit⟩ := ht C T N hc
  obtain ⟨Lw, hL, hP, hD⟩ := hG
  obtain ⟨q0, hq⟩ := tm_hol_get hL ha
  exact va_putF hC.1 hC.2.1 hC.2.2.2.2.1 hin ty0 hty hnm hC.2.2.2.1 (tm_CK hC) hP hD hS q0 hq hc k hk (tm_CW hC hlk) (tm_same hC (Or.inl hsm)) hfin hin2 (hown rfl) hpd hnar hfit hl9 hd (fun H1 locs1 hP1 hD1 hS1 => kk H1 locs1 ls cells slots h1 h2 hS1 (tm_hol_set hL hD hq hP1 hD1) hl)
theorem tm_lt0 {H : Heap} {locs : List Loc} (hC : tm_C x cc own ret) : ∀ q, (tm_st x).heap.size ≤ q → ¬ tm_Fz x q := fun q h z => absurd (hC.2.2.2.2.2.2.2.2.2.2.2.2.2.2 q z) (by omega)
theorem tm_new1 {idx ci : Nat} {fs : List Value} (hC : tm_C x cc own ret) (hnw : tm_nw9 own idx ci fs) (hd : decode cc pc = .ok (.new idx, 3)) (kk : ∀ q, Ω q = none → tm_V x (tm_G x (tm_up Ω q (.inr (ci, fs)))) b n (pc + 3) L (.ref q :: st)) : tm_V x (tm_G x Ω) (1 + b) (fs.length + n) pc L st := by
  intro H locs ls cells slots h1 h2 hS hG hl
  obtain ⟨C, T, N, ty, hc, hin, hty, hcl, hins, hini, hN, hfs⟩ := hnw
  subst hN
  obtain ⟨Lw, hL, hP, hD⟩ := hG
  refine va_new hC.1 hC.2.1 hC.2.2.2.2.1 hin ty hty hC.2.2.2.1 (tm_CW hC hcl) (tm_CW hC hins) (tm_CW hC hini) (tm_CK hC) hP hD hS (tm_lt0 (H := H) (locs := locs) hC) hc hfs (by show cells + 1 ≤ (tm_R x).cells; omega) (by show slots + _ ≤ (tm_R x).slots; omega) hd (fun q H1 hP1 hD1 hS1 => ?_)
  obtain ⟨hh, hn⟩ := tm_hol_push hL hP1 hD1
  exact kk q hn H1 locs ls _ _ (by omega) (by omega) hS1 hh hl
theorem tm_newi1 {k : Int} (hC : tm_C x cc own ret) (hk : 0 ≤ k ∧ k ≤ 100000) (hw : Cond.arrayClass .int ∈ ALL) (hd : decode cc pc = .ok (.newarray .int, 2)) (kk : ∀ q, Ω q = none → tm_V x (tm_G x (tm_up Ω q (tm_ai (tm_T x) k.toNat (fun _ => 0)))) b n (pc + 2) L (.ref q :: st)) : tm_V x (tm_G x Ω) (1 + b) (k.toNat + n) pc L (.int (I k) :: st) := by
  intro H locs ls cells slots h1 h2 hS hG hl
  obtain ⟨Lw, hL, hP, hD⟩ := hG
  refine va_newa (atype := .int) (ty := .int) (a0 := (k.toNat, .inl (fun _ => I 0))) hC.1 hC.2.1 (tm_CW hC hw) rfl (tm_CK hC) hP hD hS (tm_lt0 (H := H) (locs := locs) hC) (fun _ => rfl) (by rw [show (0 : Int32) = I 0 from rfl, I_lt (by omega)]; omega) (I_nat (by omega)) (by show k.toNat * 4 ≤ _; omega) (by show cells + 1 ≤ (tm_R x).cells; omega) (by show slots + _ ≤ (tm_R x).slots; omega) hd (fun q cA H1 hK1 hP1 hD1 hS1 => ?_)
  have hcA : cA = (tm_T x).1 := by
    have e1 := (hK1.2 4 _ rfl).2
    have e2 := ((tm_CK hC).2 0 _ rfl).2
    exact Option.some.inj (e1.symm.trans e2)
  subst hcA
  obtain ⟨hh, hn⟩ := tm_hol_push hL hP1 hD1
  exact kk q hn H1 locs ls _ _ (by omega) (by omega) hS1 hh hl
theorem tm_newz1 {k : Int} (hC : tm_C x cc own ret) (hk : 0 ≤ k ∧ k ≤ 100000) (hw : Cond.arrayClass .boolean ∈ ALL) (hd : decode cc pc = .ok (.newarray .boolean, 2)) (kk : ∀ q, Ω q = none → tm_V x (tm_G x (tm_up Ω q (tm_az (tm_T x) k.toNat (fun _ => 0)))) b n (pc + 2) L (.ref q :: st)) : tm_V x (tm_G x Ω) (1 + b) (k.toNat + n) pc L (.int (I k) :: st) := by
  intro H locs ls cells slots h1 h2 hS hG hl
  obtain ⟨Lw, hL, hP, hD⟩ := hG
  refine va_newa (atype := .boolean) (ty := .boolean) (a0 := (k.toNat, .inl (fun _ => I 0))) hC.1 hC.2.1 (tm_CW hC hw) rfl (tm_CK hC) hP hD hS (tm_lt0 (H := H) (locs := locs) hC) (fun _ => rfl) (by rw [show (0 : Int32) = I 0 from rfl, I_lt (by omega)]; omega) (I_nat (by omega)) (by show k.toNat * 1 ≤ _; omega) (by show cells + 1 ≤ (tm_R x).cells; omega) (by show slots + _ ≤ (tm_R x).slots; omega) hd (fun q cA H1 hK1 hP1 hD1 hS1 => ?_)
  have hcA : cA = (tm_T x).2.1 := by
    have e1 := (hK1.2 4 _ rfl).2
    have e2 := ((tm_CK hC).2 1 _ rfl).2
    exact Option.some.inj (e1.symm.trans e2)
  subst hcA
  obtain ⟨hh, hn⟩ := tm_hol_push hL hP1 hD1
  exact kk q hn H1 locs ls _ _ (by omega) (by omega) hS1 hh hl
theorem tm_newl1 {k : Int} (hC : tm_C x cc own ret) (hk : 0 ≤ k ∧ k ≤ 100000) (hw : Cond.arrayClass .long ∈ ALL) (hd : decode cc pc = .ok (.newarray .long, 2)) (kk : ∀ q, Ω q = none → tm_V x (tm_G x (tm_up Ω q (tm_al (tm_T x) k.toNat (fun _ => 0)))) b n (pc + 2) L (.ref q :: st)) : tm_V x (tm_G x Ω) (1 + b) (k.toNat + n) pc L (.int (I k) :: st) := by
  intro H locs ls cells slots h1 h2 hS hG hl
  obtain ⟨Lw, hL, hP, hD⟩ := hG
  refine va_newa (atype := .long) (ty := .long) (a0 := (k.toNat, .inr (.inl (fun _ => 0)))) hC.1 hC.2.1 (tm_CW hC hw) rfl (tm_CK hC) hP hD hS (tm_lt0 (H := H) (locs := locs) hC) (fun _ => rfl) (by rw [show (0 : Int32) = I 0 from rfl, I_lt (by omega)]; omega) (I_nat (by omega)) (by show k.toNat * 8 ≤ _; omega) (by show cells + 1 ≤ (tm_R x).cells; omega) (by show slots + _ ≤ (tm_R x).slots; omega) hd (fun q cA H1 hK1 hP1 hD1 hS1 => ?_)
  have hcA : cA = (tm_T x).2.2.1 := by
    have e1 := (hK1.2 4 _ rfl).2
    have e2 := ((tm_CK hC).2 2 _ rfl).2
    exact Option.some.inj (e1.symm.trans e2)
  subst hcA
  obtain ⟨hh, hn⟩ := tm_hol_push hL hP1 hD1
  exact kk q hn H1 locs ls _ _ (by omega) (by omega) hS1 hh hl
theorem tm_newo1 {k : Int} {idx : Nat} (hC : tm_C x cc own ret) (hk : 0 ≤ k ∧ k ≤ 100000) (hw : Cond.classLink own idx "java/lang/Object" ∈ ALL) (hd : decode cc pc = .ok (.anewarray idx, 3)) (kk : ∀ q, Ω q = none → tm_V x (tm_G x (tm_up Ω q (tm_ao (tm_T x) k.toNat (fun _ => none)))) b n (pc + 3) L (.ref q :: st)) : tm_V x (tm_G x Ω) (1 + b) (k.toNat + n) pc L (.int (I k) :: st) := by
  intro H locs ls cells slots h1 h2 hS hG hl
  obtain ⟨Lw, hL, hP, hD⟩ := hG
  refine va_newq (C := "java/lang/Object") hC.1 hC.2.1 hC.2.2.2.1 (tm_CW hC hw) hC.2.2.2.2.2.2.2.2.1.2.2.2.2 (tm_CK hC) hP hD hS (tm_lt0 (H := H) (locs := locs) hC) (by rw [show (0 : Int32) = I 0 from rfl, I_lt (by omega)]; omega) (I_nat (by omega)) (by show k.toNat * 4 ≤ _; omega) (by show cells + 1 ≤ (tm_R x).cells; omega) (by show slots + _ ≤ (tm_R x).slots; omega) hd (fun q cA H1 hK1 hP1 hD1 hS1 => ?_)
  have hcA : cA = (tm_T x).2.2.2 := by
    obtain ⟨kA, comp, -, -, -, e1⟩ := (hK1.2 4 _ rfl).2
    obtain ⟨kB, comp2, -, -, -, e2⟩ := ((tm_CK hC).2 3 _ rfl).2
    exact Option.some.inj (e1.symm.trans e2)
  subst hcA
  obtain ⟨hh, hn⟩ := tm_hol_push hL hP1 hD1
  exact kk q hn H1 locs ls _ _ (by omega) (by omega) hS1 hh hl
theorem tm_alen1 {c : ClassId} {y : vp_A} {t0 : Nat} {ty : FieldType} (hC : tm_C x cc own ret) (ha : Ω a = some (.inl (c, y))) (ht : (tm_tys (tm_T x))[t0]? = some (c, ty)) (hd : decode cc pc = .ok (.arraylength, 1)) (kk : tm_V x (tm_G x Ω) b n (pc + 1) L (.int (I y.1) :: st)) : tm_V x (tm_G x Ω) b n pc L (.ref a :: st) := by
  intro H locs ls cells slots h1 h2 hS hG hl
  have kk := kk H locs ls cells slots h1 h2 hS hG hl
  obtain ⟨Lw, hL, hP, hD⟩ := hG
  obtain ⟨q0, hq⟩ := tm_hol_get hL ha
  exact va_alen hC.1 hC.2.1 (tm_CK hC) hP q0 t0 hq ht (v := I y.1) rfl hd kk
theorem tm_alen0 (hC : tm_C x cc own ret) (hd : decode cc pc = .ok (.arraylength, 1)) (kk : tm_V x (tm_G x Ω) b n (pc + 1) L (.int (I 0) :: st)) : tm_V x (tm_G x Ω) b n pc L (.ref (tm_e0 x) :: st) := by
  intro H locs ls cells slots h1 h2 hS hG hl
  have kk := kk H locs ls cells slots h1 h2 hS hG hl
  exact W.alen hC.1 hC.2.1 (tm_CE hC hS).2.1 (((tm_CK hC).2 3 _ rfl).1 0 (fun _ => .null)) (n := I 0) (by rw [arrV_size]; rfl) rfl rfl hd kk
theorem tm_iald1 {i : Int} {k : Nat} {g : Int → Int} (hC : tm_C x cc own ret) (ha : Ω a = some (tm_ai (tm_T x) k g)) (hi : 0 ≤ i ∧ i < k ∧ i ≤ 2147483647) (hd : decode cc pc = .ok (.iaload, 1)) (kk : tm_V x (tm_G x Ω) b n (pc + 1) L (.int (I (g i)) :: st)) : tm_V x (tm_G x Ω) b n pc L (.int (I i) :: .ref a :: st) := by
  intro H locs ls cells slots h1 h2 hS hG hl
  have kk := kk H locs ls cells slots h1 h2 hS hG hl
  obtain ⟨Lw, hL, hP, hD⟩ := hG
  obtain ⟨q0, hq⟩ := tm_hol_get hL ha
  refine va_iald hC.1 hC.2.1 (tm_CK hC) hP q0 0 hq rfl (I_in hi) hd ?_
  rw [I_nat (by omega), show ((i.toNat : Nat) : Int) = i by omega]
  exact kk
theorem tm_iast1 {i v : Int} {k : Nat} {g : Int → Int} (hC : tm_C x cc own ret) (ha : Ω a = some (tm_ai (tm_T x) k g)) (hi : 0 ≤ i ∧ i < k ∧ i ≤ 2147483647) (hd : decode cc pc = .ok (.iastore, 1)) (kk : tm_V x (tm_G x (tm_up Ω a (tm_ai (tm_T x) k (tm_ui g i v)))) b n (pc + 1) L st) : tm_V x (tm_G x Ω) b n pc L (.int (I v) :: .int (I i) :: .ref a :: st) := by
  intro H locs ls cells slots h1 h2 hS hG hl
  obtain ⟨Lw, hL, hP, hD⟩ := hG
  obtain ⟨q0, hq⟩ := tm_hol_get hL ha
  refine va_iast hC.1 hC.2.1 (tm_CK hC) hP hD hS q0 0 hq rfl (I_in hi) hd (fun H1 locs1 hP1 hD1 hS1 => kk H1 locs1 ls cells slots h1 h2 hS1 ?_ hl)
  rw [I_nat (by omega), tm_upd hi.1] at hP1 hD1
  exact tm_hol_set hL hD hq hP1 hD1
theorem tm_zald1 {i : Int} {k : Nat} {g : Int → Int} (hC : tm_C x cc own ret) (ha : Ω a = some (tm_az (tm_T x) k g)) (hi : 0 ≤ i ∧ i < k ∧ i ≤ 2147483647) (hd : decode cc pc = .ok (.baload, 1)) (kk : tm_V x (tm_G x Ω) b n (pc + 1) L (.int (I (g i)) :: st)) : tm_V x (tm_G x Ω) b n pc L (.int (I i) :: .ref a :: st) := by
  intro H locs ls cells slots h1 h2 hS hG hl
  have kk := kk H locs ls cells slots h1 h2 hS hG hl
  obtain ⟨Lw, hL, hP, hD⟩ := hG
  obtain ⟨q0, hq⟩ := tm_hol_get hL ha
  refine va_zald hC.1 hC.2.1 (tm_CK hC) hP q0 1 hq rfl (I_in hi) hd ?_
  rw [I_nat (by omega), show ((i.toNat : Nat) : Int) = i by omega]
  exact kk
theorem tm_zast1 {i v : Int} {k : Nat} {g : Int → Int} (hC : tm_C x cc own ret) (ha : Ω a = some (tm_az (tm_T x) k g)) (hi : 0 ≤ i ∧ i < k ∧ i ≤ 2147483647) (hv : v = 0 ∨ v = 1) (hd : decode cc pc = .ok (.bastore, 1)) (kk : tm_V x (tm_G x (tm_up Ω a (tm_az (tm_T x) k (tm_ui g i v)))) b n (pc + 1) L st) : tm_V x (tm_G x Ω) b n pc L (.int (I v) :: .int (I i) :: .ref a :: st) := by
  intro H locs ls cells slots h1 h2 hS hG hl
  obtain ⟨Lw, hL, hP, hD⟩ := hG
  obtain ⟨q0, hq⟩ := tm_hol_get hL ha
  refine va_zast hC.1 hC.2.1 (tm_CK hC) hP hD hS q0 1 hq rfl (I_in hi) hd (fun H1 locs1 hP1 hD1 hS1 => kk H1 locs1 ls cells slots h1 h2 hS1 ?_ hl)
  rw [show vp_nar .boolean (I v) = I v by rcases hv with rfl | rfl <;> rfl, I_nat (by omega), tm_upd hi.1] at hP1 hD1
  exact tm_hol_set hL hD hq hP1 hD1
theorem tm_lald1 {i : Int} {k : Nat} {g : Nat → Int64} (hC : tm_C x cc own ret) (ha : Ω a = some (tm_al (tm_T x) k g)) (hi : 0 ≤ i ∧ i < k ∧ i ≤ 2147483647) (hd : decode cc pc = .ok (.laload, 1)) (kk : tm_V x (tm_G x Ω) b n (pc + 1) L (.long (g i.toNat) :: st)) : tm_V x (tm_G x Ω) b n pc L (.int (I i) :: .ref a :: st) := by
  intro H locs ls cells slots h1 h2 hS hG hl
  have kk := kk H locs ls cells slots h1 h2 hS hG hl
  obtain ⟨Lw, hL, hP, hD⟩ := hG
  obtain ⟨q0, hq⟩ := tm_hol_get hL ha
  refine va_lald hC.1 hC.2.1 (tm_CK hC) hP q0 2 hq rfl (I_in hi) hd ?_
  rw [I_nat (by omega)]
  exact kk
theorem tm_last1 {i : Int} {v : Int64} {k : Nat} {g : Nat → Int64} (hC : tm_C x cc own ret) (ha : Ω a = some (tm_al (tm_T x) k g)) (hi : 0 ≤ i ∧ i < k ∧ i ≤ 2147483647) (hd : decode cc pc = .ok (.lastore, 1)) (kk : tm_V x (tm_G x (tm_up Ω a (tm_al (tm_T x) k (vp_updL g i.toNat v)))) b n (pc + 1) L st) : tm_V x (tm_G x Ω) b n pc L (.long v :: .int (I i) :: .ref a :: st) := by
  intro H locs ls cells slots h1 h2 hS hG hl
  obtain ⟨Lw, hL, hP, hD⟩ := hG
  obtain ⟨q0, hq⟩ := tm_hol_get hL ha
  refine va_last hC.1 hC.2.1 (tm_CK hC) hP hD hS q0 2 hq rfl (I_in hi) hd (fun H1 locs1 hP1 hD1 hS1 => kk H1 locs1 ls cells slots h1 h2 hS1 ?_ hl)
  rw [I_nat (by omega)] at hP1 hD1
  exact tm_hol_set hL hD hq hP1 hD1
theorem tm_aald1 {i : Int} {k v : Nat} {g : Nat → Option Nat} (hC : tm_C x cc own ret) (ha : Ω a = some (tm_ao (tm_T x) k g)) (hi : 0 ≤ i ∧ i < k ∧ i ≤ 2147483647) (hv : g i.toNat = some v) (hd : decode cc pc = .ok (.aaload, 1)) (kk : tm_V x (tm_G x Ω) b n (pc + 1) L (.ref v :: st)) : tm_V x (tm_G x Ω) b n pc L (.int (I i) :: .ref a :: st) := by
  intro H locs ls cells slots h1 h2 hS hG hl
  have kk := kk H locs ls cells slots h1 h2 hS hG hl
  obtain ⟨Lw, hL, hP, hD⟩ := hG
  obtain ⟨q0, hq⟩ := tm_hol_get hL ha
  refine va_aldq hC.1 hC.2.1 (tm_CK hC) hP q0 3 hq rfl (I_in hi) hd ?_
  rw [I_nat (by omega), hv]
  exact kk
/-- an object that may lie in a list -/
def tm_el (Ω : tmO) (a : Nat) : Prop := ∃ (ci : Nat) (fs : List Value) (r : vw_C), Ω a = some (.inr (ci, fs)) ∧ classes[ci]? = some r ∧ Cond.castable r.1 "java/lang/Object" ∈ NW
theorem tm_any {v : Nat} {H : Heap} {Lw : List Nat} (hC : tm_C x cc own ret) (hL : ∀ a, a ∈ Lw ↔ Ω a ≠ none) (hP : va_P (tm_D x) classes (tm_wl Ω Lw) H) (h : tm_el Ω v) : va_Any "java/lang/Object" (tm_st x) H v := by
  obtain ⟨ci, fs, r, h1, h2, h3⟩ := h
  obtain ⟨q0, hq⟩ := tm_hol_get hL h1
  refine va_rAny (tm_CK hC) hP hq h2 (fun comp c0 e1 e2 => ?_)
  obtain ⟨c, t, f1, f2, f3⟩ := Cond.castable_spec (show (Cond.castable r.1 "java/lang/Object").before #[] (tm_st x) = true from tm_CN hC h3)
  cases Option.some.inj (f1.symm.trans e2)
  cases Option.some.inj (f2.symm.trans e1)
  exact f3
theorem tm_aast1 {i : Int} {k v : Nat} {g : Nat → Option Nat} (hC : tm_C x cc own ret) (ha : Ω a = some (tm_ao (tm_T x) k g)) (hi : 0 ≤ i ∧ i < k ∧ i ≤ 2147483647) (hv : tm_el Ω v) (hd : decode cc pc = .ok (.aastore, 1)) (kk : tm_V x (tm_G x (tm_up Ω a (tm_ao (tm_T x) k (va_up g i.toNat (some v))))) b n (pc + 1) L st) : tm_V x (tm_G x Ω) b n pc L (.ref v :: .int (I i) :: .ref a :: st) := by
  intro H locs ls cells slots h1 h2 hS hG hl
  obtain ⟨Lw, hL, hP, hD⟩ := hG
  obtain ⟨q0, hq⟩ := tm_hol_get hL ha
  refine va_astqM hC.1 hC.2.1 (tm_CK hC) hP hD hS q0 3 (E := "java/lang/Object") hq rfl (tm_any hC hL hP hv) (I_in hi) hd (fun H1 locs1 hP1 hD1 hS1 => kk H1 locs1 ls cells slots h1 h2 hS1 ?_ hl)
  rw [I_nat (by omega)] at hP1 hD1
  exact tm_hol_set hL hD hq hP1 hD1
theorem tm_aastN1 {i : Int} {k : Nat} {g : Nat → Option Nat} (hC : tm_C x cc own ret) (ha : Ω a = some (tm_ao (tm_T x) k g)) (hi : 0 ≤ i ∧ i < k ∧ i ≤ 2147483647) (hd : decode cc pc = .ok (.aastore, 1)) (kk : tm_V x (tm_G x (tm_up Ω a (tm_ao (tm_T x) k (va_up g i.toNat none)))) b n (pc + 1) L st) : tm_V x (tm_G x Ω) b n pc L (.null :: .int (I i) :: .ref a :: st) := by
  intro H locs ls cells slots h1 h2 hS hG hl
  obtain ⟨Lw, hL, hP, hD⟩ := hG
  obtain ⟨q0, hq⟩ := tm_hol_get hL ha
  refine va_astqN hC.1 hC.2.1 (tm_CK hC) hP hD hS q0 3 (C := "java/lang/Object") hq rfl (I_in hi) hd (fun H1 locs1 hP1 hD1 hS1 => kk H1 locs1 ls cells slots h1 h2 hS1 ?_ hl)
  rw [I_nat (by omega)] at hP1 hD1
  exact tm_hol_set hL hD hq hP1 hD1
def tm_cw (own : String) (idx : Nat) : Prop := Cond.methodLink own idx arraycopyName ∈ ALL ∧ Cond.native arraycopyName ∈ ALL ∧ Cond.static arraycopyName ∈ ALL ∧ Cond.initialized "java/lang/System" ∈ ALL
theorem tm_copy1 {idx a0 : Nat} {sp dp k : Int} {n0 n1 : Nat} {f g : Nat → Option Nat} (hC : tm_C x cc own ret) (hk : tm_cw own idx) (ha0 : Ω a0 = some (tm_ao (tm_T x) n0 f)) (ha : Ω a = some (tm_ao (tm_T x) n1 g)) (hr : 0 ≤ sp ∧ 0 ≤ dp ∧ 0 ≤ k ∧ sp + k ≤ n0 ∧ dp + k ≤ n1 ∧ n0 ≤ 100000 ∧ n1 ≤ 100000) (hel : ∀ i : Nat, i < k.toNat → ∀ y : Nat, f (sp.toNat + i) = some y → tm_el Ω y) (hR : 1 ≤ (tm_R x).frames ∧ 64 ≤ (tm_R x).locals) (hst : (st.map fun v => v.category).sum ≤ 8) (hd : decode cc pc = .ok (.invokestatic idx, 3)) (kk : tm_V x (tm_G x (tm_up Ω a (tm_ao (tm_T x) n1 (va_cpy f g sp.toNat dp.toNat k.toNat)))) b n (pc + 3) L st) : tm_V x (tm_G x Ω) b n pc L (.int (I k) :: .int (I dp) :: .ref a :: .int (I sp) :: .ref a0 :: st) := by
  intro H locs ls cells slots h1 h2 hS hG hl
  obtain ⟨Lw, hL, hP, hD⟩ := hG
  obtain ⟨q0, hq0⟩ := tm_hol_get hL ha0
  obtain ⟨q1, hq1⟩ := tm_hol_get hL ha
  have ng : ∀ z : Int, 0 ≤ z ∧ z ≤ 100000 → ¬ I z < 0 := fun z hz => by rw [show (0 : Int32) = I 0 from rfl, I_lt (by omega)]; omega
  have es : (I sp).toNatClampNeg = sp.toNat := I_nat (by omega)
  have ed : (I dp).toNatClampNeg = dp.toNat := I_nat (by omega)
  have ek : (I k).toNatClampNeg = k.toNat := I_nat (by omega)
  refine va_copyM hC.1 hC.2.1 (by rw [hl.1]; exact hC.2.2.1) hC.2.2.2.1 (tm_CW hC hk.1) (tm_CW hC hk.2.1) (tm_CW hC hk.2.2.1) (tm_CW hC hk.2.2.2) (tm_CK hC) hP hD hS q0 q1 3 3 (E0 := "java/lang/Object") (E1 := "java/lang/Object") hq0 hq1 rfl rfl (ng sp (by omega)) (ng dp (by omega)) (ng k (by omega)) (by rw [es, ek]; omega) (by rw [ed, ek]; omega) (fun i hi y hy => ?_) hR.1 ?_ hd (fun H1 locs1 hP1 hD1 hS1 => kk H1 locs1 ls cells slots h1 h2 hS1 ?_ hl)
  · rw [ek] at hi
    rw [es] at hy
    exact tm_any hC hL hP (hel i hi y hy)
  · have h8 : nativeFrameWords "java/lang/System" "arraycopy" 5 + 11 ≤ 56 := by decide
    have h9 : (st.map fun v => v.category).sum + (nativeFrameWords "java/lang/System" "arraycopy" 5 + 11) ≤ (tm_R x).locals := by omega
    exact h9
  · rw [es, ed, ek] at hP1 hD1
    exact tm_hol_set hL hD hq1 hP1 hD1
theorem tm_gets {idx : Nat} {G : Heap → Prop} (hC : tm_C x cc own ret) (hk : Cond.fieldLink own idx "java/util/ArrayList" "DEFAULTCAPACITY_EMPTY_ELEMENTDATA" "[Ljava/lang/Object;" ∈ ALL) (hd : decode cc pc = .ok (.getstatic idx, 3)) (kk : tm_V x G b n (pc + 3) L (.ref (tm_e0 x) :: st)) : tm_V x G b n pc L st := by
  intro H locs ls cells slots h1 h2 hS hG hl
  exact va_gets hC.1 hC.2.1 hC.2.2.2.2.2.2.2.2.2.1 hS hC.2.2.2.1 (tm_CW hC hk) (fun _ h => h) hd (kk H locs ls cells slots h1 h2 hS hG hl)
theorem tm_rec1 {ci : Nat} {fs : List Value} {r : vw_C} (hC : tm_C x cc own ret) (ha : Ω a = some (.inr (ci, fs))) (hc : classes[ci]? = some r) : ∀ H, tm_hol (tm_D x) (tm_Fz x) Ω H → ∃ cell : Cell, H[a]? = some cell ∧ cell.vm.isStatics = false ∧ (tm_st x).vm.findClass r.1 = some cell.cls := by
  intro H hG
  obtain ⟨Lw, hL, hP, hD⟩ := hG
  obtain ⟨q0, hq⟩ := tm_hol_get hL ha
  exact va_recv (tm_CK hC) hP hc hq
theorem tm_cast1 {idx ci : Nat} {fs : List Value} {r : vw_C} (hC : tm_C x cc own ret) (ha : Ω a = some (.inr (ci, fs))) (hc : classes[ci]? = some r) (hk : Cond.classLink own idx r.1 ∈ ALL) (hd : decode cc pc = .ok (.checkcast idx, 3)) (kk : tm_V x (tm_G x Ω) b n (pc + 3) L (.ref a :: st)) : tm_V x (tm_G x Ω) b n pc L (.ref a :: st) := by
  intro H locs ls cells slots h1 h2 hS hG hl
  have hr := tm_rec1 hC ha hc H hG
  exact va_castS hC.1 hC.2.1 hC.2.2.2.1 (tm_CW hC hk) ((tm_CK hC).1 ci r hc).2 hr hd (kk H locs ls cells slots h1 h2 hS hG hl)
theorem tm_castA1 {idx k : Nat} {g : Nat → Option Nat} (hC : tm_C x cc own ret) (ha : Ω a = some (tm_ao (tm_T x) k g)) (hk : Cond.classLink own idx "[Ljava/lang/Object;" ∈ ALL) (hd : decode cc pc = .ok (.checkcast idx, 3)) (kk : tm_V x (tm_G x Ω) b n (pc + 3) L (.ref a :: st)) : tm_V x (tm_G x Ω) b n pc L (.ref a :: st) := by
  intro H locs ls cells slots h1 h2 hS hG hl
  have kk := kk H locs ls cells slots h1 h2 hS hG hl
  obtain ⟨Lw, hL, hP, hD⟩ := hG
  obtain ⟨q0, hq⟩ := tm_hol_get hL ha
  obtain ⟨kB, comp2, -, -, -, e2⟩ := ((tm_CK hC).2 3 _ rfl).2
  exact va_castA hC.1 hC.2.1 hC.2.2.2.1 (tm_CW hC hk) hP q0 hq e2 hd kk
theorem tm_ldcM {idx : Nat} {G : Heap → Prop} (hC : tm_C x cc own ret) (hk : Cond.classLink own idx "[Ljava/lang/Object;" ∈ ALL) (hd : decode cc pc = .ok (.ldc idx, 2)) (kk : tm_V x G b n (pc + 2) L (.ref (tm_mi x) :: st)) : tm_V x G b n pc L st := by
  intro H locs ls cells slots h1 h2 hS hG hl
  exact va_ldcM hC.1 hC.2.1 hC.2.2.2.1 (tm_CW hC hk) hC.2.2.2.2.2.2.2.2.1.2.2.2.1 hd (kk H locs ls cells slots h1 h2 hS hG hl)
abbrev tm_gc : MethodName := ⟨"java/lang/Object", "getClass", "()Ljava/lang/Class;"⟩
theorem tm_getC1 {idx k : Nat} {g : Nat → Option Nat} (hC : tm_C x cc own ret) (ha : Ω a = some (tm_ao (tm_T x) k g)) (hk : Cond.methodLink own idx tm_gc ∈ ALL ∧ Cond.declares tm_gc ∈ NW ∧ Cond.selects "[Ljava/lang/Object;" tm_gc tm_gc ∈ ALL ∧ Cond.instanceMethod tm_gc ∈ ALL ∧ Cond.native tm_gc ∈ ALL) (hR : 1 ≤ (tm_R x).frames ∧ 64 ≤ (tm_R x).locals) (hst : (st.map fun v => v.category).sum ≤ 8) (hd : decode cc pc = .ok (.invokevirtual idx, 3)) (kk : tm_V x (tm_G x Ω) b n (pc + 3) L (.ref (tm_mi x) :: st)) : tm_V x (tm_G x Ω) b n pc L (.ref a :: st) := by
  intro H locs ls cells slots h1 h2 hS hG hl
  have kk := kk H locs ls cells slots h1 h2 hS hG hl
  obtain ⟨Lw, hL, hP, hD⟩ := hG
  obtain ⟨q0, hq⟩ := tm_hol_get hL ha
  obtain ⟨kB, comp2, -, -, -, e2⟩ := ((tm_CK hC).2 3 _ rfl).2
  exact va_getC hC.1 hC.2.1 (by rw [hl.1]; exact hC.2.2.1) hC.2.2.2.1 (tm_CW hC hk.1) (va_Nw.use rfl (tm_CN hC hk.2.1)) (tm_CW hC hk.2.2.1) (tm_CW hC hk.2.2.2.1) (tm_CW hC hk.2.2.2.2) hC.2.2.2.2.2.2.2.2.1.2.2.2.1 ⟨_, hP q0 _ hq, rfl, e2⟩ hR.1 (show (st.map fun v => v.category).sum + 14 ≤ (tm_R x).locals by omega) hd kk
theorem tm_mm (hC : tm_C x cc own ret) (op : Bool) {G : Heap → Prop} {idx : Nat} {u v : Int} (hk : if op then Cond.methodLink own idx Lib.Math.max.name ∈ ALL ∧ Cond.static Lib.Math.max.name ∈ ALL ∧ Cond.initialized "java/lang/Math" ∈ ALL ∧ Cond.code Lib.Math.max.name Lib.Math.max.code 2 (some .int) ∈ ALL else Cond.methodLink own idx Lib.Math.min.name ∈ ALL ∧ Cond.static Lib.Math.min.name ∈ ALL ∧ Cond.initialized "java/lang/Math" ∈ ALL ∧ Cond.code Lib.Math.min.name Lib.Math.min.code 2 (some .int) ∈ ALL)
    (h : (-2147483648 ≤ u ∧ u ≤ 2147483647) ∧ -2147483648 ≤ v ∧ v ≤ 2147483647) (hR : 1 ≤ (tm_R x).frames ∧ 64 ≤ (tm_R x).locals) (hst : (st.map fun v => v.category).sum ≤ 8) (hd : decode cc pc = .ok (.invokestatic idx, 3)) (kk : tm_V x G b n (pc + 3) L (.int (I (if op then max u v else min u v)) :: st)) : tm_V x G b n pc L (.int (I v) :: .int (I u) :: st) := by
  intro H locs ls cells slots h1 h2 hS hG hl
  have kk := kk H locs ls cells slots h1 h2 hS hG hl
  cases op
  · refine va_mmin hC.1 hC.2.1 (by rw [hl.1]; exact hC.2.2.1) hC.2.2.2.1 (tm_CW hC hk.1) (tm_CW hC hk.2.1) (tm_CW hC hk.2.2.1) (tm_CW hC hk.2.2.2) hR.1 (show (st.map fun v => v.category).sum + 13 ≤ (tm_R x).locals by omega) (show cells ≤ (tm_R x).cells by omega) (show slots ≤ (tm_R x).slots by omega) hd ?_
    have e : (if I v < I u then I v else I u) = I (min u v) := by
      by_cases c : v < u
      · rw [if_pos ((I_lt ⟨h.2, h.1⟩).mpr c), show min u v = v by omega]
      · rw [if_neg (fun z => c ((I_lt ⟨h.2, h.1⟩).mp z)), show min u v = u by omega]
    rw [e]; exact kk
  · refine va_mmax hC.1 hC.2.1 (by rw [hl.1]; exact hC.2.2.1) hC.2.2.2.1 (tm_CW hC hk.1) (tm_CW hC hk.2.1) (tm_CW hC hk.2.2.1) (tm_CW hC hk.2.2.2) hR.1 (show (st.map fun v => v.category).sum + 13 ≤ (tm_R x).locals by omega) (show cells ≤ (tm_R x).cells by omega) (show slots ≤ (tm_R x).slots by omega) hd ?_
    have e : (if I u < I v then I v else I u) = I (max u v) := by
      by_cases c : u < v
      · rw [if_pos ((I_lt h).mpr c), show max u v = v by omega]
      · rw [if_neg (fun z => c ((I_lt h).mp z)), show max u v = u by omega]
    rw [e]; exact kk
theorem tm_objInit {idx : Nat} {G : Heap → Prop} (hC : tm_C x cc own ret) (hk : Cond.methodLink own idx objectInit ∈ ALL ∧ Cond.instanceMethod objectInit ∈ ALL ∧ Cond.code objectInit ⟨#[0xb1]⟩ 1 none ∈ ALL) (hR : 1 ≤ (tm_R x).frames ∧ 64 ≤ (tm_R x).locals) (hst : (st.map fun v => v.category).sum ≤ 8) (hd : decode cc pc = .ok (.invokespecial idx, 3)) (kk : tm_V x G b n (pc + 3) L st) : tm_V x G b n pc L (.ref a :: st) := by
  intro H locs ls cells slots h1 h2 hS hG hl
  have hm : 2 * (F0 (tm_m x) pc ls (Value.ref a :: st)).monitorRoom + (st.map fun v => v.category).sum ≤ 8 := lv_room hst
  exact W.objInit hC.1 hC.2.1 hC.2.2.2.1 (tm_CW hC hk.1) (tm_CW hC hk.2.1) (tm_CW hC hk.2.2) rfl (by rw [show (tm_c x).maxLocals = _ from hC.2.2.1]; exact hl.1) rfl hd hR.1 (show 2 * (F0 (tm_m x) pc ls (Value.ref a :: st)).monitorRoom + (st.map fun v => v.category).sum + 12 ≤ (tm_R x).locals by omega) (kk H locs ls cells slots h1 h2 hS hG hl)
end TMH
end
section
abbrev M_Jx4a65c_init_da8c8 : tmM := (yJx4a65c_init_da8c8, cJx4a65c_init_da8c8, 1, none)
abbrev M_Jx4a65c_grow_92f84 : tmM := (yJx4a65c_grow_92f84, cJx4a65c_grow_92f84, 4, some (FieldType.array (FieldType.object "java/lang/Object")))
abbrev M_Jx4a65c_grow_d5877 : tmM := (yJx4a65c_grow_d5877, cJx4a65c_grow_d5877, 1, some (FieldType.array (FieldType.object "java/lang/Object")))
abbrev M_Jx4a65c_size_8abf5 : tmM := (yJx4a65c_size_8abf5, cJx4a65c_size_8abf5, 1, some FieldType.int)
abbrev M_Jx4a65c_isEmpty_aae02 : tmM := (yJx4a65c_isEmpty_aae02, cJx4a65c_isEmpty_aae02, 1, some FieldType.boolean)
abbrev M_Jx4a65c_elementData_915e3 : tmM := (yJx4a65c_elementData_915e3, cJx4a65c_elementData_915e3, 2, some (FieldType.object "java/lang/Object"))
abbrev M_Jx4a65c_get_915e3 : tmM := (yJx4a65c_get_915e3, cJx4a65c_get_915e3, 2, some (FieldType.object "java/lang/Object"))
abbrev M_Jx4a65c_add_72be8 : tmM := (yJx4a65c_add_72be8, cJx4a65c_add_72be8, 4, none)
abbrev M_Jx4a65c_add_9ea2d : tmM := (yJx4a65c_add_9ea2d, cJx4a65c_add_9ea2d, 2, some FieldType.boolean)
abbrev M_Jx4a65c_add_7a177 : tmM := (yJx4a65c_add_7a177, cJx4a65c_add_7a177, 5, none)
abbrev M_Jx4a65c_remove_915e3 : tmM := (yJx4a65c_remove_915e3, cJx4a65c_remove_915e3, 4, some (FieldType.object "java/lang/Object"))
abbrev M_Jx4a65c_fastRemove_b59b0 : tmM := (yJx4a65c_fastRemove_b59b0, cJx4a65c_fastRemove_b59b0, 4, none)
abbrev M_Jx4a65c_rangeCheckForAdd_d00df : tmM := (yJx4a65c_rangeCheckForAdd_d00df, cJx4a65c_rangeCheckForAdd_d00df, 2, none)
abbrev M_Jxc12de_init_da8c8 : tmM := (yJxc12de_init_da8c8, cJxc12de_init_da8c8, 1, none)
abbrev M_Jxa1e45_init_da8c8 : tmM := (yJxa1e45_init_da8c8, cJxa1e45_init_da8c8, 1, none)
abbrev M_J7_copyOf_1904c : tmM := (yJ7_copyOf_1904c, cJ7_copyOf_1904c, 2, some (FieldType.array (FieldType.object "java/lang/Object")))
abbrev M_J7_copyOf_6403c : tmM := (yJ7_copyOf_6403c, cJ7_copyOf_6403c, 4, some (FieldType.array (FieldType.object "java/lang/Object")))
abbrev M_J15_checkIndex_7cf53 : tmM := (yJ15_checkIndex_7cf53, cJ15_checkIndex_7cf53, 2, some FieldType.int)
abbrev M_J3_checkIndex_8e157 : tmM := (yJ3_checkIndex_8e157, cJ3_checkIndex_8e157, 3, some FieldType.int)
abbrev M_J8_newLength_cabcc : tmM := (yJ8_newLength_cabcc, cJ8_newLength_cabcc, 4, some FieldType.int)
abbrev M_X0_init : tmM := (yX0_init, cX0_init, 4, none)
abbrev M_X0_insertDefect : tmM := (yX0_insertDefect, cX0_insertDefect, 3, none)
abbrev M_X0_insertPiece : tmM := (yX0_insertPiece, cX0_insertPiece, 3, none)
abbrev M_X0_removePiece : tmM := (yX0_removePiece, cX0_removePiece, 3, none)
abbrev M_X0_hasPieceSpoiledBy : tmM := (yX0_hasPieceSpoiledBy, cX0_hasPieceSpoiledBy, 6, some FieldType.boolean)
abbrev M_X0_gradeAt : tmM := (yX0_gradeAt, cX0_gradeAt, 5, some FieldType.int)
abbrev M_X0_firstWorse : tmM := (yX0_firstWorse, cX0_firstWorse, 5, some FieldType.int)
abbrev M_X0_firstGood : tmM := (yX0_firstGood, cX0_firstGood, 6, some FieldType.int)
abbrev M_X0_nextStretchStart : tmM := (yX0_nextStretchStart, cX0_nextStretchStart, 3, some FieldType.int)
abbrev M_X0_countStretches : tmM := (yX0_countStretches, cX0_countStretches, 4, some FieldType.int)
abbrev M_X0_stretchStart : tmM := (yX0_stretchStart, cX0_stretchStart, 5, some FieldType.int)
abbrev M_X0_canGive : tmM := (yX0_canGive, cX0_canGive, 5, some FieldType.boolean)
abbrev M_X0_isClearOfPieces : tmM := (yX0_isClearOfPieces, cX0_isClearOfPieces, 5, some FieldType.boolean)
abbrev M_X0_earliestPlace : tmM := (yX0_earliestPlace, cX0_earliestPlace, 5, some FieldType.int)
abbrev M_X0_earliestWithin : tmM := (yX0_earliestWithin, cX0_earliestWithin, 7, some FieldType.int)
abbrev M_X0_roomStart : tmM := (yX0_roomStart, cX0_roomStart, 3, some FieldType.int)
abbrev M_X0_roomEnd : tmM := (yX0_roomEnd, cX0_roomEnd, 3, some FieldType.int)
abbrev M_X0_roomLengthAround : tmM := (yX0_roomLengthAround, cX0_roomLengthAround, 6, some FieldType.int)
abbrev M_X0_longestRoomLength : tmM := (yX0_longestRoomLength, cX0_longestRoomLength, 4, some FieldType.int)
abbrev M_X0_countCuts : tmM := (yX0_countCuts, cX0_countCuts, 5, some FieldType.int)
abbrev M_X0_areaOfPieces : tmM := (yX0_areaOfPieces, cX0_areaOfPieces, 4, some FieldType.int)
abbrev M_X1_init : tmM := (yX1_init, cX1_init, 4, none)
abbrev M_X2_init : tmM := (yX2_init, cX2_init, 4, none)
abbrev M_X3_init : tmM := (yX3_init, cX3_init, 7, none)
abbrev M_X3_isPlannedAhead : tmM := (yX3_isPlannedAhead, cX3_isPlannedAhead, 2, some FieldType.boolean)
abbrev M_X4_init : tmM := (yX4_init, cX4_init, 6, none)
abbrev M_X4_isClearOf : tmM := (yX4_isClearOf, cX4_isClearOf, 4, some FieldType.boolean)
abbrev M_X4_tell : tmM := (yX4_tell, cX4_tell, 2, some FieldType.int)
abbrev M_X5_init : tmM := (yX5_init, cX5_init, 1, none)
abbrev M_X5_addBoard : tmM := (yX5_addBoard, cX5_addBoard, 4, some FieldType.int)
abbrev M_X5_addDefect : tmM := (yX5_addDefect, cX5_addDefect, 6, some FieldType.int)
abbrev M_X5_addPart : tmM := (yX5_addPart, cX5_addPart, 7, some FieldType.int)
abbrev M_X5_setSaw : tmM := (yX5_setSaw, cX5_setSaw, 3, some FieldType.int)
abbrev M_X5_setJoint : tmM := (yX5_setJoint, cX5_setJoint, 3, some FieldType.int)
abbrev M_X5_grade : tmM := (yX5_grade, cX5_grade, 4, some FieldType.int)
abbrev M_X5_stretches : tmM := (yX5_stretches, cX5_stretches, 4, some FieldType.int)
abbrev M_X5_stretch : tmM := (yX5_stretch, cX5_stretch, 7, some FieldType.int)
abbrev M_X5_fits : tmM := (yX5_fits, cX5_fits, 5, some FieldType.boolean)
abbrev M_X5_earliest : tmM := (yX5_earliest, cX5_earliest, 4, some FieldType.int)
abbrev M_X5_cut : tmM := (yX5_cut, cX5_cut, 6, some FieldType.int)
abbrev M_X5_join : tmM := (yX5_join, cX5_join, 13, some FieldType.int)
abbrev M_X5_undo : tmM := (yX5_undo, cX5_undo, 2, some FieldType.int)
abbrev M_X5_plan : tmM := (yX5_plan, cX5_plan, 3, some FieldType.int)
abbrev M_X5_left : tmM := (yX5_left, cX5_left, 2, some FieldType.int)
abbrev M_X5_pieces : tmM := (yX5_pieces, cX5_pieces, 2, some FieldType.int)
abbrev M_X5_piece : tmM := (yX5_piece, cX5_piece, 5, some FieldType.int)
abbrev M_X5_cuts : tmM := (yX5_cuts, cX5_cuts, 2, some FieldType.int)
abbrev M_X5_longestRoom : tmM := (yX5_longestRoom, cX5_longestRoom, 2, some FieldType.int)
abbrev M_X5_bestUse : tmM := (yX5_bestUse, cX5_bestUse, 8, some FieldType.int)
abbrev M_X5_used : tmM := (yX5_used, cX5_used, 5, some FieldType.double)
abbrev M_X5_digest : tmM := (yX5_digest, cX5_digest, 4, some FieldType.long)
abbrev M_X5_isWithin : tmM := (yX5_isWithin, cX5_isWithin, 3, some FieldType.boolean)
abbrev M_X5_isGrade : tmM := (yX5_isGrade, cX5_isGrade, 1, some FieldType.boolean)
abbrev M_X5_checkGrade : tmM := (yX5_checkGrade, cX5_checkGrade, 1, none)
abbrev M_X5_boardNumbered : tmM := (yX5_boardNumbered, cX5_boardNumbered, 2, some (FieldType.object "TimberList$Board"))
abbrev M_X5_partNumbered : tmM := (yX5_partNumbered, cX5_partNumbered, 2, some (FieldType.object "TimberList$Part"))
abbrev M_X5_insertIntoPlanningOrder : tmM := (yX5_insertIntoPlanningOrder, cX5_insertIntoPlanningOrder, 3, none)
abbrev M_X5_cutWhilePossible : tmM := (yX5_cutWhilePossible, cX5_cutWhilePossible, 5, some FieldType.int)
abbrev M_X5_tightestBoard : tmM := (yX5_tightestBoard, cX5_tightestBoard, 8, some (FieldType.object "TimberList$Board"))
abbrev M_X5_cutSingle : tmM := (yX5_cutSingle, cX5_cutSingle, 4, none)
abbrev M_X5_takeFromBoards : tmM := (yX5_takeFromBoards, cX5_takeFromBoards, 2, none)
abbrev M_X5_clearBestSums : tmM := (yX5_clearBestSums, cX5_clearBestSums, 2, none)
abbrev M_X5_addToBestSums : tmM := (yX5_addToBestSums, cX5_addToBestSums, 6, none)
abbrev M_X5_withNext : tmM := (yX5_withNext, cX5_withNext, 4, some FieldType.long)
abbrev M_X5_withPieces : tmM := (yX5_withPieces, cX5_withPieces, 7, some FieldType.long)
abbrev M_X6_init : tmM := (yX6_init, cX6_init, 1, none)
abbrev M_X6_thrown : tmM := (yX6_thrown, cX6_thrown, 1, some FieldType.int)
abbrev M_X6_fail : tmM := (yX6_fail, cX6_fail, 2, some FieldType.int)
abbrev M_X6_isIn : tmM := (yX6_isIn, cX6_isIn, 3, some FieldType.boolean)
abbrev M_X6_isBoard : tmM := (yX6_isBoard, cX6_isBoard, 2, some FieldType.boolean)
abbrev M_X6_isPart : tmM := (yX6_isPart, cX6_isPart, 2, some FieldType.boolean)
abbrev M_X6_length : tmM := (yX6_length, cX6_length, 2, some FieldType.int)
abbrev M_X6_width : tmM := (yX6_width, cX6_width, 2, some FieldType.int)
abbrev M_X6_want : tmM := (yX6_want, cX6_want, 3, some FieldType.int)
abbrev M_X6_addBoard : tmM := (yX6_addBoard, cX6_addBoard, 4, some FieldType.int)
abbrev M_X6_isOn : tmM := (yX6_isOn, cX6_isOn, 3, some FieldType.boolean)
abbrev M_X6_from : tmM := (yX6_from, cX6_from, 2, some FieldType.int)
abbrev M_X6_to : tmM := (yX6_to, cX6_to, 2, some FieldType.int)
abbrev M_X6_partOf : tmM := (yX6_partOf, cX6_partOf, 2, some FieldType.int)
abbrev M_X6_addDefect : tmM := (yX6_addDefect, cX6_addDefect, 7, some FieldType.int)
abbrev M_X6_addPart : tmM := (yX6_addPart, cX6_addPart, 6, some FieldType.int)
abbrev M_X6_setSaw : tmM := (yX6_setSaw, cX6_setSaw, 3, some FieldType.int)
abbrev M_X6_setJoint : tmM := (yX6_setJoint, cX6_setJoint, 3, some FieldType.int)
abbrev M_X6_gradeAt : tmM := (yX6_gradeAt, cX6_gradeAt, 5, some FieldType.int)
abbrev M_X6_grade : tmM := (yX6_grade, cX6_grade, 3, some FieldType.int)
abbrev M_X6_nextChange : tmM := (yX6_nextChange, cX6_nextChange, 5, some FieldType.int)
abbrev M_X6_goOver : tmM := (yX6_goOver, cX6_goOver, 8, some FieldType.int)
abbrev M_X6_stretches : tmM := (yX6_stretches, cX6_stretches, 3, some FieldType.int)
abbrev M_X6_stretch : tmM := (yX6_stretch, cX6_stretch, 5, some FieldType.int)
abbrev M_X6_onward : tmM := (yX6_onward, cX6_onward, 6, some FieldType.int)
abbrev M_X6_isPossible : tmM := (yX6_isPossible, cX6_isPossible, 5, some FieldType.boolean)
abbrev M_X6_earliestOn : tmM := (yX6_earliestOn, cX6_earliestOn, 5, some FieldType.int)
abbrev M_X6_fits : tmM := (yX6_fits, cX6_fits, 4, some FieldType.boolean)
abbrev M_X6_earliest : tmM := (yX6_earliest, cX6_earliest, 3, some FieldType.int)
abbrev M_X6_add : tmM := (yX6_add, cX6_add, 6, none)
abbrev M_X6_lessLeft : tmM := (yX6_lessLeft, cX6_lessLeft, 2, some FieldType.int)
abbrev M_X6_cut : tmM := (yX6_cut, cX6_cut, 4, some FieldType.int)
abbrev M_X6_join : tmM := (yX6_join, cX6_join, 8, some FieldType.int)
abbrev M_X6_undo : tmM := (yX6_undo, cX6_undo, 2, some FieldType.int)
abbrev M_X6_roomFrom : tmM := (yX6_roomFrom, cX6_roomFrom, 5, some FieldType.int)
abbrev M_X6_roomTo : tmM := (yX6_roomTo, cX6_roomTo, 5, some FieldType.int)
abbrev M_X6_isAhead : tmM := (yX6_isAhead, cX6_isAhead, 3, some FieldType.boolean)
abbrev M_X6_planOne : tmM := (yX6_planOne, cX6_planOne, 7, some FieldType.boolean)
abbrev M_X6_plan : tmM := (yX6_plan, cX6_plan, 2, some FieldType.int)
abbrev M_X6_left : tmM := (yX6_left, cX6_left, 2, some FieldType.int)
abbrev M_X6_piecesOf : tmM := (yX6_piecesOf, cX6_piecesOf, 4, some FieldType.int)
abbrev M_X6_pieces : tmM := (yX6_pieces, cX6_pieces, 2, some FieldType.int)
abbrev M_X6_pieceFrom : tmM := (yX6_pieceFrom, cX6_pieceFrom, 5, some FieldType.int)
abbrev M_X6_told : tmM := (yX6_told, cX6_told, 3, some FieldType.int)
abbrev M_X6_piece : tmM := (yX6_piece, cX6_piece, 6, some FieldType.int)
abbrev M_X6_cuts : tmM := (yX6_cuts, cX6_cuts, 5, some FieldType.int)
abbrev M_X6_longestRoom : tmM := (yX6_longestRoom, cX6_longestRoom, 5, some FieldType.int)
abbrev M_X6_bestUse : tmM := (yX6_bestUse, cX6_bestUse, 10, some FieldType.int)
abbrev M_X6_used : tmM := (yX6_used, cX6_used, 7, some FieldType.double)
abbrev M_X6_digest : tmM := (yX6_digest, cX6_digest, 6, some FieldType.long)
abbrev M_L_addBoard : tmM := (yL_addBoard, cL_addBoard, 6, some FieldType.int)
abbrev M_L_addDefect : tmM := (yL_addDefect, cL_addDefect, 7, some FieldType.int)
abbrev M_L_addPart : tmM := (yL_addPart, cL_addPart, 8, some FieldType.int)
abbrev M_L_setSaw : tmM := (yL_setSaw, cL_setSaw, 4, some FieldType.int)
abbrev M_L_setJoint : tmM := (yL_setJoint, cL_setJoint, 4, some FieldType.int)
abbrev M_L_grade : tmM := (yL_grade, cL_grade, 5, some FieldType.int)
abbrev M_L_stretches : tmM := (yL_stretches, cL_stretches, 5, some FieldType.int)
abbrev M_L_stretch : tmM := (yL_stretch, cL_stretch, 7, some FieldType.int)
abbrev M_L_fits : tmM := (yL_fits, cL_fits, 6, some FieldType.int)
abbrev M_L_earliest : tmM := (yL_earliest, cL_earliest, 5, some FieldType.int)
abbrev M_L_cut : tmM := (yL_cut, cL_cut, 6, some FieldType.int)
abbrev M_L_join : tmM := (yL_join, cL_join, 9, some FieldType.int)
abbrev M_L_undo : tmM := (yL_undo, cL_undo, 3, some FieldType.int)
abbrev M_L_left : tmM := (yL_left, cL_left, 4, some FieldType.int)
abbrev M_L_pieces : tmM := (yL_pieces, cL_pieces, 4, some FieldType.int)
abbrev M_L_piece : tmM := (yL_piece, cL_piece, 6, some FieldType.int)
abbrev M_L_cuts : tmM := (yL_cuts, cL_cuts, 4, some FieldType.int)
abbrev M_L_longestRoom : tmM := (yL_longestRoom, cL_longestRoom, 4, some FieldType.int)
abbrev M_L_bestUse : tmM := (yL_bestUse, cL_bestUse, 6, some FieldType.int)
abbrev M_L_law : tmM := (yL_law, cL_law, 9, some .boolean)
theorem u_Jx4a65c : ∀ w ∈ u_ws RJx4a65c TJx4a65c 3, w ∈ ALL := fun w hw => List.mem_filter.mpr ⟨(by decide +kernel : ∀ w ∈ u_ws RJx4a65c TJx4a65c 3, w ∈ lw_tbl) w hw, (by decide +kernel : ∀ w ∈ u_ws RJx4a65c TJx4a65c 3, goodWord w = true) w hw⟩
theorem u_X0 : ∀ w ∈ u_ws RX0 TX0 5, w ∈ ALL := fun w hw => List.mem_filter.mpr ⟨(by decide +kernel : ∀ w ∈ u_ws RX0 TX0 5, w ∈ lw_tbl) w hw, (by decide +kernel : ∀ w ∈ u_ws RX0 TX0 5, goodWord w = true) w hw⟩
theorem u_X1 : ∀ w ∈ u_ws RX1 TX1 3, w ∈ ALL := fun w hw => List.mem_filter.mpr ⟨(by decide +kernel : ∀ w ∈ u_ws RX1 TX1 3, w ∈ lw_tbl) w hw, (by decide +kernel : ∀ w ∈ u_ws RX1 TX1 3, goodWord w = true) w hw⟩
theorem u_X2 : ∀ w ∈ u_ws RX2 TX2 3, w ∈ ALL := fun w hw => List.mem_filter.mpr ⟨(by decide +kernel : ∀ w ∈ u_ws RX2 TX2 3, w ∈ lw_tbl) w hw, (by decide +kernel : ∀ w ∈ u_ws RX2 TX2 3, goodWord w = true) w hw⟩
theorem u_X3 : ∀ w ∈ u_ws RX3 TX3 6, w ∈ ALL := fun w hw => List.mem_filter.mpr ⟨(by decide +kernel : ∀ w ∈ u_ws RX3 TX3 6, w ∈ lw_tbl) w hw, (by decide +kernel : ∀ w ∈ u_ws RX3 TX3 6, goodWord w = true) w hw⟩
theorem u_X4 : ∀ w ∈ u_ws RX4 TX4 5, w ∈ ALL := fun w hw => List.mem_filter.mpr ⟨(by decide +kernel : ∀ w ∈ u_ws RX4 TX4 5, w ∈ lw_tbl) w hw, (by decide +kernel : ∀ w ∈ u_ws RX4 TX4 5, goodWord w = true) w hw⟩
theorem u_X5 : ∀ w ∈ u_ws RX5 TX5 8, w ∈ ALL := fun w hw => List.mem_filter.mpr ⟨(by decide +kernel : ∀ w ∈ u_ws RX5 TX5 8, w ∈ lw_tbl) w hw, (by decide +kernel : ∀ w ∈ u_ws RX5 TX5 8, goodWord w = true) w hw⟩
theorem u_X6 : ∀ w ∈ u_ws RX6 TX6 15, w ∈ ALL := fun w hw => List.mem_filter.mpr ⟨(by decide +kernel : ∀ w ∈ u_ws RX6 TX6 15, w ∈ lw_tbl) w hw, (by decide +kernel : ∀ w ∈ u_ws RX6 TX6 15, goodWord w = true) w hw⟩
theorem k_Jx4a65c_1 : tm_ki RJx4a65c 1 M_Jxc12de_init_da8c8 0 := ⟨tm_in1 43 rfl rfl, tm_in1 44 rfl rfl, ⟨rfl, rfl⟩, tm_in1 3 rfl rfl, tm_in1 45 rfl rfl, ⟨by decide, by decide⟩, by decide +kernel⟩
theorem w_Jx4a65c_39 : (Cond.fieldLink "java/util/ArrayList" (39 : Nat) "java/util/ArrayList" "DEFAULTCAPACITY_EMPTY_ELEMENTDATA" "[Ljava/lang/Object;") ∈ ALL := tm_in1 50 rfl rfl
theorem f_Jx4a65c_9 : tm_f RJx4a65c 9 0 1 := ⟨RJx4a65c, "java/util/ArrayList", TJx4a65c, 3, rfl, u_Jx4a65c, by decide, Or.inl (tm_in1 52 rfl rfl), Or.inl rfl⟩
theorem k_Jx4a65c_73 : tm_ks RJx4a65c 73 M_J8_newLength_cabcc 3 := ⟨tm_in3 81 rfl rfl, tm_in2 83 rfl rfl, trivial, tm_in1 12 rfl rfl, tm_in2 84 rfl rfl, ⟨by decide, by decide⟩, by decide +kernel⟩
theorem k_Jx4a65c_66 : tm_ks RJx4a65c 66 M_J7_copyOf_1904c 2 := ⟨tm_in3 82 rfl rfl, tm_in3 83 rfl rfl, trivial, tm_in1 14 rfl rfl, tm_in3 84 rfl rfl, ⟨by decide, by decide⟩, by decide +kernel⟩
theorem w_Jx4a65c_7 : (Cond.classLink "java/util/ArrayList" (7 : Nat) "java/lang/Object") ∈ ALL := tm_in3 109 rfl rfl
theorem f_Jx4a65c_48 : tm_f RJx4a65c 48 0 2 := ⟨RJx4a65c, "java/util/ArrayList", TJx4a65c, 3, rfl, u_Jx4a65c, by decide, Or.inl (tm_in1 53 rfl rfl), Or.inl rfl⟩
theorem k_Jx4a65c_69 : tm_kv RJx4a65c 69 M_Jx4a65c_grow_92f84 1 := ⟨tm_in3 77 rfl rfl, tm_in3 79 rfl rfl, tm_inS 16 rfl rfl, tm_in1 4 rfl rfl, tm_in3 80 rfl rfl, ⟨by decide, by decide⟩, by decide +kernel⟩
theorem k_Jx4a65c_118 : tm_ks RJx4a65c 118 M_J15_checkIndex_7cf53 2 := ⟨tm_in1 102 rfl rfl, tm_in1 103 rfl rfl, trivial, tm_in1 17 rfl rfl, tm_in1 104 rfl rfl, ⟨by decide, by decide⟩, by decide +kernel⟩
theorem k_Jx4a65c_123 : tm_kv RJx4a65c 123 M_Jx4a65c_elementData_915e3 1 := ⟨tm_in1 108 rfl rfl, tm_in1 109 rfl rfl, tm_in1 110 rfl rfl, tm_in1 4 rfl rfl, tm_in1 111 rfl rfl, ⟨by decide, by decide⟩, by decide +kernel⟩
theorem k_Jx4a65c_129 : tm_kv RJx4a65c 129 M_Jx4a65c_grow_d5877 0 := ⟨tm_in3 73 rfl rfl, tm_in3 75 rfl rfl, tm_inS 15 rfl rfl, tm_in1 4 rfl rfl, tm_in3 76 rfl rfl, ⟨by decide, by decide⟩, by decide +kernel⟩
theorem f_Jx4a65c_63 : tm_f RJx4a65c 63 0 0 := ⟨RJx4a65c, "java/util/ArrayList", TJx4a65c, 3, rfl, u_Jx4a65c, by decide, Or.inl (tm_in1 55 rfl rfl), Or.inr (tm_in1 56 rfl rfl)⟩
theorem k_Jx4a65c_131 : tm_kv RJx4a65c 131 M_Jx4a65c_add_72be8 3 := ⟨tm_in3 115 rfl rfl, tm_in3 117 rfl rfl, tm_inS 17 rfl rfl, tm_in1 4 rfl rfl, tm_in3 118 rfl rfl, ⟨by decide, by decide⟩, by decide +kernel⟩
theorem k_Jx4a65c_135 : tm_kv RJx4a65c 135 M_Jx4a65c_rangeCheckForAdd_d00df 1 := ⟨tm_in1 221 rfl rfl, tm_in1 223 rfl rfl, tm_inS 12 rfl rfl, tm_in1 4 rfl rfl, tm_in1 224 rfl rfl, ⟨by decide, by decide⟩, by decide +kernel⟩
theorem k_Jx4a65c_144 : tm_kv RJx4a65c 144 M_Jx4a65c_fastRemove_b59b0 2 := ⟨tm_in4 188 rfl rfl, tm_in4 190 rfl rfl, tm_inS 33 rfl rfl, tm_in1 4 rfl rfl, tm_in4 191 rfl rfl, ⟨by decide, by decide⟩, by decide +kernel⟩
theorem k_Jxc12de_1 : tm_ki RJxc12de 1 M_Jxa1e45_init_da8c8 0 := ⟨tm_in1 46 rfl rfl, tm_in1 47 rfl rfl, ⟨rfl, rfl⟩, tm_in1 2 rfl rfl, tm_in1 48 rfl rfl, ⟨by decide, by decide⟩, by decide +kernel⟩
theorem f_Jxc12de_7 : tm_f RJxc12de 7 0 0 := ⟨RJx4a65c, "java/util/AbstractList", TJx4a65c, 3, rfl, u_Jx4a65c, by decide, Or.inl (tm_in1 54 rfl rfl), Or.inl rfl⟩
theorem k_J7_300 : tm_ks RJ7 300 M_J7_copyOf_6403c 3 := ⟨tm_in3 102 rfl rfl, tm_in3 103 rfl rfl, trivial, tm_in1 14 rfl rfl, tm_in3 104 rfl rfl, ⟨by decide, by decide⟩, by decide +kernel⟩
theorem w_J7_110 : (Cond.classLink "java/util/Arrays" (110 : Nat) "[Ljava/lang/Object;") ∈ ALL := tm_in3 105 rfl rfl
theorem w_J7_2 : (Cond.classLink "java/util/Arrays" (2 : Nat) "java/lang/Object") ∈ ALL := tm_in3 107 rfl rfl
theorem k_J15_105 : tm_ks RJ15 105 M_J3_checkIndex_8e157 3 := ⟨tm_in1 105 rfl rfl, tm_in1 106 rfl rfl, trivial, tm_in1 18 rfl rfl, tm_in1 107 rfl rfl, ⟨by decide, by decide⟩, by decide +kernel⟩
theorem w_J8_200 : (Cond.constant "jdk/internal/util/ArraysSupport" (200 : Nat) (2147483639 : Int32)) ∈ ALL := tm_in2 86 rfl rfl
theorem n_X0_7 : tm_nw9 RX0 7 0 [.int (I 0), .null, .int (I 0)] := ⟨RJx4a65c, TJx4a65c, 3, tyJx4a65c, rfl, u_Jx4a65c, tyJx4a65c_ok, tm_in3 185 rfl rfl, tm_in1 39 rfl rfl, tm_in1 4 rfl rfl, rfl, by decide⟩
theorem k_X0_9 : tm_ki RX0 9 M_Jx4a65c_init_da8c8 0 := ⟨tm_in3 186 rfl rfl, tm_in1 41 rfl rfl, ⟨rfl, rfl⟩, tm_in1 4 rfl rfl, tm_in1 42 rfl rfl, ⟨by decide, by decide⟩, by decide +kernel⟩
theorem f_X0_10 : tm_f RX0 10 1 3 := ⟨RX0, "TimberList$Board", TX0, 5, rfl, u_X0, by decide, Or.inl (tm_in3 192 rfl rfl), Or.inl rfl⟩
theorem f_X0_16 : tm_f RX0 16 1 4 := ⟨RX0, "TimberList$Board", TX0, 5, rfl, u_X0, by decide, Or.inl (tm_in3 193 rfl rfl), Or.inl rfl⟩
theorem f_X0_19 : tm_f RX0 19 1 0 := ⟨RX0, "TimberList$Board", TX0, 5, rfl, u_X0, by decide, Or.inl (tm_in3 187 rfl rfl), Or.inl rfl⟩
theorem f_X0_23 : tm_f RX0 23 1 1 := ⟨RX0, "TimberList$Board", TX0, 5, rfl, u_X0, by decide, Or.inl (tm_in3 189 rfl rfl), Or.inl rfl⟩
theorem f_X0_26 : tm_f RX0 26 1 2 := ⟨RX0, "TimberList$Board", TX0, 5, rfl, u_X0, by decide, Or.inl (tm_in3 191 rfl rfl), Or.inl rfl⟩
theorem k_X0_29 : tm_kv RX0 29 M_Jx4a65c_size_8abf5 0 := ⟨tm_in1 127 rfl rfl, tm_in1 95 rfl rfl, tm_in1 96 rfl rfl, tm_in1 4 rfl rfl, tm_in1 97 rfl rfl, ⟨by decide, by decide⟩, by decide +kernel⟩
theorem k_X0_33 : tm_kv RX0 33 M_Jx4a65c_get_915e3 1 := ⟨tm_in1 132 rfl rfl, tm_in1 99 rfl rfl, tm_in1 100 rfl rfl, tm_in1 4 rfl rfl, tm_in1 101 rfl rfl, ⟨by decide, by decide⟩, by decide +kernel⟩
theorem w_X0_37 : (Cond.classLink "TimberList$Board" (37 : Nat) "TimberList$Defect") ∈ ALL := tm_in1 146 rfl rfl
theorem f_X0_39 : tm_f RX0 39 3 0 := ⟨RX2, "TimberList$Defect", TX2, 3, rfl, u_X2, by decide, Or.inr ⟨_, tm_nn3 235 rfl rfl⟩, Or.inl rfl⟩
theorem k_X0_42 : tm_kv RX0 42 M_Jx4a65c_add_7a177 2 := ⟨tm_in1 217 rfl rfl, tm_in1 218 rfl rfl, tm_in1 219 rfl rfl, tm_in1 4 rfl rfl, tm_in1 220 rfl rfl, ⟨by decide, by decide⟩, by decide +kernel⟩
theorem w_X0_46 : (Cond.classLink "TimberList$Board" (46 : Nat) "TimberList$Piece") ∈ ALL := tm_in1 133 rfl rfl
theorem f_X0_48 : tm_f RX0 48 5 2 := ⟨RX4, "TimberList$Piece", TX4, 5, rfl, u_X4, by decide, Or.inr ⟨_, tm_nn1 175 rfl rfl⟩, Or.inl rfl⟩
theorem k_X0_49 : tm_kv RX0 49 M_Jx4a65c_remove_915e3 1 := ⟨tm_in4 196 rfl rfl, tm_in4 185 rfl rfl, tm_in4 186 rfl rfl, tm_in1 4 rfl rfl, tm_in4 187 rfl rfl, ⟨by decide, by decide⟩, by decide +kernel⟩
theorem f_X0_52 : tm_f RX0 52 5 3 := ⟨RX4, "TimberList$Piece", TX4, 5, rfl, u_X4, by decide, Or.inr ⟨_, tm_nn1 178 rfl rfl⟩, Or.inl rfl⟩
theorem f_X0_55 : tm_f RX0 55 5 0 := ⟨RX4, "TimberList$Piece", TX4, 5, rfl, u_X4, by decide, Or.inr ⟨_, tm_nn1 171 rfl rfl⟩, Or.inl rfl⟩
theorem f_X0_59 : tm_f RX0 59 4 3 := ⟨RX3, "TimberList$Part", TX3, 6, rfl, u_X3, by decide, Or.inr ⟨_, tm_nn4 35 rfl rfl⟩, Or.inl rfl⟩
theorem f_X0_62 : tm_f RX0 62 3 1 := ⟨RX2, "TimberList$Defect", TX2, 3, rfl, u_X2, by decide, Or.inr ⟨_, tm_nn3 237 rfl rfl⟩, Or.inl rfl⟩
theorem f_X0_63 : tm_f RX0 63 3 2 := ⟨RX2, "TimberList$Defect", TX2, 3, rfl, u_X2, by decide, Or.inr ⟨_, tm_nn3 239 rfl rfl⟩, Or.inl rfl⟩
theorem k_X0_70 : tm_kv RX0 70 M_X0_firstWorse 2 := ⟨tm_in1 142 rfl rfl, tm_in1 144 rfl rfl, tm_inS 6 rfl rfl, tm_in1 11 rfl rfl, tm_in1 145 rfl rfl, ⟨by decide, by decide⟩, by decide +kernel⟩
theorem k_X0_73 : tm_kv RX0 73 M_X0_firstGood 2 := ⟨tm_in1 150 rfl rfl, tm_in1 152 rfl rfl, tm_inS 7 rfl rfl, tm_in1 11 rfl rfl, tm_in1 153 rfl rfl, ⟨by decide, by decide⟩, by decide +kernel⟩
theorem k_X0_76 : tm_kv RX0 76 M_X0_nextStretchStart 2 := ⟨tm_in4 107 rfl rfl, tm_in4 109 rfl rfl, tm_inS 27 rfl rfl, tm_in1 11 rfl rfl, tm_in4 110 rfl rfl, ⟨by decide, by decide⟩, by decide +kernel⟩
theorem f_X0_79 : tm_f RX0 79 4 2 := ⟨RX3, "TimberList$Part", TX3, 6, rfl, u_X3, by decide, Or.inr ⟨_, tm_nn4 32 rfl rfl⟩, Or.inl rfl⟩
theorem k_X0_80 : tm_kv RX0 80 M_X0_isClearOfPieces 3 := ⟨tm_in4 140 rfl rfl, tm_in4 142 rfl rfl, tm_inS 31 rfl rfl, tm_in1 11 rfl rfl, tm_in4 143 rfl rfl, ⟨by decide, by decide⟩, by decide +kernel⟩
theorem k_X0_84 : tm_kn RX0 84 M_X4_isClearOf 3 := ⟨⟨_, tm_nn4 144 rfl rfl⟩, tm_in4 146 rfl rfl, tm_inS 32 rfl rfl, tm_in1 29 rfl rfl, tm_in4 147 rfl rfl, ⟨by decide, by decide⟩, by decide +kernel⟩
theorem k_X0_87 : tm_kv RX0 87 M_X0_roomStart 2 := ⟨tm_in1 128 rfl rfl, tm_in1 130 rfl rfl, tm_inS 3 rfl rfl, tm_in1 11 rfl rfl, tm_in1 131 rfl rfl, ⟨by decide, by decide⟩, by decide +kernel⟩
theorem k_X0_90 : tm_kv RX0 90 M_X0_roomEnd 2 := ⟨tm_in1 134 rfl rfl, tm_in1 136 rfl rfl, tm_inS 4 rfl rfl, tm_in1 11 rfl rfl, tm_in1 137 rfl rfl, ⟨by decide, by decide⟩, by decide +kernel⟩
theorem k_X0_93 : tm_kv RX0 93 M_X0_earliestWithin 3 := ⟨tm_in1 138 rfl rfl, tm_in1 140 rfl rfl, tm_inS 5 rfl rfl, tm_in1 11 rfl rfl, tm_in1 141 rfl rfl, ⟨by decide, by decide⟩, by decide +kernel⟩
theorem f_X0_97 : tm_f RX0 97 4 1 := ⟨RX3, "TimberList$Part", TX3, 6, rfl, u_X3, by decide, Or.inr ⟨_, tm_nn4 30 rfl rfl⟩, Or.inl rfl⟩
theorem f_X1_7 : tm_f RX1 7 2 0 := ⟨RX1, "TimberList$Cutting", TX1, 3, rfl, u_X1, by decide, Or.inl (tm_in1 196 rfl rfl), Or.inl rfl⟩
theorem f_X1_13 : tm_f RX1 13 2 1 := ⟨RX1, "TimberList$Cutting", TX1, 3, rfl, u_X1, by decide, Or.inl (tm_in1 198 rfl rfl), Or.inl rfl⟩
theorem f_X1_17 : tm_f RX1 17 2 2 := ⟨RX1, "TimberList$Cutting", TX1, 3, rfl, u_X1, by decide, Or.inl (tm_in1 200 rfl rfl), Or.inl rfl⟩
theorem f_X2_7 : tm_f RX2 7 3 0 := ⟨RX2, "TimberList$Defect", TX2, 3, rfl, u_X2, by decide, Or.inl (tm_in3 234 rfl rfl), Or.inl rfl⟩
theorem f_X2_13 : tm_f RX2 13 3 1 := ⟨RX2, "TimberList$Defect", TX2, 3, rfl, u_X2, by decide, Or.inl (tm_in3 236 rfl rfl), Or.inl rfl⟩
theorem f_X2_16 : tm_f RX2 16 3 2 := ⟨RX2, "TimberList$Defect", TX2, 3, rfl, u_X2, by decide, Or.inl (tm_in3 238 rfl rfl), Or.inl rfl⟩
theorem f_X3_7 : tm_f RX3 7 4 0 := ⟨RX3, "TimberList$Part", TX3, 6, rfl, u_X3, by decide, Or.inl (tm_in4 25 rfl rfl), Or.inl rfl⟩
theorem f_X3_13 : tm_f RX3 13 4 1 := ⟨RX3, "TimberList$Part", TX3, 6, rfl, u_X3, by decide, Or.inl (tm_in4 28 rfl rfl), Or.inl rfl⟩
theorem f_X3_16 : tm_f RX3 16 4 2 := ⟨RX3, "TimberList$Part", TX3, 6, rfl, u_X3, by decide, Or.inl (tm_in4 31 rfl rfl), Or.inl rfl⟩
theorem f_X3_19 : tm_f RX3 19 4 3 := ⟨RX3, "TimberList$Part", TX3, 6, rfl, u_X3, by decide, Or.inl (tm_in4 34 rfl rfl), Or.inl rfl⟩
theorem f_X3_22 : tm_f RX3 22 4 4 := ⟨RX3, "TimberList$Part", TX3, 6, rfl, u_X3, by decide, Or.inl (tm_in4 37 rfl rfl), Or.inl rfl⟩
theorem f_X3_26 : tm_f RX3 26 4 5 := ⟨RX3, "TimberList$Part", TX3, 6, rfl, u_X3, by decide, Or.inl (tm_in4 39 rfl rfl), Or.inl rfl⟩
theorem f_X4_7 : tm_f RX4 7 5 0 := ⟨RX4, "TimberList$Piece", TX4, 5, rfl, u_X4, by decide, Or.inl (tm_in1 170 rfl rfl), Or.inl rfl⟩
theorem f_X4_13 : tm_f RX4 13 5 1 := ⟨RX4, "TimberList$Piece", TX4, 5, rfl, u_X4, by decide, Or.inl (tm_in1 172 rfl rfl), Or.inl rfl⟩
theorem f_X4_17 : tm_f RX4 17 5 2 := ⟨RX4, "TimberList$Piece", TX4, 5, rfl, u_X4, by decide, Or.inl (tm_in1 174 rfl rfl), Or.inl rfl⟩
theorem f_X4_21 : tm_f RX4 21 5 3 := ⟨RX4, "TimberList$Piece", TX4, 5, rfl, u_X4, by decide, Or.inl (tm_in1 177 rfl rfl), Or.inl rfl⟩
theorem f_X4_24 : tm_f RX4 24 5 4 := ⟨RX4, "TimberList$Piece", TX4, 5, rfl, u_X4, by decide, Or.inl (tm_in1 180 rfl rfl), Or.inl rfl⟩
theorem f_X4_28 : tm_f RX4 28 4 0 := ⟨RX3, "TimberList$Part", TX3, 6, rfl, u_X3, by decide, Or.inr ⟨_, tm_nn4 26 rfl rfl⟩, Or.inl rfl⟩
theorem n_X5_7 : tm_nw9 RX5 7 0 [.int (I 0), .null, .int (I 0)] := ⟨RJx4a65c, TJx4a65c, 3, tyJx4a65c, rfl, u_Jx4a65c, tyJx4a65c_ok, tm_in1 38 rfl rfl, tm_in1 39 rfl rfl, tm_in1 4 rfl rfl, rfl, by decide⟩
theorem k_X5_9 : tm_ki RX5 9 M_Jx4a65c_init_da8c8 0 := ⟨tm_in1 40 rfl rfl, tm_in1 41 rfl rfl, ⟨rfl, rfl⟩, tm_in1 4 rfl rfl, tm_in1 42 rfl rfl, ⟨by decide, by decide⟩, by decide +kernel⟩
theorem f_X5_10 : tm_f RX5 10 6 0 := ⟨RX5, "TimberList", TX5, 8, rfl, u_X5, by decide, Or.inl (tm_in1 64 rfl rfl), Or.inl rfl⟩
theorem f_X5_16 : tm_f RX5 16 6 1 := ⟨RX5, "TimberList", TX5, 8, rfl, u_X5, by decide, Or.inl (tm_in1 65 rfl rfl), Or.inl rfl⟩
theorem f_X5_19 : tm_f RX5 19 6 2 := ⟨RX5, "TimberList", TX5, 8, rfl, u_X5, by decide, Or.inl (tm_in1 66 rfl rfl), Or.inl rfl⟩
theorem f_X5_22 : tm_f RX5 22 6 3 := ⟨RX5, "TimberList", TX5, 8, rfl, u_X5, by decide, Or.inl (tm_in1 67 rfl rfl), Or.inl rfl⟩
theorem f_X5_25 : tm_f RX5 25 6 4 := ⟨RX5, "TimberList", TX5, 8, rfl, u_X5, by decide, Or.inl (tm_in1 68 rfl rfl), Or.inl rfl⟩
theorem f_X5_29 : tm_f RX5 29 6 5 := ⟨RX5, "TimberList", TX5, 8, rfl, u_X5, by decide, Or.inl (tm_in1 69 rfl rfl), Or.inl rfl⟩
theorem f_X5_33 : tm_f RX5 33 6 6 := ⟨RX5, "TimberList", TX5, 8, rfl, u_X5, by decide, Or.inl (tm_in1 70 rfl rfl), Or.inl rfl⟩
theorem f_X5_36 : tm_f RX5 36 6 7 := ⟨RX5, "TimberList", TX5, 8, rfl, u_X5, by decide, Or.inl (tm_in1 71 rfl rfl), Or.inl rfl⟩
theorem k_X5_39 : tm_ks RX5 39 M_X5_isWithin 3 := ⟨tm_in3 156 rfl rfl, tm_in3 157 rfl rfl, trivial, tm_in1 1 rfl rfl, tm_in3 158 rfl rfl, ⟨by decide, by decide⟩, by decide +kernel⟩
theorem k_X5_43 : tm_ks RX5 43 M_X5_isGrade 1 := ⟨tm_in3 159 rfl rfl, tm_in3 160 rfl rfl, trivial, tm_in1 1 rfl rfl, tm_in3 161 rfl rfl, ⟨by decide, by decide⟩, by decide +kernel⟩
theorem k_X5_54 : tm_kv RX5 54 M_Jx4a65c_size_8abf5 0 := ⟨tm_in1 94 rfl rfl, tm_in1 95 rfl rfl, tm_in1 96 rfl rfl, tm_in1 4 rfl rfl, tm_in1 97 rfl rfl, ⟨by decide, by decide⟩, by decide +kernel⟩
theorem n_X5_63 : tm_nw9 RX5 63 1 [.int (I 0), .int (I 0), .int (I 0), .null, .null] := ⟨RX0, TX0, 5, tyX0, rfl, u_X0, tyX0_ok, tm_in1 121 rfl rfl, tm_in1 125 rfl rfl, tm_in1 11 rfl rfl, rfl, by decide⟩
theorem k_X5_65 : tm_kin RX5 65 M_X0_init 3 := ⟨⟨_, tm_nn3 181 rfl rfl⟩, tm_in3 182 rfl rfl, ⟨rfl, rfl⟩, tm_in1 11 rfl rfl, tm_in3 183 rfl rfl, ⟨by decide, by decide⟩, by decide +kernel⟩
theorem k_X5_68 : tm_kv RX5 68 M_Jx4a65c_add_9ea2d 1 := ⟨tm_in3 111 rfl rfl, tm_in3 112 rfl rfl, tm_in3 113 rfl rfl, tm_in1 4 rfl rfl, tm_in3 114 rfl rfl, ⟨by decide, by decide⟩, by decide +kernel⟩
theorem k_X5_72 : tm_kv RX5 72 M_X5_boardNumbered 1 := ⟨tm_in3 214 rfl rfl, tm_in3 216 rfl rfl, tm_inS 20 rfl rfl, tm_in1 1 rfl rfl, tm_in3 217 rfl rfl, ⟨by decide, by decide⟩, by decide +kernel⟩
theorem f_X5_76 : tm_f RX5 76 1 0 := ⟨RX0, "TimberList$Board", TX0, 5, rfl, u_X0, by decide, Or.inr ⟨_, tm_nn3 188 rfl rfl⟩, Or.inl rfl⟩
theorem k_X5_83 : tm_kn RX5 83 M_X0_hasPieceSpoiledBy 3 := ⟨⟨_, tm_nn3 223 rfl rfl⟩, tm_in3 225 rfl rfl, tm_inS 21 rfl rfl, tm_in1 11 rfl rfl, tm_in3 226 rfl rfl, ⟨by decide, by decide⟩, by decide +kernel⟩
theorem n_X5_88 : tm_nw9 RX5 88 3 [.int (I 0), .int (I 0), .int (I 0)] := ⟨RX2, TX2, 3, tyX2, rfl, u_X2, tyX2_ok, tm_in3 228 rfl rfl, tm_in3 229 rfl rfl, tm_in1 19 rfl rfl, rfl, by decide⟩
theorem k_X5_90 : tm_kin RX5 90 M_X2_init 3 := ⟨⟨_, tm_nn3 230 rfl rfl⟩, tm_in3 231 rfl rfl, ⟨rfl, rfl⟩, tm_in1 19 rfl rfl, tm_in3 232 rfl rfl, ⟨by decide, by decide⟩, by decide +kernel⟩
theorem k_X5_91 : tm_kn RX5 91 M_X0_insertDefect 1 := ⟨⟨_, tm_nn4 7 rfl rfl⟩, tm_in4 9 rfl rfl, tm_inS 22 rfl rfl, tm_in1 11 rfl rfl, tm_in4 10 rfl rfl, ⟨by decide, by decide⟩, by decide +kernel⟩
theorem n_X5_99 : tm_nw9 RX5 99 4 [.int (I 0), .int (I 0), .int (I 0), .int (I 0), .int (I 0), .int (I 0)] := ⟨RX3, TX3, 6, tyX3, rfl, u_X3, tyX3_ok, tm_in1 112 rfl rfl, tm_in4 20 rfl rfl, tm_in1 27 rfl rfl, rfl, by decide⟩
theorem k_X5_101 : tm_kin RX5 101 M_X3_init 6 := ⟨⟨_, tm_nn4 21 rfl rfl⟩, tm_in4 22 rfl rfl, ⟨rfl, rfl⟩, tm_in1 27 rfl rfl, tm_in4 23 rfl rfl, ⟨by decide, by decide⟩, by decide +kernel⟩
theorem k_X5_104 : tm_kv RX5 104 M_X5_insertIntoPlanningOrder 1 := ⟨tm_in4 54 rfl rfl, tm_in4 56 rfl rfl, tm_inS 23 rfl rfl, tm_in1 1 rfl rfl, tm_in4 57 rfl rfl, ⟨by decide, by decide⟩, by decide +kernel⟩
theorem f_X5_108 : tm_f RX5 108 4 0 := ⟨RX3, "TimberList$Part", TX3, 6, rfl, u_X3, by decide, Or.inr ⟨_, tm_nn4 27 rfl rfl⟩, Or.inl rfl⟩
theorem k_X5_113 : tm_kv RX5 113 M_Jx4a65c_isEmpty_aae02 0 := ⟨tm_in3 123 rfl rfl, tm_in3 124 rfl rfl, tm_in3 125 rfl rfl, tm_in1 4 rfl rfl, tm_in3 126 rfl rfl, ⟨by decide, by decide⟩, by decide +kernel⟩
theorem k_X5_126 : tm_kn RX5 126 M_X0_gradeAt 1 := ⟨⟨_, tm_nn4 88 rfl rfl⟩, tm_in4 90 rfl rfl, tm_inS 25 rfl rfl, tm_in1 11 rfl rfl, tm_in4 91 rfl rfl, ⟨by decide, by decide⟩, by decide +kernel⟩
theorem k_X5_130 : tm_ks RX5 130 M_X5_checkGrade 1 := ⟨tm_in4 99 rfl rfl, tm_in4 100 rfl rfl, trivial, tm_in1 1 rfl rfl, tm_in4 101 rfl rfl, ⟨by decide, by decide⟩, by decide +kernel⟩
theorem k_X5_134 : tm_kn RX5 134 M_X0_countStretches 1 := ⟨⟨_, tm_nn4 103 rfl rfl⟩, tm_in4 105 rfl rfl, tm_inS 26 rfl rfl, tm_in1 11 rfl rfl, tm_in4 106 rfl rfl, ⟨by decide, by decide⟩, by decide +kernel⟩
theorem k_X5_139 : tm_kn RX5 139 M_X0_stretchStart 2 := ⟨⟨_, tm_nn4 119 rfl rfl⟩, tm_in4 121 rfl rfl, tm_inS 28 rfl rfl, tm_in1 11 rfl rfl, tm_in4 122 rfl rfl, ⟨by decide, by decide⟩, by decide +kernel⟩
theorem k_X5_143 : tm_kn RX5 143 M_X0_firstWorse 2 := ⟨⟨_, tm_nn4 123 rfl rfl⟩, tm_in1 144 rfl rfl, tm_inS 6 rfl rfl, tm_in1 11 rfl rfl, tm_in1 145 rfl rfl, ⟨by decide, by decide⟩, by decide +kernel⟩
theorem k_X5_146 : tm_kv RX5 146 M_X5_partNumbered 1 := ⟨tm_in4 131 rfl rfl, tm_in4 133 rfl rfl, tm_inS 29 rfl rfl, tm_in1 1 rfl rfl, tm_in4 134 rfl rfl, ⟨by decide, by decide⟩, by decide +kernel⟩
theorem f_X5_150 : tm_f RX5 150 4 1 := ⟨RX3, "TimberList$Part", TX3, 6, rfl, u_X3, by decide, Or.inr ⟨_, tm_nn4 29 rfl rfl⟩, Or.inl rfl⟩
theorem k_X5_151 : tm_kn RX5 151 M_X0_canGive 4 := ⟨⟨_, tm_nn4 136 rfl rfl⟩, tm_in4 138 rfl rfl, tm_inS 30 rfl rfl, tm_in1 11 rfl rfl, tm_in4 139 rfl rfl, ⟨by decide, by decide⟩, by decide +kernel⟩
theorem k_X5_155 : tm_kn RX5 155 M_X0_earliestPlace 2 := ⟨⟨_, tm_nn1 122 rfl rfl⟩, tm_in1 124 rfl rfl, tm_inS 2 rfl rfl, tm_in1 11 rfl rfl, tm_in1 126 rfl rfl, ⟨by decide, by decide⟩, by decide +kernel⟩
theorem f_X5_159 : tm_f RX5 159 4 5 := ⟨RX3, "TimberList$Part", TX3, 6, rfl, u_X3, by decide, Or.inr ⟨_, tm_nn4 40 rfl rfl⟩, Or.inl rfl⟩
theorem k_X5_166 : tm_kv RX5 166 M_X5_cutSingle 3 := ⟨tm_in1 158 rfl rfl, tm_in1 160 rfl rfl, tm_inS 9 rfl rfl, tm_in1 1 rfl rfl, tm_in1 161 rfl rfl, ⟨by decide, by decide⟩, by decide +kernel⟩
theorem f_X5_172 : tm_f RX5 172 4 4 := ⟨RX3, "TimberList$Part", TX3, 6, rfl, u_X3, by decide, Or.inr ⟨_, tm_nn4 38 rfl rfl⟩, Or.inl rfl⟩
theorem n_X5_180 : tm_nw9 RX5 180 5 [.null, .null, .int (I 0), .int (I 0), .int (I 0)] := ⟨RX4, TX4, 5, tyX4, rfl, u_X4, tyX4_ok, tm_in1 164 rfl rfl, tm_in1 165 rfl rfl, tm_in1 29 rfl rfl, rfl, by decide⟩
theorem k_X5_182 : tm_kin RX5 182 M_X4_init 5 := ⟨⟨_, tm_nn1 166 rfl rfl⟩, tm_in1 167 rfl rfl, ⟨rfl, rfl⟩, tm_in1 29 rfl rfl, tm_in1 168 rfl rfl, ⟨by decide, by decide⟩, by decide +kernel⟩
theorem f_X5_185 : tm_f RX5 185 5 2 := ⟨RX4, "TimberList$Piece", TX4, 5, rfl, u_X4, by decide, Or.inr ⟨_, tm_nn1 176 rfl rfl⟩, Or.inl rfl⟩
theorem f_X5_188 : tm_f RX5 188 5 3 := ⟨RX4, "TimberList$Piece", TX4, 5, rfl, u_X4, by decide, Or.inr ⟨_, tm_nn1 179 rfl rfl⟩, Or.inl rfl⟩
theorem k_X5_191 : tm_kn RX5 191 M_X4_isClearOf 3 := ⟨⟨_, tm_nn4 174 rfl rfl⟩, tm_in4 146 rfl rfl, tm_inS 32 rfl rfl, tm_in1 29 rfl rfl, tm_in4 147 rfl rfl, ⟨by decide, by decide⟩, by decide +kernel⟩
theorem n_X5_196 : tm_nw9 RX5 196 2 [.null, .null, .null] := ⟨RX1, TX1, 3, tyX1, rfl, u_X1, tyX1_ok, tm_in1 162 rfl rfl, tm_in1 163 rfl rfl, tm_in1 28 rfl rfl, rfl, by decide⟩
theorem k_X5_198 : tm_kin RX5 198 M_X1_init 3 := ⟨⟨_, tm_nn1 192 rfl rfl⟩, tm_in1 193 rfl rfl, ⟨rfl, rfl⟩, tm_in1 28 rfl rfl, tm_in1 194 rfl rfl, ⟨by decide, by decide⟩, by decide +kernel⟩
theorem k_X5_201 : tm_kv RX5 201 M_X5_takeFromBoards 1 := ⟨tm_in1 209 rfl rfl, tm_in1 211 rfl rfl, tm_inS 10 rfl rfl, tm_in1 1 rfl rfl, tm_in1 212 rfl rfl, ⟨by decide, by decide⟩, by decide +kernel⟩
theorem k_X5_207 : tm_kv RX5 207 M_Jx4a65c_remove_915e3 1 := ⟨tm_in4 184 rfl rfl, tm_in4 185 rfl rfl, tm_in4 186 rfl rfl, tm_in1 4 rfl rfl, tm_in4 187 rfl rfl, ⟨by decide, by decide⟩, by decide +kernel⟩
theorem f_X5_211 : tm_f RX5 211 2 1 := ⟨RX1, "TimberList$Cutting", TX1, 3, rfl, u_X1, by decide, Or.inr ⟨_, tm_nn1 199 rfl rfl⟩, Or.inl rfl⟩
theorem f_X5_215 : tm_f RX5 215 5 1 := ⟨RX4, "TimberList$Piece", TX4, 5, rfl, u_X4, by decide, Or.inr ⟨_, tm_nn1 173 rfl rfl⟩, Or.inl rfl⟩
theorem k_X5_219 : tm_kn RX5 219 M_X0_removePiece 1 := ⟨⟨_, tm_nn4 192 rfl rfl⟩, tm_in4 194 rfl rfl, tm_inS 34 rfl rfl, tm_in1 11 rfl rfl, tm_in4 195 rfl rfl, ⟨by decide, by decide⟩, by decide +kernel⟩
theorem f_X5_223 : tm_f RX5 223 2 2 := ⟨RX1, "TimberList$Cutting", TX1, 3, rfl, u_X1, by decide, Or.inr ⟨_, tm_nn1 201 rfl rfl⟩, Or.inl rfl⟩
theorem f_X5_226 : tm_f RX5 226 2 0 := ⟨RX1, "TimberList$Cutting", TX1, 3, rfl, u_X1, by decide, Or.inr ⟨_, tm_nn1 197 rfl rfl⟩, Or.inl rfl⟩
theorem k_X5_230 : tm_kv RX5 230 M_Jx4a65c_get_915e3 1 := ⟨tm_in1 98 rfl rfl, tm_in1 99 rfl rfl, tm_in1 100 rfl rfl, tm_in1 4 rfl rfl, tm_in1 101 rfl rfl, ⟨by decide, by decide⟩, by decide +kernel⟩
theorem k_X5_233 : tm_kv RX5 233 M_X5_cutWhilePossible 1 := ⟨tm_in1 113 rfl rfl, tm_in1 115 rfl rfl, tm_inS 0 rfl rfl, tm_in1 1 rfl rfl, tm_in1 116 rfl rfl, ⟨by decide, by decide⟩, by decide +kernel⟩
theorem f_X5_237 : tm_f RX5 237 1 4 := ⟨RX0, "TimberList$Board", TX0, 5, rfl, u_X0, by decide, Or.inr ⟨_, tm_nn3 194 rfl rfl⟩, Or.inl rfl⟩
theorem k_X5_244 : tm_kn RX5 244 M_X4_tell 1 := ⟨⟨_, tm_nn3 143 rfl rfl⟩, tm_in3 145 rfl rfl, tm_inS 19 rfl rfl, tm_in1 29 rfl rfl, tm_in3 146 rfl rfl, ⟨by decide, by decide⟩, by decide +kernel⟩
theorem k_X5_247 : tm_kn RX5 247 M_X0_countCuts 1 := ⟨⟨_, tm_nn4 227 rfl rfl⟩, tm_in4 229 rfl rfl, tm_inS 35 rfl rfl, tm_in1 11 rfl rfl, tm_in4 230 rfl rfl, ⟨by decide, by decide⟩, by decide +kernel⟩
theorem k_X5_250 : tm_kn RX5 250 M_X0_longestRoomLength 1 := ⟨⟨_, tm_nn4 238 rfl rfl⟩, tm_in5 0 rfl rfl, tm_inS 36 rfl rfl, tm_in1 11 rfl rfl, tm_in5 1 rfl rfl, ⟨by decide, by decide⟩, by decide +kernel⟩
theorem k_X5_260 : tm_kv RX5 260 M_X5_clearBestSums 0 := ⟨tm_in5 11 rfl rfl, tm_in5 13 rfl rfl, tm_inS 37 rfl rfl, tm_in1 1 rfl rfl, tm_in5 14 rfl rfl, ⟨by decide, by decide⟩, by decide +kernel⟩
theorem f_X5_263 : tm_f RX5 263 4 2 := ⟨RX3, "TimberList$Part", TX3, 6, rfl, u_X3, by decide, Or.inr ⟨_, tm_nn4 33 rfl rfl⟩, Or.inl rfl⟩
theorem f_X5_266 : tm_f RX5 266 1 1 := ⟨RX0, "TimberList$Board", TX0, 5, rfl, u_X0, by decide, Or.inr ⟨_, tm_nn3 190 rfl rfl⟩, Or.inl rfl⟩
theorem f_X5_267 : tm_f RX5 267 4 3 := ⟨RX3, "TimberList$Part", TX3, 6, rfl, u_X3, by decide, Or.inr ⟨_, tm_nn4 36 rfl rfl⟩, Or.inl rfl⟩
theorem k_X5_270 : tm_kv RX5 270 M_X5_addToBestSums 2 := ⟨tm_in5 15 rfl rfl, tm_in5 17 rfl rfl, tm_inS 38 rfl rfl, tm_in1 1 rfl rfl, tm_in5 18 rfl rfl, ⟨by decide, by decide⟩, by decide +kernel⟩
theorem k_X5_274 : tm_kn RX5 274 M_X0_areaOfPieces 0 := ⟨⟨_, tm_nn3 127 rfl rfl⟩, tm_in3 129 rfl rfl, tm_inS 18 rfl rfl, tm_in1 11 rfl rfl, tm_in3 130 rfl rfl, ⟨by decide, by decide⟩, by decide +kernel⟩
theorem w_X5_277 : (Cond.constantLong "TimberList" (277 : Nat) (269 : Int64)) ∈ ALL := tm_in3 135 rfl rfl
theorem k_X5_279 : tm_ks RX5 279 M_X5_withNext 2 := ⟨tm_in3 136 rfl rfl, tm_in3 137 rfl rfl, trivial, tm_in1 1 rfl rfl, tm_in3 138 rfl rfl, ⟨by decide, by decide⟩, by decide +kernel⟩
theorem k_X5_283 : tm_ks RX5 283 M_X5_withPieces 2 := ⟨tm_in3 140 rfl rfl, tm_in3 141 rfl rfl, trivial, tm_in1 1 rfl rfl, tm_in3 142 rfl rfl, ⟨by decide, by decide⟩, by decide +kernel⟩
theorem k_X5_293 : tm_kn RX5 293 M_X3_isPlannedAhead 1 := ⟨⟨_, tm_nn4 58 rfl rfl⟩, tm_in4 60 rfl rfl, tm_inS 24 rfl rfl, tm_in1 27 rfl rfl, tm_in4 61 rfl rfl, ⟨by decide, by decide⟩, by decide +kernel⟩
theorem k_X5_297 : tm_kv RX5 297 M_Jx4a65c_add_7a177 2 := ⟨tm_in4 62 rfl rfl, tm_in1 218 rfl rfl, tm_in1 219 rfl rfl, tm_in1 4 rfl rfl, tm_in1 220 rfl rfl, ⟨by decide, by decide⟩, by decide +kernel⟩
theorem k_X5_300 : tm_kv RX5 300 M_X5_tightestBoard 1 := ⟨tm_in1 117 rfl rfl, tm_in1 119 rfl rfl, tm_inS 1 rfl rfl, tm_in1 1 rfl rfl, tm_in1 120 rfl rfl, ⟨by decide, by decide⟩, by decide +kernel⟩
theorem k_X5_304 : tm_kn RX5 304 M_X0_roomLengthAround 2 := ⟨⟨_, tm_nn1 154 rfl rfl⟩, tm_in1 156 rfl rfl, tm_inS 8 rfl rfl, tm_in1 11 rfl rfl, tm_in1 157 rfl rfl, ⟨by decide, by decide⟩, by decide +kernel⟩
theorem k_X5_307 : tm_kn RX5 307 M_X0_insertPiece 1 := ⟨⟨_, tm_nn1 213 rfl rfl⟩, tm_in1 215 rfl rfl, tm_inS 11 rfl rfl, tm_in1 11 rfl rfl, tm_in1 216 rfl rfl, ⟨by decide, by decide⟩, by decide +kernel⟩
theorem w_X5_313 : (Cond.constantLong "TimberList" (313 : Nat) (31 : Int64)) ∈ ALL := tm_in3 139 rfl rfl
theorem f_X6_9 : tm_f RX6 9 7 2 := ⟨RX6, "TimberListModel", TX6, 15, rfl, u_X6, by decide, Or.inl (tm_in5 28 rfl rfl), Or.inl rfl⟩
theorem f_X6_13 : tm_f RX6 13 7 4 := ⟨RX6, "TimberListModel", TX6, 15, rfl, u_X6, by decide, Or.inl (tm_in5 30 rfl rfl), Or.inl rfl⟩
theorem f_X6_16 : tm_f RX6 16 7 6 := ⟨RX6, "TimberListModel", TX6, 15, rfl, u_X6, by decide, Or.inl (tm_in5 32 rfl rfl), Or.inl rfl⟩
theorem f_X6_19 : tm_f RX6 19 7 7 := ⟨RX6, "TimberListModel", TX6, 15, rfl, u_X6, by decide, Or.inl (tm_in5 33 rfl rfl), Or.inl rfl⟩
theorem f_X6_23 : tm_f RX6 23 7 8 := ⟨RX6, "TimberListModel", TX6, 15, rfl, u_X6, by decide, Or.inl (tm_in5 34 rfl rfl), Or.inl rfl⟩
theorem f_X6_27 : tm_f RX6 27 7 9 := ⟨RX6, "TimberListModel", TX6, 15, rfl, u_X6, by decide, Or.inl (tm_in5 35 rfl rfl), Or.inl rfl⟩
theorem f_X6_30 : tm_f RX6 30 7 11 := ⟨RX6, "TimberListModel", TX6, 15, rfl, u_X6, by decide, Or.inl (tm_in5 37 rfl rfl), Or.inl rfl⟩
theorem f_X6_33 : tm_f RX6 33 7 12 := ⟨RX6, "TimberListModel", TX6, 15, rfl, u_X6, by decide, Or.inl (tm_in5 38 rfl rfl), Or.inl rfl⟩
theorem f_X6_36 : tm_f RX6 36 7 0 := ⟨RX6, "TimberListModel", TX6, 15, rfl, u_X6, by decide, Or.inl (tm_in5 26 rfl rfl), Or.inl rfl⟩
theorem f_X6_39 : tm_f RX6 39 7 1 := ⟨RX6, "TimberListModel", TX6, 15, rfl, u_X6, by decide, Or.inl (tm_in5 27 rfl rfl), Or.inl rfl⟩
theorem k_X6_42 : tm_ks RX6 42 M_X6_isIn 3 := ⟨tm_in5 81 rfl rfl, tm_in5 82 rfl rfl, trivial, tm_in1 5 rfl rfl, tm_in5 83 rfl rfl, ⟨by decide, by decide⟩, by decide +kernel⟩
theorem f_X6_46 : tm_f RX6 46 7 5 := ⟨RX6, "TimberListModel", TX6, 15, rfl, u_X6, by decide, Or.inl (tm_in5 31 rfl rfl), Or.inl rfl⟩
theorem k_X6_49 : tm_kv RX6 49 M_X6_fail 1 := ⟨tm_in5 84 rfl rfl, tm_in5 86 rfl rfl, tm_inS 39 rfl rfl, tm_in1 5 rfl rfl, tm_in5 87 rfl rfl, ⟨by decide, by decide⟩, by decide +kernel⟩
theorem k_X6_53 : tm_kv RX6 53 M_X6_isBoard 1 := ⟨tm_in5 92 rfl rfl, tm_in5 94 rfl rfl, tm_inS 40 rfl rfl, tm_in1 5 rfl rfl, tm_in5 95 rfl rfl, ⟨by decide, by decide⟩, by decide +kernel⟩
theorem k_X6_57 : tm_kv RX6 57 M_X6_length 1 := ⟨tm_in5 96 rfl rfl, tm_in5 98 rfl rfl, tm_inS 41 rfl rfl, tm_in1 5 rfl rfl, tm_in5 99 rfl rfl, ⟨by decide, by decide⟩, by decide +kernel⟩
theorem f_X6_60 : tm_f RX6 60 7 3 := ⟨RX6, "TimberListModel", TX6, 15, rfl, u_X6, by decide, Or.inl (tm_in5 29 rfl rfl), Or.inl rfl⟩
theorem f_X6_63 : tm_f RX6 63 7 10 := ⟨RX6, "TimberListModel", TX6, 15, rfl, u_X6, by decide, Or.inl (tm_in5 36 rfl rfl), Or.inl rfl⟩
theorem k_X6_66 : tm_kv RX6 66 M_X6_isOn 2 := ⟨tm_in5 100 rfl rfl, tm_in5 102 rfl rfl, tm_inS 42 rfl rfl, tm_in1 5 rfl rfl, tm_in5 103 rfl rfl, ⟨by decide, by decide⟩, by decide +kernel⟩
theorem k_X6_70 : tm_kv RX6 70 M_X6_from 1 := ⟨tm_in5 104 rfl rfl, tm_in5 106 rfl rfl, tm_inS 43 rfl rfl, tm_in1 5 rfl rfl, tm_in5 107 rfl rfl, ⟨by decide, by decide⟩, by decide +kernel⟩
theorem k_X6_73 : tm_kv RX6 73 M_X6_to 1 := ⟨tm_in5 108 rfl rfl, tm_in5 110 rfl rfl, tm_inS 44 rfl rfl, tm_in1 5 rfl rfl, tm_in5 111 rfl rfl, ⟨by decide, by decide⟩, by decide +kernel⟩
theorem k_X6_76 : tm_kv RX6 76 M_X6_partOf 1 := ⟨tm_in5 112 rfl rfl, tm_in5 114 rfl rfl, tm_inS 45 rfl rfl, tm_in1 5 rfl rfl, tm_in5 115 rfl rfl, ⟨by decide, by decide⟩, by decide +kernel⟩
theorem k_X6_79 : tm_kv RX6 79 M_X6_want 2 := ⟨tm_in5 116 rfl rfl, tm_in5 118 rfl rfl, tm_inS 46 rfl rfl, tm_in1 5 rfl rfl, tm_in5 119 rfl rfl, ⟨by decide, by decide⟩, by decide +kernel⟩
theorem k_X6_88 : tm_kv RX6 88 M_X6_gradeAt 2 := ⟨tm_in5 136 rfl rfl, tm_in5 138 rfl rfl, tm_inS 47 rfl rfl, tm_in1 5 rfl rfl, tm_in5 139 rfl rfl, ⟨by decide, by decide⟩, by decide +kernel⟩
theorem f_X6_94 : tm_f RX6 94 7 13 := ⟨RX6, "TimberListModel", TX6, 15, rfl, u_X6, by decide, Or.inl (tm_in5 39 rfl rfl), Or.inl rfl⟩
theorem k_X6_97 : tm_kv RX6 97 M_X6_nextChange 2 := ⟨tm_in5 149 rfl rfl, tm_in5 151 rfl rfl, tm_inS 49 rfl rfl, tm_in1 5 rfl rfl, tm_in5 152 rfl rfl, ⟨by decide, by decide⟩, by decide +kernel⟩
theorem f_X6_100 : tm_f RX6 100 7 14 := ⟨RX6, "TimberListModel", TX6, 15, rfl, u_X6, by decide, Or.inl (tm_in5 40 rfl rfl), Or.inl rfl⟩
theorem k_X6_103 : tm_kv RX6 103 M_X6_goOver 3 := ⟨tm_in5 145 rfl rfl, tm_in5 147 rfl rfl, tm_inS 48 rfl rfl, tm_in1 5 rfl rfl, tm_in5 148 rfl rfl, ⟨by decide, by decide⟩, by decide +kernel⟩
theorem k_X6_107 : tm_kv RX6 107 M_X6_width 1 := ⟨tm_in5 174 rfl rfl, tm_in5 176 rfl rfl, tm_inS 53 rfl rfl, tm_in1 5 rfl rfl, tm_in5 177 rfl rfl, ⟨by decide, by decide⟩, by decide +kernel⟩
theorem k_X6_110 : tm_kv RX6 110 M_X6_onward 4 := ⟨tm_in5 170 rfl rfl, tm_in5 172 rfl rfl, tm_inS 52 rfl rfl, tm_in1 5 rfl rfl, tm_in5 173 rfl rfl, ⟨by decide, by decide⟩, by decide +kernel⟩
theorem k_X6_114 : tm_kv RX6 114 M_X6_isPart 1 := ⟨tm_in5 162 rfl rfl, tm_in5 164 rfl rfl, tm_inS 50 rfl rfl, tm_in1 5 rfl rfl, tm_in5 165 rfl rfl, ⟨by decide, by decide⟩, by decide +kernel⟩
theorem k_X6_117 : tm_kv RX6 117 M_X6_isPossible 4 := ⟨tm_in5 166 rfl rfl, tm_in5 168 rfl rfl, tm_inS 51 rfl rfl, tm_in1 5 rfl rfl, tm_in5 169 rfl rfl, ⟨by decide, by decide⟩, by decide +kernel⟩
theorem k_X6_121 : tm_kv RX6 121 M_X6_earliestOn 2 := ⟨tm_in5 182 rfl rfl, tm_in5 184 rfl rfl, tm_inS 54 rfl rfl, tm_in1 5 rfl rfl, tm_in5 185 rfl rfl, ⟨by decide, by decide⟩, by decide +kernel⟩
theorem k_X6_124 : tm_kv RX6 124 M_X6_add 5 := ⟨tm_in5 190 rfl rfl, tm_in5 192 rfl rfl, tm_inS 55 rfl rfl, tm_in1 5 rfl rfl, tm_in5 193 rfl rfl, ⟨by decide, by decide⟩, by decide +kernel⟩
theorem k_X6_128 : tm_kv RX6 128 M_X6_lessLeft 1 := ⟨tm_in5 194 rfl rfl, tm_in5 196 rfl rfl, tm_inS 56 rfl rfl, tm_in1 5 rfl rfl, tm_in5 197 rfl rfl, ⟨by decide, by decide⟩, by decide +kernel⟩
theorem k_X6_131 : tm_kv RX6 131 M_X6_isAhead 2 := ⟨tm_in5 214 rfl rfl, tm_in5 216 rfl rfl, tm_inS 58 rfl rfl, tm_in1 5 rfl rfl, tm_in5 217 rfl rfl, ⟨by decide, by decide⟩, by decide +kernel⟩
theorem k_X6_134 : tm_kv RX6 134 M_X6_roomTo 2 := ⟨tm_in5 218 rfl rfl, tm_in5 220 rfl rfl, tm_inS 59 rfl rfl, tm_in1 5 rfl rfl, tm_in5 221 rfl rfl, ⟨by decide, by decide⟩, by decide +kernel⟩
theorem k_X6_137 : tm_kv RX6 137 M_X6_roomFrom 2 := ⟨tm_in5 222 rfl rfl, tm_in5 224 rfl rfl, tm_inS 60 rfl rfl, tm_in1 5 rfl rfl, tm_in5 225 rfl rfl, ⟨by decide, by decide⟩, by decide +kernel⟩
theorem k_X6_140 : tm_kv RX6 140 M_X6_planOne 0 := ⟨tm_in5 210 rfl rfl, tm_in5 212 rfl rfl, tm_inS 57 rfl rfl, tm_in1 5 rfl rfl, tm_in5 213 rfl rfl, ⟨by decide, by decide⟩, by decide +kernel⟩
theorem k_X6_144 : tm_kv RX6 144 M_X6_piecesOf 1 := ⟨tm_in5 234 rfl rfl, tm_in5 236 rfl rfl, tm_inS 61 rfl rfl, tm_in1 5 rfl rfl, tm_in5 237 rfl rfl, ⟨by decide, by decide⟩, by decide +kernel⟩
theorem k_X6_147 : tm_kv RX6 147 M_X6_pieceFrom 2 := ⟨tm_in6 2 rfl rfl, tm_in6 4 rfl rfl, tm_inS 62 rfl rfl, tm_in1 5 rfl rfl, tm_in6 5 rfl rfl, ⟨by decide, by decide⟩, by decide +kernel⟩
theorem k_X6_150 : tm_kv RX6 150 M_X6_told 2 := ⟨tm_in6 6 rfl rfl, tm_in6 8 rfl rfl, tm_inS 63 rfl rfl, tm_in1 5 rfl rfl, tm_in6 9 rfl rfl, ⟨by decide, by decide⟩, by decide +kernel⟩
theorem w_X6_153 : (Cond.constantLong "TimberListModel" (153 : Nat) (8339 : Int64)) ∈ ALL := tm_in6 30 rfl rfl
theorem w_X6_155 : (Cond.constantLong "TimberListModel" (155 : Nat) (31 : Int64)) ∈ ALL := tm_in6 31 rfl rfl
theorem k_L_7 : tm_kv RL 7 M_X5_addBoard 3 := ⟨tm_in3 152 rfl rfl, tm_in3 153 rfl rfl, tm_in3 154 rfl rfl, tm_in1 1 rfl rfl, tm_in3 155 rfl rfl, ⟨by decide, by decide⟩, by decide +kernel⟩
theorem k_L_17 : tm_kv RL 17 M_X5_addDefect 4 := ⟨tm_in3 210 rfl rfl, tm_in3 211 rfl rfl, tm_in3 212 rfl rfl, tm_in1 1 rfl rfl, tm_in3 213 rfl rfl, ⟨by decide, by decide⟩, by decide +kernel⟩
theorem k_L_23 : tm_kv RL 23 M_X5_addPart 5 := ⟨tm_in4 14 rfl rfl, tm_in4 15 rfl rfl, tm_in4 16 rfl rfl, tm_in1 1 rfl rfl, tm_in4 17 rfl rfl, ⟨by decide, by decide⟩, by decide +kernel⟩
theorem k_L_27 : tm_kv RL 27 M_X5_setSaw 1 := ⟨tm_in4 66 rfl rfl, tm_in4 67 rfl rfl, tm_in4 68 rfl rfl, tm_in1 1 rfl rfl, tm_in4 69 rfl rfl, ⟨by decide, by decide⟩, by decide +kernel⟩
theorem k_L_31 : tm_kv RL 31 M_X5_setJoint 1 := ⟨tm_in4 75 rfl rfl, tm_in4 76 rfl rfl, tm_in4 77 rfl rfl, tm_in1 1 rfl rfl, tm_in4 78 rfl rfl, ⟨by decide, by decide⟩, by decide +kernel⟩
theorem k_L_34 : tm_kv RL 34 M_X5_grade 2 := ⟨tm_in4 83 rfl rfl, tm_in4 84 rfl rfl, tm_in4 85 rfl rfl, tm_in1 1 rfl rfl, tm_in4 86 rfl rfl, ⟨by decide, by decide⟩, by decide +kernel⟩
theorem k_L_38 : tm_kv RL 38 M_X5_stretches 2 := ⟨tm_in4 95 rfl rfl, tm_in4 96 rfl rfl, tm_in4 97 rfl rfl, tm_in1 1 rfl rfl, tm_in4 98 rfl rfl, ⟨by decide, by decide⟩, by decide +kernel⟩
theorem k_L_41 : tm_kv RL 41 M_X5_stretch 4 := ⟨tm_in4 114 rfl rfl, tm_in4 115 rfl rfl, tm_in4 116 rfl rfl, tm_in1 1 rfl rfl, tm_in4 117 rfl rfl, ⟨by decide, by decide⟩, by decide +kernel⟩
theorem k_L_45 : tm_kv RL 45 M_X5_fits 3 := ⟨tm_in4 127 rfl rfl, tm_in4 128 rfl rfl, tm_in4 129 rfl rfl, tm_in1 1 rfl rfl, tm_in4 130 rfl rfl, ⟨by decide, by decide⟩, by decide +kernel⟩
theorem k_L_49 : tm_kv RL 49 M_X5_earliest 2 := ⟨tm_in4 151 rfl rfl, tm_in4 152 rfl rfl, tm_in4 153 rfl rfl, tm_in1 1 rfl rfl, tm_in4 154 rfl rfl, ⟨by decide, by decide⟩, by decide +kernel⟩
theorem k_L_52 : tm_kv RL 52 M_X5_cut 3 := ⟨tm_in4 158 rfl rfl, tm_in4 159 rfl rfl, tm_in4 160 rfl rfl, tm_in1 1 rfl rfl, tm_in4 161 rfl rfl, ⟨by decide, by decide⟩, by decide +kernel⟩
theorem k_L_55 : tm_kv RL 55 M_X5_join 6 := ⟨tm_in4 167 rfl rfl, tm_in4 168 rfl rfl, tm_in4 169 rfl rfl, tm_in1 1 rfl rfl, tm_in4 170 rfl rfl, ⟨by decide, by decide⟩, by decide +kernel⟩
theorem k_L_59 : tm_kv RL 59 M_X5_undo 0 := ⟨tm_in4 179 rfl rfl, tm_in4 180 rfl rfl, tm_in4 181 rfl rfl, tm_in1 1 rfl rfl, tm_in4 182 rfl rfl, ⟨by decide, by decide⟩, by decide +kernel⟩
theorem k_L_63 : tm_kv RL 63 M_X5_left 1 := ⟨tm_in4 200 rfl rfl, tm_in4 201 rfl rfl, tm_in4 202 rfl rfl, tm_in1 1 rfl rfl, tm_in4 203 rfl rfl, ⟨by decide, by decide⟩, by decide +kernel⟩
theorem k_L_66 : tm_kv RL 66 M_X5_pieces 1 := ⟨tm_in4 207 rfl rfl, tm_in4 208 rfl rfl, tm_in4 209 rfl rfl, tm_in1 1 rfl rfl, tm_in4 210 rfl rfl, ⟨by decide, by decide⟩, by decide +kernel⟩
theorem k_L_69 : tm_kv RL 69 M_X5_piece 3 := ⟨tm_in4 214 rfl rfl, tm_in4 215 rfl rfl, tm_in4 216 rfl rfl, tm_in1 1 rfl rfl, tm_in4 217 rfl rfl, ⟨by decide, by decide⟩, by decide +kernel⟩
theorem k_L_72 : tm_kv RL 72 M_X5_cuts 1 := ⟨tm_in4 223 rfl rfl, tm_in4 224 rfl rfl, tm_in4 225 rfl rfl, tm_in1 1 rfl rfl, tm_in4 226 rfl rfl, ⟨by decide, by decide⟩, by decide +kernel⟩
theorem k_L_75 : tm_kv RL 75 M_X5_longestRoom 1 := ⟨tm_in4 234 rfl rfl, tm_in4 235 rfl rfl, tm_in4 236 rfl rfl, tm_in1 1 rfl rfl, tm_in4 237 rfl rfl, ⟨by decide, by decide⟩, by decide +kernel⟩
theorem k_L_78 : tm_kv RL 78 M_X5_bestUse 3 := ⟨tm_in5 5 rfl rfl, tm_in5 6 rfl rfl, tm_in5 7 rfl rfl, tm_in1 1 rfl rfl, tm_in5 8 rfl rfl, ⟨by decide, by decide⟩, by decide +kernel⟩
theorem n_L_8 : tm_nw9 RL 8 6 [.null, .null, .null, .null, .null, .int (I 0), .int (I 0), .int (I 0)] := ⟨RX5, TX5, 8, tyX5, rfl, u_X5, tyX5_ok, tm_in1 30 rfl rfl, tm_in1 31 rfl rfl, tm_in1 1 rfl rfl, rfl, by decide⟩
theorem k_L_81 : tm_ki RL 81 M_X5_init 0 := ⟨tm_in1 32 rfl rfl, tm_in1 33 rfl rfl, ⟨rfl, rfl⟩, tm_in1 1 rfl rfl, tm_in1 34 rfl rfl, ⟨by decide, by decide⟩, by decide +kernel⟩
theorem n_L_82 : tm_nw9 RL 82 7 [.int (I 0), .int (I 0), .null, .int (I 0), .null, .int (I 0), .null, .null, .int (I 0), .int (I 0), .int (I 0), .null, .null, .int (I 0), .int (I 0)] := ⟨RX6, TX6, 15, tyX6, rfl, u_X6, tyX6_ok, tm_in5 20 rfl rfl, tm_in5 21 rfl rfl, tm_in1 5 rfl rfl, rfl, by decide⟩
theorem k_L_84 : tm_ki RL 84 M_X6_init 0 := ⟨tm_in5 22 rfl rfl, tm_in5 23 rfl rfl, ⟨rfl, rfl⟩, tm_in1 5 rfl rfl, tm_in5 24 rfl rfl, ⟨by decide, by decide⟩, by decide +kernel⟩
theorem k_L_90 : tm_kv RL 90 M_X6_addBoard 3 := ⟨tm_in5 77 rfl rfl, tm_in5 78 rfl rfl, tm_in5 79 rfl rfl, tm_in1 5 rfl rfl, tm_in5 80 rfl rfl, ⟨by decide, by decide⟩, by decide +kernel⟩
theorem k_L_91 : tm_kv RL 91 M_X6_thrown 0 := ⟨tm_in5 73 rfl rfl, tm_in5 74 rfl rfl, tm_in5 75 rfl rfl, tm_in1 5 rfl rfl, tm_in5 76 rfl rfl, ⟨by decide, by decide⟩, by decide +kernel⟩
theorem k_L_97 : tm_kv RL 97 M_X6_addDefect 4 := ⟨tm_in5 88 rfl rfl, tm_in5 89 rfl rfl, tm_in5 90 rfl rfl, tm_in1 5 rfl rfl, tm_in5 91 rfl rfl, ⟨by decide, by decide⟩, by decide +kernel⟩
theorem k_L_101 : tm_kv RL 101 M_X6_addPart 5 := ⟨tm_in5 120 rfl rfl, tm_in5 121 rfl rfl, tm_in5 122 rfl rfl, tm_in1 5 rfl rfl, tm_in5 123 rfl rfl, ⟨by decide, by decide⟩, by decide +kernel⟩
theorem k_L_105 : tm_kv RL 105 M_X6_setSaw 1 := ⟨tm_in5 124 rfl rfl, tm_in5 125 rfl rfl, tm_in5 126 rfl rfl, tm_in1 5 rfl rfl, tm_in5 127 rfl rfl, ⟨by decide, by decide⟩, by decide +kernel⟩
theorem k_L_108 : tm_kv RL 108 M_X6_setJoint 1 := ⟨tm_in5 128 rfl rfl, tm_in5 129 rfl rfl, tm_in5 130 rfl rfl, tm_in1 5 rfl rfl, tm_in5 131 rfl rfl, ⟨by decide, by decide⟩, by decide +kernel⟩
theorem k_L_112 : tm_kv RL 112 M_X6_grade 2 := ⟨tm_in5 132 rfl rfl, tm_in5 133 rfl rfl, tm_in5 134 rfl rfl, tm_in1 5 rfl rfl, tm_in5 135 rfl rfl, ⟨by decide, by decide⟩, by decide +kernel⟩
theorem k_L_115 : tm_kv RL 115 M_X6_stretches 2 := ⟨tm_in5 141 rfl rfl, tm_in5 142 rfl rfl, tm_in5 143 rfl rfl, tm_in1 5 rfl rfl, tm_in5 144 rfl rfl, ⟨by decide, by decide⟩, by decide +kernel⟩
theorem k_L_119 : tm_kv RL 119 M_X6_stretch 4 := ⟨tm_in5 154 rfl rfl, tm_in5 155 rfl rfl, tm_in5 156 rfl rfl, tm_in1 5 rfl rfl, tm_in5 157 rfl rfl, ⟨by decide, by decide⟩, by decide +kernel⟩
theorem k_L_122 : tm_kv RL 122 M_X6_fits 3 := ⟨tm_in5 158 rfl rfl, tm_in5 159 rfl rfl, tm_in5 160 rfl rfl, tm_in1 5 rfl rfl, tm_in5 161 rfl rfl, ⟨by decide, by decide⟩, by decide +kernel⟩
theorem k_L_125 : tm_kv RL 125 M_X6_earliest 2 := ⟨tm_in5 178 rfl rfl, tm_in5 179 rfl rfl, tm_in5 180 rfl rfl, tm_in1 5 rfl rfl, tm_in5 181 rfl rfl, ⟨by decide, by decide⟩, by decide +kernel⟩
theorem k_L_128 : tm_kv RL 128 M_X6_cut 3 := ⟨tm_in5 186 rfl rfl, tm_in5 187 rfl rfl, tm_in5 188 rfl rfl, tm_in1 5 rfl rfl, tm_in5 189 rfl rfl, ⟨by decide, by decide⟩, by decide +kernel⟩
theorem k_L_132 : tm_kv RL 132 M_X6_join 6 := ⟨tm_in5 198 rfl rfl, tm_in5 199 rfl rfl, tm_in5 200 rfl rfl, tm_in1 5 rfl rfl, tm_in5 201 rfl rfl, ⟨by decide, by decide⟩, by decide +kernel⟩
theorem k_L_136 : tm_kv RL 136 M_X6_undo 0 := ⟨tm_in5 202 rfl rfl, tm_in5 203 rfl rfl, tm_in5 204 rfl rfl, tm_in1 5 rfl rfl, tm_in5 205 rfl rfl, ⟨by decide, by decide⟩, by decide +kernel⟩
theorem k_L_137 : tm_kv RL 137 M_X5_plan 0 := ⟨tm_in1 90 rfl rfl, tm_in1 91 rfl rfl, tm_in1 92 rfl rfl, tm_in1 1 rfl rfl, tm_in1 93 rfl rfl, ⟨by decide, by decide⟩, by decide +kernel⟩
theorem k_L_140 : tm_kv RL 140 M_X6_plan 0 := ⟨tm_in5 206 rfl rfl, tm_in5 207 rfl rfl, tm_in5 208 rfl rfl, tm_in1 5 rfl rfl, tm_in5 209 rfl rfl, ⟨by decide, by decide⟩, by decide +kernel⟩
theorem k_L_143 : tm_kv RL 143 M_X6_left 1 := ⟨tm_in5 226 rfl rfl, tm_in5 227 rfl rfl, tm_in5 228 rfl rfl, tm_in1 5 rfl rfl, tm_in5 229 rfl rfl, ⟨by decide, by decide⟩, by decide +kernel⟩
theorem k_L_146 : tm_kv RL 146 M_X6_pieces 1 := ⟨tm_in5 230 rfl rfl, tm_in5 231 rfl rfl, tm_in5 232 rfl rfl, tm_in1 5 rfl rfl, tm_in5 233 rfl rfl, ⟨by decide, by decide⟩, by decide +kernel⟩
theorem k_L_149 : tm_kv RL 149 M_X6_piece 3 := ⟨tm_in5 238 rfl rfl, tm_in5 239 rfl rfl, tm_in6 0 rfl rfl, tm_in1 5 rfl rfl, tm_in6 1 rfl rfl, ⟨by decide, by decide⟩, by decide +kernel⟩
theorem k_L_152 : tm_kv RL 152 M_X6_cuts 1 := ⟨tm_in6 10 rfl rfl, tm_in6 11 rfl rfl, tm_in6 12 rfl rfl, tm_in1 5 rfl rfl, tm_in6 13 rfl rfl, ⟨by decide, by decide⟩, by decide +kernel⟩
theorem k_L_155 : tm_kv RL 155 M_X6_longestRoom 1 := ⟨tm_in6 14 rfl rfl, tm_in6 15 rfl rfl, tm_in6 16 rfl rfl, tm_in1 5 rfl rfl, tm_in6 17 rfl rfl, ⟨by decide, by decide⟩, by decide +kernel⟩
theorem k_L_158 : tm_kv RL 158 M_X6_bestUse 3 := ⟨tm_in6 18 rfl rfl, tm_in6 19 rfl rfl, tm_in6 20 rfl rfl, tm_in1 5 rfl rfl, tm_in6 21 rfl rfl, ⟨by decide, by decide⟩, by decide +kernel⟩
theorem k_L_159 : tm_kv RL 159 M_X5_used 0 := ⟨tm_in3 119 rfl rfl, tm_in3 120 rfl rfl, tm_in3 121 rfl rfl, tm_in1 1 rfl rfl, tm_in3 122 rfl rfl, ⟨by decide, by decide⟩, by decide +kernel⟩
theorem k_L_163 : tm_kv RL 163 M_X6_used 0 := ⟨tm_in6 22 rfl rfl, tm_in6 23 rfl rfl, tm_in6 24 rfl rfl, tm_in1 5 rfl rfl, tm_in6 25 rfl rfl, ⟨by decide, by decide⟩, by decide +kernel⟩
theorem k_L_164 : tm_kv RL 164 M_X5_digest 0 := ⟨tm_in3 131 rfl rfl, tm_in3 132 rfl rfl, tm_in3 133 rfl rfl, tm_in1 1 rfl rfl, tm_in3 134 rfl rfl, ⟨by decide, by decide⟩, by decide +kernel⟩
theorem k_L_168 : tm_kv RL 168 M_X6_digest 0 := ⟨tm_in6 26 rfl rfl, tm_in6 27 rfl rfl, tm_in6 28 rfl rfl, tm_in1 5 rfl rfl, tm_in6 29 rfl rfl, ⟨by decide, by decide⟩, by decide +kernel⟩
theorem x_X0_1 : Cond.methodLink RX0 1 objectInit ∈ ALL ∧ Cond.instanceMethod objectInit ∈ ALL ∧ Cond.code objectInit ⟨#[0xb1]⟩ 1 none ∈ ALL := ⟨tm_in3 184 rfl rfl, tm_in1 36 rfl rfl, tm_in1 37 rfl rfl⟩
theorem x_X0_64 : Cond.methodLink RX0 64 Lib.Math.max.name ∈ ALL ∧ Cond.static Lib.Math.max.name ∈ ALL ∧ Cond.initialized "java/lang/Math" ∈ ALL ∧ Cond.code Lib.Math.max.name Lib.Math.max.code 2 (some .int) ∈ ALL := ⟨tm_in1 147 rfl rfl, tm_in1 148 rfl rfl, tm_in1 13 rfl rfl, tm_in1 149 rfl rfl⟩
theorem x_X1_1 : Cond.methodLink RX1 1 objectInit ∈ ALL ∧ Cond.instanceMethod objectInit ∈ ALL ∧ Cond.code objectInit ⟨#[0xb1]⟩ 1 none ∈ ALL := ⟨tm_in1 195 rfl rfl, tm_in1 36 rfl rfl, tm_in1 37 rfl rfl⟩
theorem x_X2_1 : Cond.methodLink RX2 1 objectInit ∈ ALL ∧ Cond.instanceMethod objectInit ∈ ALL ∧ Cond.code objectInit ⟨#[0xb1]⟩ 1 none ∈ ALL := ⟨tm_in3 233 rfl rfl, tm_in1 36 rfl rfl, tm_in1 37 rfl rfl⟩
theorem x_X3_1 : Cond.methodLink RX3 1 objectInit ∈ ALL ∧ Cond.instanceMethod objectInit ∈ ALL ∧ Cond.code objectInit ⟨#[0xb1]⟩ 1 none ∈ ALL := ⟨tm_in4 24 rfl rfl, tm_in1 36 rfl rfl, tm_in1 37 rfl rfl⟩
theorem x_X4_1 : Cond.methodLink RX4 1 objectInit ∈ ALL ∧ Cond.instanceMethod objectInit ∈ ALL ∧ Cond.code objectInit ⟨#[0xb1]⟩ 1 none ∈ ALL := ⟨tm_in1 169 rfl rfl, tm_in1 36 rfl rfl, tm_in1 37 rfl rfl⟩
theorem x_X5_1 : Cond.methodLink RX5 1 objectInit ∈ ALL ∧ Cond.instanceMethod objectInit ∈ ALL ∧ Cond.code objectInit ⟨#[0xb1]⟩ 1 none ∈ ALL := ⟨tm_in1 35 rfl rfl, tm_in1 36 rfl rfl, tm_in1 37 rfl rfl⟩
theorem x_X5_255 : Cond.methodLink RX5 255 Lib.Math.min.name ∈ ALL ∧ Cond.static Lib.Math.min.name ∈ ALL ∧ Cond.initialized "java/lang/Math" ∈ ALL ∧ Cond.code Lib.Math.min.name Lib.Math.min.code 2 (some .int) ∈ ALL := ⟨tm_in5 10 rfl rfl, tm_in2 102 rfl rfl, tm_in1 13 rfl rfl, tm_in2 103 rfl rfl⟩
theorem x_X5_310 : Cond.methodLink RX5 310 Lib.Math.max.name ∈ ALL ∧ Cond.static Lib.Math.max.name ∈ ALL ∧ Cond.initialized "java/lang/Math" ∈ ALL ∧ Cond.code Lib.Math.max.name Lib.Math.max.code 2 (some .int) ∈ ALL := ⟨tm_in5 19 rfl rfl, tm_in1 148 rfl rfl, tm_in1 13 rfl rfl, tm_in1 149 rfl rfl⟩
theorem x_X6_3 : Cond.methodLink RX6 3 objectInit ∈ ALL ∧ Cond.instanceMethod objectInit ∈ ALL ∧ Cond.code objectInit ⟨#[0xb1]⟩ 1 none ∈ ALL := ⟨tm_in5 25 rfl rfl, tm_in1 36 rfl rfl, tm_in1 37 rfl rfl⟩
theorem x_X6_83 : Cond.methodLink RX6 83 Lib.Math.max.name ∈ ALL ∧ Cond.static Lib.Math.max.name ∈ ALL ∧ Cond.initialized "java/lang/Math" ∈ ALL ∧ Cond.code Lib.Math.max.name Lib.Math.max.code 2 (some .int) ∈ ALL := ⟨tm_in5 140 rfl rfl, tm_in1 148 rfl rfl, tm_in1 13 rfl rfl, tm_in1 149 rfl rfl⟩
theorem x_X6_91 : Cond.methodLink RX6 91 Lib.Math.min.name ∈ ALL ∧ Cond.static Lib.Math.min.name ∈ ALL ∧ Cond.initialized "java/lang/Math" ∈ ALL ∧ Cond.code Lib.Math.min.name Lib.Math.min.code 2 (some .int) ∈ ALL := ⟨tm_in5 153 rfl rfl, tm_in2 102 rfl rfl, tm_in1 13 rfl rfl, tm_in2 103 rfl rfl⟩
theorem x_Jxa1e45_1 : Cond.methodLink RJxa1e45 1 objectInit ∈ ALL ∧ Cond.instanceMethod objectInit ∈ ALL ∧ Cond.code objectInit ⟨#[0xb1]⟩ 1 none ∈ ALL := ⟨tm_in1 49 rfl rfl, tm_in1 36 rfl rfl, tm_in1 37 rfl rfl⟩
theorem x_Jx4a65c_112 : tm_cw RJx4a65c 112 := ⟨tm_in3 110 rfl rfl, tm_in2 106 rfl rfl, tm_in2 105 rfl rfl, tm_in1 15 rfl rfl⟩
theorem x_Jx4a65c_79 : Cond.methodLink RJx4a65c 79 Lib.Math.max.name ∈ ALL ∧ Cond.static Lib.Math.max.name ∈ ALL ∧ Cond.initialized "java/lang/Math" ∈ ALL ∧ Cond.code Lib.Math.max.name Lib.Math.max.code 2 (some .int) ∈ ALL := ⟨tm_in3 108 rfl rfl, tm_in1 148 rfl rfl, tm_in1 13 rfl rfl, tm_in1 149 rfl rfl⟩
theorem x_J7_150 : tm_cw RJ7 150 := ⟨tm_in2 104 rfl rfl, tm_in2 106 rfl rfl, tm_in2 105 rfl rfl, tm_in1 15 rfl rfl⟩
theorem x_J7_304 : Cond.methodLink RJ7 304 Lib.Math.min.name ∈ ALL ∧ Cond.static Lib.Math.min.name ∈ ALL ∧ Cond.initialized "java/lang/Math" ∈ ALL ∧ Cond.code Lib.Math.min.name Lib.Math.min.code 2 (some .int) ∈ ALL := ⟨tm_in2 101 rfl rfl, tm_in2 102 rfl rfl, tm_in1 13 rfl rfl, tm_in2 103 rfl rfl⟩
theorem x_J7_86 : Cond.methodLink RJ7 86 tm_gc ∈ ALL ∧ Cond.declares tm_gc ∈ NW ∧ Cond.selects "[Ljava/lang/Object;" tm_gc tm_gc ∈ ALL ∧ Cond.instanceMethod tm_gc ∈ ALL ∧ Cond.native tm_gc ∈ ALL := ⟨tm_in3 85 rfl rfl, tm_nn6 58 rfl rfl, tm_in6 57 rfl rfl, tm_in3 86 rfl rfl, tm_in3 101 rfl rfl⟩
theorem x_J8_194 : Cond.methodLink RJ8 194 Lib.Math.max.name ∈ ALL ∧ Cond.static Lib.Math.max.name ∈ ALL ∧ Cond.initialized "java/lang/Math" ∈ ALL ∧ Cond.code Lib.Math.max.name Lib.Math.max.code 2 (some .int) ∈ ALL := ⟨tm_in2 85 rfl rfl, tm_in1 148 rfl rfl, tm_in1 13 rfl rfl, tm_in1 149 rfl rfl⟩
theorem w_arr_int : Cond.arrayClass .int ∈ ALL := tm_in1 89 rfl rfl
theorem w_arr_boolean : Cond.arrayClass .boolean ∈ ALL := tm_in5 72 rfl rfl
theorem w_arr_long : Cond.arrayClass .long ∈ ALL := tm_in6 32 rfl rfl
theorem w_el_X0 : Cond.castable RX0 "java/lang/Object" ∈ NW := tm_nn6 47 rfl rfl
theorem w_el_X1 : Cond.castable RX1 "java/lang/Object" ∈ NW := tm_nn6 53 rfl rfl
theorem w_el_X2 : Cond.castable RX2 "java/lang/Object" ∈ NW := tm_nn6 49 rfl rfl
theorem w_el_X3 : Cond.castable RX3 "java/lang/Object" ∈ NW := tm_nn6 52 rfl rfl
theorem w_el_X4 : Cond.castable RX4 "java/lang/Object" ∈ NW := tm_nn6 54 rfl rfl
end
section
/-! The world with lists: an address holds a plain cell, or a java.util.ArrayList with its elements. -/
abbrev tmL : Type := Nat → Option (va_E ⊕ List Nat)
def tm_u2 (Λ : tmL) (a : Nat) (e : va_E) : tmL := fun b => if b = a then some (.inl e) else Λ b
def tm_ul (Λ : tmL) (a : Nat) (xs : List Nat) : tmL := fun b => if b = a then some (.inr xs) else Λ b
theorem tm_u2_s {Λ : tmL} {a : Nat} {e : va_E} : tm_u2 Λ a e a = some (.inl e) := if_pos rfl
theorem tm_u2_n {Λ : tmL} {a b : Nat} {e : va_E} (h : b ≠ a) : tm_u2 Λ a e b = Λ b := if_neg h
theorem tm_ul_s {Λ : tmL} {a : Nat} {e : List Nat} : tm_ul Λ a e a = some (.inr e) := if_pos rfl
theorem tm_ul_n {Λ : tmL} {a b : Nat} {e : List Nat} (h : b ≠ a) : tm_ul Λ a e b = Λ b := if_neg h
/-- the list at a, with its array at d -/
def tm_ls (T : ClassId × ClassId × ClassId × ClassId) (e0 : Nat) (Ω : tmO) (a d : Nat) (xs : List Nat) : Prop := ∃ (mc : Int32) (cap : Nat) (f : Nat → Option Nat), Ω a = some (.inr (0, [.int mc, .ref d, .int (I xs.length)])) ∧ (d ≠ e0 → Ω d = some (tm_ao T cap f) ∧ (∀ i, i < xs.length → f i = xs[i]?) ∧ xs.length ≤ cap ∧ cap ≤ 400 ∧ 10 ≤ cap) ∧ (d = e0 → xs = [])
def tm_el2 (Λ : tmL) (a : Nat) : Prop := ∃ (ci : Nat) (fs : List Value) (r : vw_C), Λ a = some (.inl (.inr (ci, fs))) ∧ classes[ci]? = some r ∧ Cond.castable r.1 "java/lang/Object" ∈ NW ∧ ci ≠ 0
def tm_lw (T : ClassId × ClassId × ClassId × ClassId) (e0 : Nat) (Λ : tmL) (Ω : tmO) : Prop := ∃ E : Nat → Nat,
  (∀ a e, Λ a = some (.inl e) → Ω a = some e) ∧ (∀ a xs, Λ a = some (.inr xs) → tm_ls T e0 Ω a (E a) xs ∧ (E a ≠ e0 → Λ (E a) = none) ∧ ∀ v ∈ xs, tm_el2 Λ v) ∧
  (∀ a b xs ys, Λ a = some (.inr xs) → Λ b = some (.inr ys) → E a = E b → E a ≠ e0 → a = b) ∧ Ω e0 = none
def tm_h2 (D : va_G) (T : ClassId × ClassId × ClassId × ClassId) (e0 : Nat) (Fz : Nat → Prop) (Λ : tmL) (H : Heap) : Prop := ∃ Ω, tm_lw T e0 Λ Ω ∧ tm_hol D Fz Ω H
abbrev tm_H (x : tmX) (Λ : tmL) : Heap → Prop := tm_h2 (tm_D x) (tm_T x) (tm_e0 x) (tm_Fz x) Λ
theorem tm_lw_none {T : ClassId × ClassId × ClassId × ClassId} {e0 : Nat} {Λ : tmL} {Ω : tmO} (h : tm_lw T e0 Λ Ω) {q : Nat} (hq : Ω q = none) : Λ q = none := by
  obtain ⟨E, h1, h2, h3, h4⟩ := h
  cases hΛ : Λ q with
  | none => rfl
  | some z =>
    cases z with
    | inl e => rw [h1 q e hΛ] at hq; cases hq
    | inr xs =>
      obtain ⟨mc, cap, f, g1, -⟩ := (h2 q xs hΛ).1
      rw [g1] at hq; cases hq
theorem tm_lw_e0 {T : ClassId × ClassId × ClassId × ClassId} {e0 : Nat} {Λ : tmL} {Ω : tmO} (h : tm_lw T e0 Λ Ω) : Λ e0 = none := tm_lw_none h h.choose_spec.2.2.2
/-- a plain cell is written: what is a cell stays a cell of its kind (an object of its class), or it is new -/
theorem tm_lw_set {T : ClassId × ClassId × ClassId × ClassId} {e0 : Nat} {Λ : tmL} {Ω : tmO} {a : Nat} {e : va_E} (h : tm_lw T e0 Λ Ω) (ha : (∃ e', Λ a = some (.inl e') ∧ (∀ ci fs, e' = .inr (ci, fs) → ∃ fs', e = .inr (ci, fs'))) ∨ (Ω a = none ∧ a ≠ e0)) : tm_lw T e0 (tm_u2 Λ a e) (tm_up Ω a e) := by
  obtain ⟨E, h1, h2, h3, h4⟩ := id h
  have hal : ∀ xs, Λ a ≠ some (.inr xs) := by
    intro xs hx
    rcases ha with ⟨e', h5, -⟩ | ⟨h5, -⟩
    · rw [h5] at hx; cases hx
    · rw [tm_lw_none h h5] at hx; cases hx
  have hae : a ≠ e0 := by
    rcases ha with ⟨e', h5, -⟩ | ⟨-, h5⟩
    · intro z; rw [z, tm_lw_e0 h] at h5; cases h5
    · exact h5
  have hEa : ∀ q xs, Λ q = some (.inr xs) → E q ≠ a := by
    intro q xs hq z
    obtain ⟨mc, cap, f, g1, g2, g3⟩ := (h2 q xs hq).1
    by_cases hz : E q = e0
    · exact hae (z.symm.trans hz)
    · rcases ha with ⟨e', h5, -⟩ | ⟨h5, -⟩
      · have := (h2 q xs hq).2.1 hz; rw [z, h5] at this; cases this
      · have := (g2 hz).1; rw [z, h5] at this; cases this
  refine ⟨E, fun b e9 hb => ?_, fun b xs hb => ?_, fun b c xs ys hb hc => ?_, by rw [tm_up_n (Ne.symm hae)]; exact h4⟩
  · by_cases hba : b = a
    · subst hba; rw [tm_u2_s] at hb; rw [tm_up_s]; cases hb; rfl
    · rw [tm_u2_n hba] at hb; rw [tm_up_n hba]; exact h1 b e9 hb
  · have hba : b ≠ a := by intro z; subst z; rw [tm_u2_s] at hb; cases hb
    rw [tm_u2_n hba] at hb
    obtain ⟨⟨mc, cap, f, g1, g2, g3⟩, g4, g5⟩ := h2 b xs hb
    refine ⟨⟨mc, cap, f, by rw [tm_up_n hba]; exact g1, fun hz => ?_, g3⟩, fun hz => ?_, fun v hv => ?_⟩
    · rw [tm_up_n (hEa b xs hb)]; exact g2 hz
    · rw [tm_u2_n (hEa b xs hb)]; exact g4 hz
    · obtain ⟨ci, fs, r, k1, k2, k3⟩ := g5 v hv
      by_cases hva : v = a
      · subst hva
        rcases ha with ⟨e', h5, h6⟩ | ⟨h5, -⟩
        · rw [h5] at k1
          obtain ⟨fs', h7⟩ := h6 ci fs (by cases k1; rfl)
          exact ⟨ci, fs', r, by rw [tm_u2_s, h7], k2, k3⟩
        · rw [tm_lw_none h h5] at k1; cases k1
      · exact ⟨ci, fs, r, by rw [tm_u2_n hva]; exact k1, k2, k3⟩
  · have hba : b ≠ a := by intro z; subst z; rw [tm_u2_s] at hb; cases hb
    have hca : c ≠ a := by intro z; subst z; rw [tm_u2_s] at hc; cases hc
    rw [tm_u2_n hba] at hb
    rw [tm_u2_n hca] at hc
    exact h3 b c xs ys hb hc
theorem tm_el_of {T : ClassId × ClassId × ClassId × ClassId} {e0 : Nat} {Λ : tmL} {Ω : tmO} (h : tm_lw T e0 Λ Ω) {v : Nat} (hv : tm_el2 Λ v) : tm_el Ω v := by
  obtain ⟨ci, fs, r, k1, k2, k3⟩ := hv
  exact ⟨ci, fs, r, h.choose_spec.1 v _ k1, k2, k3.1⟩
/-- a list is written: its array is its own, or new -/
theorem tm_lw_list {T : ClassId × ClassId × ClassId × ClassId} {e0 : Nat} {Λ : tmL} {Ω Ω' : tmO} {E : Nat → Nat} {a d cap : Nat} {mc : Int32} {g : Nat → Option Nat} {xs xs' : List Nat}
    (h1 : ∀ a e, Λ a = some (.inl e) → Ω a = some e) (h2 : ∀ a xs, Λ a = some (.inr xs) → tm_ls T e0 Ω a (E a) xs ∧ (E a ≠ e0 → Λ (E a) = none) ∧ ∀ v ∈ xs, tm_el2 Λ v) (h3 : ∀ a b xs ys, Λ a = some (.inr xs) → Λ b = some (.inr ys) → E a = E b → E a ≠ e0 → a = b) (h4 : Ω e0 = none)
    (ha : Λ a = some (.inr xs)) (hk : ∀ b, b ≠ a → b ≠ d → Ω' b = Ω b) (hoa : Ω' a = some (.inr (0, [.int mc, .ref d, .int (I xs'.length)]))) (hod : Ω' d = some (tm_ao T cap g)) (hg : ∀ i, i < xs'.length → g i = xs'[i]?) (hc : xs'.length ≤ cap ∧ cap ≤ 400 ∧ 10 ≤ cap) (hd : (d = E a ∧ d ≠ e0) ∨ (Ω d = none ∧ d ≠ e0)) (hel : ∀ v ∈ xs', tm_el2 Λ v) : tm_lw T e0 (tm_ul Λ a xs') Ω' := by
  have hw : tm_lw T e0 Λ Ω := ⟨E, h1, h2, h3, h4⟩
  have hd0 : d ≠ e0 := by rcases hd with h | h; exact h.2; exact h.2
  have hΛd : Λ d = none := by
    rcases hd with ⟨h5, h6⟩ | ⟨h5, h6⟩
    · rw [h5]; rw [h5] at h6; exact (h2 a xs ha).2.1 h6
    · exact tm_lw_none hw h5
  have had : a ≠ d := by intro z; rw [z, hΛd] at ha; cases ha
  have hae : a ≠ e0 := by intro z; rw [z, tm_lw_e0 hw] at ha; cases ha
  have hEd : ∀ b ys, b ≠ a → Λ b = some (.inr ys) → E b ≠ d := by
    intro b ys hb hΛb z
    rcases hd with ⟨h5, h6⟩ | ⟨h5, h6⟩
    · exact hb (h3 b a ys xs hΛb ha (z.trans h5) (by rw [z]; exact h6))
    · obtain ⟨mc2, cap2, f2, g1, g2, g3⟩ := (h2 b ys hΛb).1
      have := (g2 (by rw [z]; exact h6)).1
      rw [z, h5] at this; cases this
  have hEa : ∀ b ys, Λ b = some (.inr ys) → E b ≠ e0 → E b ≠ a := by
    intro b ys hΛb hne z
    have := (h2 b ys hΛb).2.1 hne
    rw [z, ha] at this; cases this
  have hel' : ∀ v, tm_el2 Λ v → tm_el2 (tm_ul Λ a xs') v := by
    intro v hv
    obtain ⟨ci, fs, r, k1, k2, k3⟩ := hv
    exact ⟨ci, fs, r, by rw [tm_ul_n (by intro z; rw [z, ha] at k1; cases k1)]; exact k1, k2, k3⟩
  obtain ⟨E', hEs, hEn⟩ : ∃ E' : Nat → Nat, E' a = d ∧ ∀ b, b ≠ a → E' b = E b := ⟨fun b => if b = a then d else E b, if_pos rfl, fun b h => if_neg h⟩
  refine ⟨E', fun b e hb => ?_, fun b ys hb => ?_, fun b c ys zs hb hc9 he hne => ?_, by rw [hk e0 (Ne.symm hae) (Ne.symm hd0)]; exact h4⟩
  · have hba : b ≠ a := by intro z; subst z; rw [tm_ul_s] at hb; cases hb
    rw [tm_ul_n hba] at hb
    rw [hk b hba (by intro z; rw [z, hΛd] at hb; cases hb)]
    exact h1 b e hb
  · by_cases hba : b = a
    · subst hba
      rw [tm_ul_s] at hb
      cases hb
      refine ⟨⟨mc, cap, g, by rw [hEs]; exact hoa, fun _ => by rw [hEs]; exact ⟨hod, hg, hc⟩, fun z => by rw [hEs] at z; exact absurd z hd0⟩, fun _ => by rw [hEs, tm_ul_n (Ne.symm had)]; exact hΛd, fun v hv => hel' v (hel v hv)⟩
    · rw [tm_ul_n hba] at hb
      obtain ⟨⟨mc2, cap2, f2, g1, g2, g3⟩, g4, g5⟩ := h2 b ys hb
      have hbd : b ≠ d := by intro z; rw [z, hΛd] at hb; cases hb
      refine ⟨⟨mc2, cap2, f2, by rw [hEn b hba, hk b hba hbd]; exact g1, fun z => ?_, fun z => by rw [hEn b hba] at z; exact g3 z⟩, fun z => ?_, fun v hv => hel' v (g5 v hv)⟩
      · rw [hEn b hba] at z ⊢
        rw [hk _ (hEa b ys hb z) (hEd b ys hba hb)]
        exact g2 z
      · rw [hEn b hba] at z ⊢
        rw [tm_ul_n (hEa b ys hb z)]
        exact g4 z
  · by_cases hba : b = a
    · by_cases hca : c = a
      · rw [hba, hca]
      · rw [hba, hEs, hEn c hca] at he
        rw [tm_ul_n hca] at hc9
        exact absurd he.symm (hEd c zs hca hc9)
    · by_cases hca : c = a
      · rw [hEn b hba, hca, hEs] at he
        rw [tm_ul_n hba] at hb
        exact absurd he (hEd b ys hba hb)
      · rw [hEn b hba, hEn c hca] at he
        rw [hEn b hba] at hne
        rw [tm_ul_n hba] at hb
        rw [tm_ul_n hca] at hc9
        exact h3 b c ys zs hb hc9 he hne
/-- a list is born: an object of ArrayList's becomes an empty list -/
theorem tm_lw_born {T : ClassId × ClassId × ClassId × ClassId} {e0 : Nat} {Λ : tmL} {Ω : tmO} {a : Nat} {mc : Int32} {fs : List Value} (h : tm_lw T e0 Λ Ω) (ha : Λ a = some (.inl (.inr (0, fs)))) : tm_lw T e0 (tm_ul Λ a []) (tm_up Ω a (.inr (0, [.int mc, .ref e0, .int (I 0)]))) := by
  obtain ⟨E, h1, h2, h3, h4⟩ := id h
  have hae : a ≠ e0 := by intro z; rw [z, tm_lw_e0 h] at ha; cases ha
  have hEa : ∀ b ys, Λ b = some (.inr ys) → E b ≠ a := by
    intro b ys hΛb z
    by_cases hne : E b = e0
    · exact hae (z.symm.trans hne)
    · have := (h2 b ys hΛb).2.1 hne
      rw [z, ha] at this; cases this
  have hel' : ∀ v, tm_el2 Λ v → tm_el2 (tm_ul Λ a []) v := by
    intro v hv
    obtain ⟨ci, fs, r, k1, k2, k3⟩ := hv
    exact ⟨ci, fs, r, by rw [tm_ul_n (by intro z; rw [z, ha] at k1; cases k1; exact k3.2 rfl)]; exact k1, k2, k3⟩
  obtain ⟨E', hEs, hEn⟩ : ∃ E' : Nat → Nat, E' a = e0 ∧ ∀ b, b ≠ a → E' b = E b := ⟨fun b => if b = a then e0 else E b, if_pos rfl, fun b h => if_neg h⟩
  refine ⟨E', fun b e hb => ?_, fun b ys hb => ?_, fun b c ys zs hb hc9 he hne => ?_, by rw [tm_up_n (Ne.symm hae)]; exact h4⟩
  · have hba : b ≠ a := by intro z; subst z; rw [tm_ul_s] at hb; cases hb
    rw [tm_ul_n hba] at hb
    rw [tm_up_n hba]
    exact h1 b e hb
  · by_cases hba : b = a
    · subst hba
      rw [tm_ul_s] at hb
      cases hb
      refine ⟨⟨mc, 0, fun _ => none, by rw [hEs, tm_up_s]; rfl, fun z => absurd hEs z, fun _ => rfl⟩, fun z => absurd hEs z, fun v hv => by cases hv⟩
    · rw [tm_ul_n hba] at hb
      obtain ⟨⟨mc2, cap2, f2, g1, g2, g3⟩, g4, g5⟩ := h2 b ys hb
      refine ⟨⟨mc2, cap2, f2, by rw [hEn b hba, tm_up_n hba]; exact g1, fun z => ?_, fun z => by rw [hEn b hba] at z; exact g3 z⟩, fun z => ?_, fun v hv => hel' v (g5 v hv)⟩
      · rw [hEn b hba] at z ⊢
        rw [tm_up_n (hEa b ys hb)]
        exact g2 z
      · rw [hEn b hba] at z ⊢
        rw [tm_ul_n (hEa b ys hb)]
        exact g4 z
  · by_cases hba : b = a
    · rw [hba, hEs] at hne; exact absurd rfl hne
    · by_cases hca : c = a
      · rw [hEn b hba] at hne
        rw [hEn b hba, hca, hEs] at he
        exact absurd he hne
      · rw [hEn b hba, hEn c hca] at he
        rw [hEn b hba] at hne
        rw [tm_ul_n hba] at hb
        rw [tm_ul_n hca] at hc9
        exact h3 b c ys zs hb hc9 he hne
section TML
variable {x : tmX} {cc : ByteArray} {own : String} {ret : Option FieldType} {b n pc : Nat} {L : List (Nat × Value)} {st : List Value} {Λ : tmL} {Ω : tmO} {a : Nat}
theorem tm_li (k : ∀ Ω, tm_lw (tm_T x) (tm_e0 x) Λ Ω → tm_V x (tm_G x Ω) b n pc L st) : tm_V x (tm_H x Λ) b n pc L st := by
  intro H locs ls cells slots h1 h2 hS hG hl
  obtain ⟨Ω, hw, hh⟩ := hG
  exact k Ω hw H locs ls cells slots h1 h2 hS hh hl
theorem tm_lo (hw : tm_lw (tm_T x) (tm_e0 x) Λ Ω) (k : tm_V x (tm_H x Λ) b n pc L st) : tm_V x (tm_G x Ω) b n pc L st := by
  intro H locs ls cells slots h1 h2 hS hG hl
  exact k H locs ls cells slots h1 h2 hS ⟨Ω, hw, hG⟩ hl
/-- what the heap gives: the addresses of a world aren't frozen -/
theorem tm_nfz {e : va_E} (ha : Ω a = some e) (k : ¬ tm_Fz x a → tm_V x (tm_G x Ω) b n pc L st) : tm_V x (tm_G x Ω) b n pc L st := by
  intro H locs ls cells slots h1 h2 hS hG hl
  exact k (tm_hol_at hG ha).2.1 H locs ls cells slots h1 h2 hS hG hl
theorem tm_ne0 (hC : tm_C x cc own ret) (h : ¬ tm_Fz x a) : a ≠ tm_e0 x := fun z => h (by rw [z]; exact hC.2.2.2.2.2.2.2.2.2.2.2.1)
theorem tm_getf2 {idx ci k : Nat} {fs : List Value} {v : Value} (hC : tm_C x cc own ret) (hf : tm_f own idx ci k) (ha : Λ a = some (.inl (.inr (ci, fs)))) (hv : fs[k]? = some v) (hd : decode cc pc = .ok (.getfield idx, 3)) (kk : tm_V x (tm_H x Λ) b n (pc + 3) L (v :: st)) : tm_V x (tm_H x Λ) b n pc L (.ref a :: st) :=
  tm_li (fun Ω hw => tm_getf1 hC hf (hw.choose_spec.1 _ _ ha) hv hd (tm_lo hw kk))
theorem tm_putf2 {idx ci k : Nat} {fs : List Value} {v : Value} (hC : tm_C x cc own ret) (hf : tm_f own idx ci k) (ha : Λ a = some (.inl (.inr (ci, fs)))) (ht : tm_tt ci k false own v) (hl9 : k < fs.length) (hd : decode cc pc = .ok (.putfield idx, 3)) (kk : tm_V x (tm_H x (tm_u2 Λ a (.inr (ci, fs.set k v)))) b n (pc + 3) L st) : tm_V x (tm_H x Λ) b n pc L (v :: .ref a :: st) :=
  tm_li (fun Ω hw => tm_putf1 hC hf (hw.choose_spec.1 _ _ ha) ht hl9 hd (tm_lo (tm_lw_set hw (Or.inl ⟨_, ha, fun ci2 fs2 z => by cases z; exact ⟨_, rfl⟩⟩)) kk))
theorem tm_putfF2 {idx ci k : Nat} {fs : List Value} {v : Value} (hC : tm_C x cc own ret) (hin2 : (tm_me x).name = "<init>") (hf : tm_f own idx ci k) (ha : Λ a = some (.inl (.inr (ci, fs)))) (ht : tm_tt ci k true own v) (hl9 : k < fs.length) (hd : decode cc pc = .ok (.putfield idx, 3)) (hnn : ∃ (C ref : String) (T : u_T) (N : Nat), classes[ci]? = some (C, T, N) ∧ Cond.fieldLink own idx ref (T k).2.1 (T k).2.2.1 ∈ ALL ∧ (T k).1 = ref) (kk : tm_V x (tm_H x (tm_u2 Λ a (.inr (ci, fs.set k v)))) b n (pc + 3) L st) : tm_V x (tm_H x Λ) b n pc L (v :: .ref a :: st) :=
  tm_li (fun Ω hw => tm_putfF1 hC hin2 hf (hw.choose_spec.1 _ _ ha) ht hl9 hd hnn (tm_lo (tm_lw_set hw (Or.inl ⟨_, ha, fun ci2 fs2 z => by cases z; exact ⟨_, rfl⟩⟩)) kk))
theorem tm_new2 {idx ci : Nat} {fs : List Value} (hC : tm_C x cc own ret) (hnw : tm_nw9 own idx ci fs) (hd : decode cc pc = .ok (.new idx, 3)) (kk : ∀ q, Λ q = none → tm_V x (tm_H x (tm_u2 Λ q (.inr (ci, fs)))) b n (pc + 3) L (.ref q :: st)) : tm_V x (tm_H x Λ) (1 + b) (fs.length + n) pc L st :=
  tm_li (fun Ω hw => tm_new1 hC hnw hd (fun q hq => tm_nfz tm_up_s (fun hz => tm_lo (tm_lw_set hw (Or.inr ⟨hq, tm_ne0 hC hz⟩)) (kk q (tm_lw_none hw hq)))))
theorem tm_newi2 {k : Int} (hC : tm_C x cc own ret) (hk : 0 ≤ k ∧ k ≤ 100000) (hw9 : Cond.arrayClass .int ∈ ALL) (hd : decode cc pc = .ok (.newarray .int, 2)) (kk : ∀ q, Λ q = none → tm_V x (tm_H x (tm_u2 Λ q (tm_ai (tm_T x) k.toNat (fun _ => 0)))) b n (pc + 2) L (.ref q :: st)) : tm_V x (tm_H x Λ) (1 + b) (k.toNat + n) pc L (.int (I k) :: st) :=
  tm_li (fun Ω hw => tm_newi1 hC hk hw9 hd (fun q hq => tm_nfz tm_up_s (fun hz => tm_lo (tm_lw_set hw (Or.inr ⟨hq, tm_ne0 hC hz⟩)) (kk q (tm_lw_none hw hq)))))
theorem tm_newz2 {k : Int} (hC : tm_C x cc own ret) (hk : 0 ≤ k ∧ k ≤ 100000) (hw9 : Cond.arrayClass .boolean ∈ ALL) (hd : decode cc pc = .ok (.newarray .boolean, 2)) (kk : ∀ q, Λ q = none → tm_V x (tm_H x (tm_u2 Λ q (tm_az (tm_T x) k.toNat (fun _ => 0)))) b n (pc + 2) L (.ref q :: st)) : tm_V x (tm_H x Λ) (1 + b) (k.toNat + n) pc L (.int (I k) :: st) :=
  tm_li (fun Ω hw => tm_newz1 hC hk hw9 hd (fun q hq => tm_nfz tm_up_s (fun hz => tm_lo (tm_lw_set hw (Or.inr ⟨hq, tm_ne0 hC hz⟩)) (kk q (tm_lw_none hw hq)))))
theorem tm_newl2 {k : Int} (hC : tm_C x cc own ret) (hk : 0 ≤ k ∧ k ≤ 100000) (hw9 : Cond.arrayClass .long ∈ ALL) (hd : decode cc pc = .ok (.newarray .long, 2)) (kk : ∀ q, Λ q = none → tm_V x (tm_H x (tm_u2 Λ q (tm_al (tm_T x) k.toNat (fun _ => 0)))) b n (pc + 2) L (.ref q :: st)) : tm_V x (tm_H x Λ) (1 + b) (k.toNat + n) pc L (.int (I k) :: st) :=
  tm_li (fun Ω hw => tm_newl1 hC hk hw9 hd (fun q hq => tm_nfz tm_up_s (fun hz => tm_lo (tm_lw_set hw (Or.inr ⟨hq, tm_ne0 hC hz⟩)) (kk q (tm_lw_none hw hq)))))
theorem tm_alen2 {c : ClassId} {y : vp_A} {t0 : Nat} {ty : FieldType} (hC : tm_C x cc own ret) (ha : Λ a = some (.inl (.inl (c, y)))) (ht : (tm_tys (tm_T x))[t0]? = some (c, ty)) (hd : decode cc pc = .ok (.arraylength, 1)) (kk : tm_V x (tm_H x Λ) b n (pc + 1) L (.int (I y.1) :: st)) : tm_V x (tm_H x Λ) b n pc L (.ref a :: st) :=
  tm_li (fun Ω hw => tm_alen1 hC (hw.choose_spec.1 _ _ ha) ht hd (tm_lo hw kk))
theorem tm_iald2 {i : Int} {k : Nat} {g : Int → Int} (hC : tm_C x cc own ret) (ha : Λ a = some (.inl (tm_ai (tm_T x) k g))) (hi : 0 ≤ i ∧ i < k ∧ i ≤ 2147483647) (hd : decode cc pc = .ok (.iaload, 1)) (kk : tm_V x (tm_H x Λ) b n (pc + 1) L (.int (I (g i)) :: st)) : tm_V x (tm_H x Λ) b n pc L (.int (I i) :: .ref a :: st) :=
  tm_li (fun Ω hw => tm_iald1 hC (hw.choose_spec.1 _ _ ha) hi hd (tm_lo hw kk))
theorem tm_zald2 {i : Int} {k : Nat} {g : Int → Int} (hC : tm_C x cc own ret) (ha : Λ a = some (.inl (tm_az (tm_T x) k g))) (hi : 0 ≤ i ∧ i < k ∧ i ≤ 2147483647) (hd : decode cc pc = .ok (.baload, 1)) (kk : tm_V x (tm_H x Λ) b n (pc + 1) L (.int (I (g i)) :: st)) : tm_V x (tm_H x Λ) b n pc L (.int (I i) :: .ref a :: st) :=
  tm_li (fun Ω hw => tm_zald1 hC (hw.choose_spec.1 _ _ ha) hi hd (tm_lo hw kk))
theorem tm_lald2 {i : Int} {k : Nat} {g : Nat → Int64} (hC : tm_C x cc own ret) (ha : Λ a = some (.inl (tm_al (tm_T x) k g))) (hi : 0 ≤ i ∧ i < k ∧ i ≤ 2147483647) (hd : decode cc pc = .ok (.laload, 1)) (kk : tm_V x (tm_H x Λ) b n (pc + 1) L (.long (g i.toNat) :: st)) : tm_V x (tm_H x Λ) b n pc L (.int (I i) :: .ref a :: st) :=
  tm_li (fun Ω hw => tm_lald1 hC (hw.choose_spec.1 _ _ ha) hi hd (tm_lo hw kk))
theorem tm_iast2 {i v : Int} {k : Nat} {g : Int → Int} (hC : tm_C x cc own ret) (ha : Λ a = some (.inl (tm_ai (tm_T x) k g))) (hi : 0 ≤ i ∧ i < k ∧ i ≤ 2147483647) (hd : decode cc pc = .ok (.iastore, 1)) (kk : tm_V x (tm_H x (tm_u2 Λ a (tm_ai (tm_T x) k (tm_ui g i v)))) b n (pc + 1) L st) : tm_V x (tm_H x Λ) b n pc L (.int (I v) :: .int (I i) :: .ref a :: st) :=
  tm_li (fun Ω hw => tm_iast1 hC (hw.choose_spec.1 _ _ ha) hi hd (tm_lo (tm_lw_set hw (Or.inl ⟨_, ha, fun ci2 fs2 z => by cases z⟩)) kk))
theorem tm_zast2 {i v : Int} {k : Nat} {g : Int → Int} (hC : tm_C x cc own ret) (ha : Λ a = some (.inl (tm_az (tm_T x) k g))) (hi : 0 ≤ i ∧ i < k ∧ i ≤ 2147483647) (hv : v = 0 ∨ v = 1) (hd : decode cc pc = .ok (.bastore, 1)) (kk : tm_V x (tm_H x (tm_u2 Λ a (tm_az (tm_T x) k (tm_ui g i v)))) b n (pc + 1) L st) : tm_V x (tm_H x Λ) b n pc L (.int (I v) :: .int (I i) :: .ref a :: st) :=
  tm_li (fun Ω hw => tm_zast1 hC (hw.choose_spec.1 _ _ ha) hi hv hd (tm_lo (tm_lw_set hw (Or.inl ⟨_, ha, fun ci2 fs2 z => by cases z⟩)) kk))
theorem tm_last2 {i : Int} {v : Int64} {k : Nat} {g : Nat → Int64} (hC : tm_C x cc own ret) (ha : Λ a = some (.inl (tm_al (tm_T x) k g))) (hi : 0 ≤ i ∧ i < k ∧ i ≤ 2147483647) (hd : decode cc pc = .ok (.lastore, 1)) (kk : tm_V x (tm_H x (tm_u2 Λ a (tm_al (tm_T x) k (vp_updL g i.toNat v)))) b n (pc + 1) L st) : tm_V x (tm_H x Λ) b n pc L (.long v :: .int (I i) :: .ref a :: st) :=
  tm_li (fun Ω hw => tm_last1 hC (hw.choose_spec.1 _ _ ha) hi hd (tm_lo (tm_lw_set hw (Or.inl ⟨_, ha, fun ci2 fs2 z => by cases z⟩)) kk))
theorem tm_rec2 {ci : Nat} {fs : List Value} {r : vw_C} (hC : tm_C x cc own ret) (ha : Λ a = some (.inl (.inr (ci, fs)))) (hc : classes[ci]? = some r) : ∀ H, tm_h2 (tm_D x) (tm_T x) (tm_e0 x) (tm_Fz x) Λ H → ∃ cell : Cell, H[a]? = some cell ∧ cell.vm.isStatics = false ∧ (tm_st x).vm.findClass r.1 = some cell.cls := by
  intro H hG
  obtain ⟨Ω, hw, hh⟩ := hG
  exact tm_rec1 hC (hw.choose_spec.1 _ _ ha) hc H hh
theorem tm_recL {xs : List Nat} (hC : tm_C x cc own ret) (ha : Λ a = some (.inr xs)) : ∀ H, tm_h2 (tm_D x) (tm_T x) (tm_e0 x) (tm_Fz x) Λ H → ∃ cell : Cell, H[a]? = some cell ∧ cell.vm.isStatics = false ∧ (tm_st x).vm.findClass RJx4a65c = some cell.cls := by
  intro H hG
  obtain ⟨Ω, hw, hh⟩ := hG
  obtain ⟨mc, cap, f, g1, -⟩ := (hw.choose_spec.2.1 a xs ha).1
  exact tm_rec1 (r := (RJx4a65c, TJx4a65c, 3)) hC g1 rfl H hh
theorem tm_cast2 {idx ci : Nat} {fs : List Value} {r : vw_C} (hC : tm_C x cc own ret) (ha : Λ a = some (.inl (.inr (ci, fs)))) (hc : classes[ci]? = some r) (hk : Cond.classLink own idx r.1 ∈ ALL) (hd : decode cc pc = .ok (.checkcast idx, 3)) (kk : tm_V x (tm_H x Λ) b n (pc + 3) L (.ref a :: st)) : tm_V x (tm_H x Λ) b n pc L (.ref a :: st) :=
  tm_li (fun Ω hw => tm_cast1 hC (hw.choose_spec.1 _ _ ha) hc hk hd (tm_lo hw kk))
end TML
theorem tt_0_0 {own : String} (v : Int32) : tm_tt 0 0 false own (.int v) := by
  intro C T N hc
  cases Option.some.inj hc
  exact ⟨⟨tyJx4a65c, tyJx4a65c_ok⟩, nmJx4a65c, rfl, (fun z => by cases z), tyJx4a65c 0, tyJx4a65c_ok 0 (by decide), rfl, rfl⟩
theorem tt_0_1 {own : String} (a : Nat) : tm_tt 0 1 false own (.ref a) := by
  intro C T N hc
  cases Option.some.inj hc
  exact ⟨⟨tyJx4a65c, tyJx4a65c_ok⟩, nmJx4a65c, rfl, (fun z => by cases z), tyJx4a65c 1, tyJx4a65c_ok 1 (by decide), rfl, rfl⟩
theorem tt_0_1_n {own : String} : tm_tt 0 1 false own .null := by
  intro C T N hc
  cases Option.some.inj hc
  exact ⟨⟨tyJx4a65c, tyJx4a65c_ok⟩, nmJx4a65c, rfl, (fun z => by cases z), tyJx4a65c 1, tyJx4a65c_ok 1 (by decide), rfl, rfl⟩
theorem tt_0_2 {own : String} (v : Int32) : tm_tt 0 2 false own (.int v) := by
  intro C T N hc
  cases Option.some.inj hc
  exact ⟨⟨tyJx4a65c, tyJx4a65c_ok⟩, nmJx4a65c, rfl, (fun z => by cases z), tyJx4a65c 2, tyJx4a65c_ok 2 (by decide), rfl, rfl⟩
theorem tt_1_0 (v : Int32) : tm_tt 1 0 true RX0 (.int v) := by
  intro C T N hc
  cases Option.some.inj hc
  exact ⟨⟨tyX0, tyX0_ok⟩, nmX0, rfl, fun _ => rfl, tyX0 0, tyX0_ok 0 (by decide), rfl, rfl⟩
theorem tt_1_1 (v : Int32) : tm_tt 1 1 true RX0 (.int v) := by
  intro C T N hc
  cases Option.some.inj hc
  exact ⟨⟨tyX0, tyX0_ok⟩, nmX0, rfl, fun _ => rfl, tyX0 1, tyX0_ok 1 (by decide), rfl, rfl⟩
theorem tt_1_2 (v : Int32) : tm_tt 1 2 true RX0 (.int v) := by
  intro C T N hc
  cases Option.some.inj hc
  exact ⟨⟨tyX0, tyX0_ok⟩, nmX0, rfl, fun _ => rfl, tyX0 2, tyX0_ok 2 (by decide), rfl, rfl⟩
theorem tt_1_3 (a : Nat) : tm_tt 1 3 true RX0 (.ref a) := by
  intro C T N hc
  cases Option.some.inj hc
  exact ⟨⟨tyX0, tyX0_ok⟩, nmX0, rfl, fun _ => rfl, tyX0 3, tyX0_ok 3 (by decide), rfl, rfl⟩
theorem tt_1_3_n : tm_tt 1 3 true RX0 .null := by
  intro C T N hc
  cases Option.some.inj hc
  exact ⟨⟨tyX0, tyX0_ok⟩, nmX0, rfl, fun _ => rfl, tyX0 3, tyX0_ok 3 (by decide), rfl, rfl⟩
theorem tt_1_4 (a : Nat) : tm_tt 1 4 true RX0 (.ref a) := by
  intro C T N hc
  cases Option.some.inj hc
  exact ⟨⟨tyX0, tyX0_ok⟩, nmX0, rfl, fun _ => rfl, tyX0 4, tyX0_ok 4 (by decide), rfl, rfl⟩
theorem tt_1_4_n : tm_tt 1 4 true RX0 .null := by
  intro C T N hc
  cases Option.some.inj hc
  exact ⟨⟨tyX0, tyX0_ok⟩, nmX0, rfl, fun _ => rfl, tyX0 4, tyX0_ok 4 (by decide), rfl, rfl⟩
theorem tt_2_0 (a : Nat) : tm_tt 2 0 true RX1 (.ref a) := by
  intro C T N hc
  cases Option.some.inj hc
  exact ⟨⟨tyX1, tyX1_ok⟩, nmX1, rfl, fun _ => rfl, tyX1 0, tyX1_ok 0 (by decide), rfl, rfl⟩
theorem tt_2_0_n : tm_tt 2 0 true RX1 .null := by
  intro C T N hc
  cases Option.some.inj hc
  exact ⟨⟨tyX1, tyX1_ok⟩, nmX1, rfl, fun _ => rfl, tyX1 0, tyX1_ok 0 (by decide), rfl, rfl⟩
theorem tt_2_1 (a : Nat) : tm_tt 2 1 true RX1 (.ref a) := by
  intro C T N hc
  cases Option.some.inj hc
  exact ⟨⟨tyX1, tyX1_ok⟩, nmX1, rfl, fun _ => rfl, tyX1 1, tyX1_ok 1 (by decide), rfl, rfl⟩
theorem tt_2_1_n : tm_tt 2 1 true RX1 .null := by
  intro C T N hc
  cases Option.some.inj hc
  exact ⟨⟨tyX1, tyX1_ok⟩, nmX1, rfl, fun _ => rfl, tyX1 1, tyX1_ok 1 (by decide), rfl, rfl⟩
theorem tt_2_2 (a : Nat) : tm_tt 2 2 true RX1 (.ref a) := by
  intro C T N hc
  cases Option.some.inj hc
  exact ⟨⟨tyX1, tyX1_ok⟩, nmX1, rfl, fun _ => rfl, tyX1 2, tyX1_ok 2 (by decide), rfl, rfl⟩
theorem tt_2_2_n : tm_tt 2 2 true RX1 .null := by
  intro C T N hc
  cases Option.some.inj hc
  exact ⟨⟨tyX1, tyX1_ok⟩, nmX1, rfl, fun _ => rfl, tyX1 2, tyX1_ok 2 (by decide), rfl, rfl⟩
theorem tt_3_0 (v : Int32) : tm_tt 3 0 true RX2 (.int v) := by
  intro C T N hc
  cases Option.some.inj hc
  exact ⟨⟨tyX2, tyX2_ok⟩, nmX2, rfl, fun _ => rfl, tyX2 0, tyX2_ok 0 (by decide), rfl, rfl⟩
theorem tt_3_1 (v : Int32) : tm_tt 3 1 true RX2 (.int v) := by
  intro C T N hc
  cases Option.some.inj hc
  exact ⟨⟨tyX2, tyX2_ok⟩, nmX2, rfl, fun _ => rfl, tyX2 1, tyX2_ok 1 (by decide), rfl, rfl⟩
theorem tt_3_2 (v : Int32) : tm_tt 3 2 true RX2 (.int v) := by
  intro C T N hc
  cases Option.some.inj hc
  exact ⟨⟨tyX2, tyX2_ok⟩, nmX2, rfl, fun _ => rfl, tyX2 2, tyX2_ok 2 (by decide), rfl, rfl⟩
theorem tt_4_0 (v : Int32) : tm_tt 4 0 true RX3 (.int v) := by
  intro C T N hc
  cases Option.some.inj hc
  exact ⟨⟨tyX3, tyX3_ok⟩, nmX3, rfl, fun _ => rfl, tyX3 0, tyX3_ok 0 (by decide), rfl, rfl⟩
theorem tt_4_1 (v : Int32) : tm_tt 4 1 true RX3 (.int v) := by
  intro C T N hc
  cases Option.some.inj hc
  exact ⟨⟨tyX3, tyX3_ok⟩, nmX3, rfl, fun _ => rfl, tyX3 1, tyX3_ok 1 (by decide), rfl, rfl⟩
theorem tt_4_2 (v : Int32) : tm_tt 4 2 true RX3 (.int v) := by
  intro C T N hc
  cases Option.some.inj hc
  exact ⟨⟨tyX3, tyX3_ok⟩, nmX3, rfl, fun _ => rfl, tyX3 2, tyX3_ok 2 (by decide), rfl, rfl⟩
theorem tt_4_3 (v : Int32) : tm_tt 4 3 true RX3 (.int v) := by
  intro C T N hc
  cases Option.some.inj hc
  exact ⟨⟨tyX3, tyX3_ok⟩, nmX3, rfl, fun _ => rfl, tyX3 3, tyX3_ok 3 (by decide), rfl, rfl⟩
theorem tt_4_4 (v : Int) (h : v = 0 ∨ v = 1) : tm_tt 4 4 true RX3 (.int (I v)) := by
  intro C T N hc
  cases Option.some.inj hc
  exact ⟨⟨tyX3, tyX3_ok⟩, nmX3, rfl, fun _ => rfl, tyX3 4, tyX3_ok 4 (by decide), (by rcases h with rfl | rfl <;> rfl), (by rcases h with rfl | rfl <;> rfl)⟩
theorem tt_4_5 {own : String} (v : Int32) : tm_tt 4 5 false own (.int v) := by
  intro C T N hc
  cases Option.some.inj hc
  exact ⟨⟨tyX3, tyX3_ok⟩, nmX3, rfl, (fun z => by cases z), tyX3 5, tyX3_ok 5 (by decide), rfl, rfl⟩
theorem tt_5_0 (a : Nat) : tm_tt 5 0 true RX4 (.ref a) := by
  intro C T N hc
  cases Option.some.inj hc
  exact ⟨⟨tyX4, tyX4_ok⟩, nmX4, rfl, fun _ => rfl, tyX4 0, tyX4_ok 0 (by decide), rfl, rfl⟩
theorem tt_5_0_n : tm_tt 5 0 true RX4 .null := by
  intro C T N hc
  cases Option.some.inj hc
  exact ⟨⟨tyX4, tyX4_ok⟩, nmX4, rfl, fun _ => rfl, tyX4 0, tyX4_ok 0 (by decide), rfl, rfl⟩
theorem tt_5_1 (a : Nat) : tm_tt 5 1 true RX4 (.ref a) := by
  intro C T N hc
  cases Option.some.inj hc
  exact ⟨⟨tyX4, tyX4_ok⟩, nmX4, rfl, fun _ => rfl, tyX4 1, tyX4_ok 1 (by decide), rfl, rfl⟩
theorem tt_5_1_n : tm_tt 5 1 true RX4 .null := by
  intro C T N hc
  cases Option.some.inj hc
  exact ⟨⟨tyX4, tyX4_ok⟩, nmX4, rfl, fun _ => rfl, tyX4 1, tyX4_ok 1 (by decide), rfl, rfl⟩
theorem tt_5_2 (v : Int32) : tm_tt 5 2 true RX4 (.int v) := by
  intro C T N hc
  cases Option.some.inj hc
  exact ⟨⟨tyX4, tyX4_ok⟩, nmX4, rfl, fun _ => rfl, tyX4 2, tyX4_ok 2 (by decide), rfl, rfl⟩
theorem tt_5_3 (v : Int32) : tm_tt 5 3 true RX4 (.int v) := by
  intro C T N hc
  cases Option.some.inj hc
  exact ⟨⟨tyX4, tyX4_ok⟩, nmX4, rfl, fun _ => rfl, tyX4 3, tyX4_ok 3 (by decide), rfl, rfl⟩
theorem tt_5_4 (v : Int) (h : v = 0 ∨ v = 1) : tm_tt 5 4 true RX4 (.int (I v)) := by
  intro C T N hc
  cases Option.some.inj hc
  exact ⟨⟨tyX4, tyX4_ok⟩, nmX4, rfl, fun _ => rfl, tyX4 4, tyX4_ok 4 (by decide), (by rcases h with rfl | rfl <;> rfl), (by rcases h with rfl | rfl <;> rfl)⟩
theorem tt_6_0 (a : Nat) : tm_tt 6 0 true RX5 (.ref a) := by
  intro C T N hc
  cases Option.some.inj hc
  exact ⟨⟨tyX5, tyX5_ok⟩, nmX5, rfl, fun _ => rfl, tyX5 0, tyX5_ok 0 (by decide), rfl, rfl⟩
theorem tt_6_0_n : tm_tt 6 0 true RX5 .null := by
  intro C T N hc
  cases Option.some.inj hc
  exact ⟨⟨tyX5, tyX5_ok⟩, nmX5, rfl, fun _ => rfl, tyX5 0, tyX5_ok 0 (by decide), rfl, rfl⟩
theorem tt_6_1 (a : Nat) : tm_tt 6 1 true RX5 (.ref a) := by
  intro C T N hc
  cases Option.some.inj hc
  exact ⟨⟨tyX5, tyX5_ok⟩, nmX5, rfl, fun _ => rfl, tyX5 1, tyX5_ok 1 (by decide), rfl, rfl⟩
theorem tt_6_1_n : tm_tt 6 1 true RX5 .null := by
  intro C T N hc
  cases Option.some.inj hc
  exact ⟨⟨tyX5, tyX5_ok⟩, nmX5, rfl, fun _ => rfl, tyX5 1, tyX5_ok 1 (by decide), rfl, rfl⟩
theorem tt_6_2 (a : Nat) : tm_tt 6 2 true RX5 (.ref a) := by
  intro C T N hc
  cases Option.some.inj hc
  exact ⟨⟨tyX5, tyX5_ok⟩, nmX5, rfl, fun _ => rfl, tyX5 2, tyX5_ok 2 (by decide), rfl, rfl⟩
theorem tt_6_2_n : tm_tt 6 2 true RX5 .null := by
  intro C T N hc
  cases Option.some.inj hc
  exact ⟨⟨tyX5, tyX5_ok⟩, nmX5, rfl, fun _ => rfl, tyX5 2, tyX5_ok 2 (by decide), rfl, rfl⟩
theorem tt_6_3 (a : Nat) : tm_tt 6 3 true RX5 (.ref a) := by
  intro C T N hc
  cases Option.some.inj hc
  exact ⟨⟨tyX5, tyX5_ok⟩, nmX5, rfl, fun _ => rfl, tyX5 3, tyX5_ok 3 (by decide), rfl, rfl⟩
theorem tt_6_3_n : tm_tt 6 3 true RX5 .null := by
  intro C T N hc
  cases Option.some.inj hc
  exact ⟨⟨tyX5, tyX5_ok⟩, nmX5, rfl, fun _ => rfl, tyX5 3, tyX5_ok 3 (by decide), rfl, rfl⟩
theorem tt_6_4 (a : Nat) : tm_tt 6 4 true RX5 (.ref a) := by
  intro C T N hc
  cases Option.some.inj hc
  exact ⟨⟨tyX5, tyX5_ok⟩, nmX5, rfl, fun _ => rfl, tyX5 4, tyX5_ok 4 (by decide), rfl, rfl⟩
theorem tt_6_4_n : tm_tt 6 4 true RX5 .null := by
  intro C T N hc
  cases Option.some.inj hc
  exact ⟨⟨tyX5, tyX5_ok⟩, nmX5, rfl, fun _ => rfl, tyX5 4, tyX5_ok 4 (by decide), rfl, rfl⟩
theorem tt_6_5 {own : String} (v : Int32) : tm_tt 6 5 false own (.int v) := by
  intro C T N hc
  cases Option.some.inj hc
  exact ⟨⟨tyX5, tyX5_ok⟩, nmX5, rfl, (fun z => by cases z), tyX5 5, tyX5_ok 5 (by decide), rfl, rfl⟩
theorem tt_6_6 {own : String} (v : Int32) : tm_tt 6 6 false own (.int v) := by
  intro C T N hc
  cases Option.some.inj hc
  exact ⟨⟨tyX5, tyX5_ok⟩, nmX5, rfl, (fun z => by cases z), tyX5 6, tyX5_ok 6 (by decide), rfl, rfl⟩
theorem tt_6_7 {own : String} (v : Int32) : tm_tt 6 7 false own (.int v) := by
  intro C T N hc
  cases Option.some.inj hc
  exact ⟨⟨tyX5, tyX5_ok⟩, nmX5, rfl, (fun z => by cases z), tyX5 7, tyX5_ok 7 (by decide), rfl, rfl⟩
theorem tt_7_0 {own : String} (v : Int32) : tm_tt 7 0 false own (.int v) := by
  intro C T N hc
  cases Option.some.inj hc
  exact ⟨⟨tyX6, tyX6_ok⟩, nmX6, rfl, (fun z => by cases z), tyX6 0, tyX6_ok 0 (by decide), rfl, rfl⟩
theorem tt_7_1 {own : String} (v : Int32) : tm_tt 7 1 false own (.int v) := by
  intro C T N hc
  cases Option.some.inj hc
  exact ⟨⟨tyX6, tyX6_ok⟩, nmX6, rfl, (fun z => by cases z), tyX6 1, tyX6_ok 1 (by decide), rfl, rfl⟩
theorem tt_7_2 (a : Nat) : tm_tt 7 2 true RX6 (.ref a) := by
  intro C T N hc
  cases Option.some.inj hc
  exact ⟨⟨tyX6, tyX6_ok⟩, nmX6, rfl, fun _ => rfl, tyX6 2, tyX6_ok 2 (by decide), rfl, rfl⟩
theorem tt_7_2_n : tm_tt 7 2 true RX6 .null := by
  intro C T N hc
  cases Option.some.inj hc
  exact ⟨⟨tyX6, tyX6_ok⟩, nmX6, rfl, fun _ => rfl, tyX6 2, tyX6_ok 2 (by decide), rfl, rfl⟩
theorem tt_7_3 {own : String} (v : Int32) : tm_tt 7 3 false own (.int v) := by
  intro C T N hc
  cases Option.some.inj hc
  exact ⟨⟨tyX6, tyX6_ok⟩, nmX6, rfl, (fun z => by cases z), tyX6 3, tyX6_ok 3 (by decide), rfl, rfl⟩
theorem tt_7_4 (a : Nat) : tm_tt 7 4 true RX6 (.ref a) := by
  intro C T N hc
  cases Option.some.inj hc
  exact ⟨⟨tyX6, tyX6_ok⟩, nmX6, rfl, fun _ => rfl, tyX6 4, tyX6_ok 4 (by decide), rfl, rfl⟩
theorem tt_7_4_n : tm_tt 7 4 true RX6 .null := by
  intro C T N hc
  cases Option.some.inj hc
  exact ⟨⟨tyX6, tyX6_ok⟩, nmX6, rfl, fun _ => rfl, tyX6 4, tyX6_ok 4 (by decide), rfl, rfl⟩
theorem tt_7_5 {own : String} (v : Int32) : tm_tt 7 5 false own (.int v) := by
  intro C T N hc
  cases Option.some.inj hc
  exact ⟨⟨tyX6, tyX6_ok⟩, nmX6, rfl, (fun z => by cases z), tyX6 5, tyX6_ok 5 (by decide), rfl, rfl⟩
theorem tt_7_6 (a : Nat) : tm_tt 7 6 true RX6 (.ref a) := by
  intro C T N hc
  cases Option.some.inj hc
  exact ⟨⟨tyX6, tyX6_ok⟩, nmX6, rfl, fun _ => rfl, tyX6 6, tyX6_ok 6 (by decide), rfl, rfl⟩
theorem tt_7_6_n : tm_tt 7 6 true RX6 .null := by
  intro C T N hc
  cases Option.some.inj hc
  exact ⟨⟨tyX6, tyX6_ok⟩, nmX6, rfl, fun _ => rfl, tyX6 6, tyX6_ok 6 (by decide), rfl, rfl⟩
theorem tt_7_7 (a : Nat) : tm_tt 7 7 true RX6 (.ref a) := by
  intro C T N hc
  cases Option.some.inj hc
  exact ⟨⟨tyX6, tyX6_ok⟩, nmX6, rfl, fun _ => rfl, tyX6 7, tyX6_ok 7 (by decide), rfl, rfl⟩
theorem tt_7_7_n : tm_tt 7 7 true RX6 .null := by
  intro C T N hc
  cases Option.some.inj hc
  exact ⟨⟨tyX6, tyX6_ok⟩, nmX6, rfl, fun _ => rfl, tyX6 7, tyX6_ok 7 (by decide), rfl, rfl⟩
theorem tt_7_8 {own : String} (v : Int32) : tm_tt 7 8 false own (.int v) := by
  intro C T N hc
  cases Option.some.inj hc
  exact ⟨⟨tyX6, tyX6_ok⟩, nmX6, rfl, (fun z => by cases z), tyX6 8, tyX6_ok 8 (by decide), rfl, rfl⟩
theorem tt_7_9 {own : String} (v : Int32) : tm_tt 7 9 false own (.int v) := by
  intro C T N hc
  cases Option.some.inj hc
  exact ⟨⟨tyX6, tyX6_ok⟩, nmX6, rfl, (fun z => by cases z), tyX6 9, tyX6_ok 9 (by decide), rfl, rfl⟩
theorem tt_7_10 {own : String} (v : Int32) : tm_tt 7 10 false own (.int v) := by
  intro C T N hc
  cases Option.some.inj hc
  exact ⟨⟨tyX6, tyX6_ok⟩, nmX6, rfl, (fun z => by cases z), tyX6 10, tyX6_ok 10 (by decide), rfl, rfl⟩
theorem tt_7_11 (a : Nat) : tm_tt 7 11 true RX6 (.ref a) := by
  intro C T N hc
  cases Option.some.inj hc
  exact ⟨⟨tyX6, tyX6_ok⟩, nmX6, rfl, fun _ => rfl, tyX6 11, tyX6_ok 11 (by decide), rfl, rfl⟩
theorem tt_7_11_n : tm_tt 7 11 true RX6 .null := by
  intro C T N hc
  cases Option.some.inj hc
  exact ⟨⟨tyX6, tyX6_ok⟩, nmX6, rfl, fun _ => rfl, tyX6 11, tyX6_ok 11 (by decide), rfl, rfl⟩
theorem tt_7_12 (a : Nat) : tm_tt 7 12 true RX6 (.ref a) := by
  intro C T N hc
  cases Option.some.inj hc
  exact ⟨⟨tyX6, tyX6_ok⟩, nmX6, rfl, fun _ => rfl, tyX6 12, tyX6_ok 12 (by decide), rfl, rfl⟩
theorem tt_7_12_n : tm_tt 7 12 true RX6 .null := by
  intro C T N hc
  cases Option.some.inj hc
  exact ⟨⟨tyX6, tyX6_ok⟩, nmX6, rfl, fun _ => rfl, tyX6 12, tyX6_ok 12 (by decide), rfl, rfl⟩
theorem tt_7_13 {own : String} (v : Int32) : tm_tt 7 13 false own (.int v) := by
  intro C T N hc
  cases Option.some.inj hc
  exact ⟨⟨tyX6, tyX6_ok⟩, nmX6, rfl, (fun z => by cases z), tyX6 13, tyX6_ok 13 (by decide), rfl, rfl⟩
theorem tt_7_14 {own : String} (v : Int32) : tm_tt 7 14 false own (.int v) := by
  intro C T N hc
  cases Option.some.inj hc
  exact ⟨⟨tyX6, tyX6_ok⟩, nmX6, rfl, (fun z => by cases z), tyX6 14, tyX6_ok 14 (by decide), rfl, rfl⟩
theorem l_X0_10 : (Cond.fieldLink "TimberList$Board" (10 : Nat) "TimberList$Board" "defects" "Ljava/util/ArrayList;") ∈ ALL := tm_in3 192 rfl rfl
theorem l_X0_16 : (Cond.fieldLink "TimberList$Board" (16 : Nat) "TimberList$Board" "cutPieces" "Ljava/util/ArrayList;") ∈ ALL := tm_in3 193 rfl rfl
theorem l_X0_19 : (Cond.fieldLink "TimberList$Board" (19 : Nat) "TimberList$Board" "length" "I") ∈ ALL := tm_in3 187 rfl rfl
theorem l_X0_23 : (Cond.fieldLink "TimberList$Board" (23 : Nat) "TimberList$Board" "width" "I") ∈ ALL := tm_in3 189 rfl rfl
theorem l_X0_26 : (Cond.fieldLink "TimberList$Board" (26 : Nat) "TimberList$Board" "grade" "I") ∈ ALL := tm_in3 191 rfl rfl
theorem l_X1_7 : (Cond.fieldLink "TimberList$Cutting" (7 : Nat) "TimberList$Cutting" "part" "LTimberList$Part;") ∈ ALL := tm_in1 196 rfl rfl
theorem l_X1_13 : (Cond.fieldLink "TimberList$Cutting" (13 : Nat) "TimberList$Cutting" "first" "LTimberList$Piece;") ∈ ALL := tm_in1 198 rfl rfl
theorem l_X1_17 : (Cond.fieldLink "TimberList$Cutting" (17 : Nat) "TimberList$Cutting" "second" "LTimberList$Piece;") ∈ ALL := tm_in1 200 rfl rfl
theorem l_X2_7 : (Cond.fieldLink "TimberList$Defect" (7 : Nat) "TimberList$Defect" "from" "I") ∈ ALL := tm_in3 234 rfl rfl
theorem l_X2_13 : (Cond.fieldLink "TimberList$Defect" (13 : Nat) "TimberList$Defect" "to" "I") ∈ ALL := tm_in3 236 rfl rfl
theorem l_X2_16 : (Cond.fieldLink "TimberList$Defect" (16 : Nat) "TimberList$Defect" "grade" "I") ∈ ALL := tm_in3 238 rfl rfl
theorem l_X3_7 : (Cond.fieldLink "TimberList$Part" (7 : Nat) "TimberList$Part" "number" "I") ∈ ALL := tm_in4 25 rfl rfl
theorem l_X3_13 : (Cond.fieldLink "TimberList$Part" (13 : Nat) "TimberList$Part" "length" "I") ∈ ALL := tm_in4 28 rfl rfl
theorem l_X3_16 : (Cond.fieldLink "TimberList$Part" (16 : Nat) "TimberList$Part" "width" "I") ∈ ALL := tm_in4 31 rfl rfl
theorem l_X3_19 : (Cond.fieldLink "TimberList$Part" (19 : Nat) "TimberList$Part" "grade" "I") ∈ ALL := tm_in4 34 rfl rfl
theorem l_X3_22 : (Cond.fieldLink "TimberList$Part" (22 : Nat) "TimberList$Part" "canBeJoined" "Z") ∈ ALL := tm_in4 37 rfl rfl
theorem l_X4_7 : (Cond.fieldLink "TimberList$Piece" (7 : Nat) "TimberList$Piece" "part" "LTimberList$Part;") ∈ ALL := tm_in1 170 rfl rfl
theorem l_X4_13 : (Cond.fieldLink "TimberList$Piece" (13 : Nat) "TimberList$Piece" "board" "LTimberList$Board;") ∈ ALL := tm_in1 172 rfl rfl
theorem l_X4_17 : (Cond.fieldLink "TimberList$Piece" (17 : Nat) "TimberList$Piece" "from" "I") ∈ ALL := tm_in1 174 rfl rfl
theorem l_X4_21 : (Cond.fieldLink "TimberList$Piece" (21 : Nat) "TimberList$Piece" "to" "I") ∈ ALL := tm_in1 177 rfl rfl
theorem l_X4_24 : (Cond.fieldLink "TimberList$Piece" (24 : Nat) "TimberList$Piece" "isJoined" "Z") ∈ ALL := tm_in1 180 rfl rfl
theorem l_X5_10 : (Cond.fieldLink "TimberList" (10 : Nat) "TimberList" "boards" "Ljava/util/ArrayList;") ∈ ALL := tm_in1 64 rfl rfl
theorem l_X5_16 : (Cond.fieldLink "TimberList" (16 : Nat) "TimberList" "parts" "Ljava/util/ArrayList;") ∈ ALL := tm_in1 65 rfl rfl
theorem l_X5_19 : (Cond.fieldLink "TimberList" (19 : Nat) "TimberList" "planningOrder" "Ljava/util/ArrayList;") ∈ ALL := tm_in1 66 rfl rfl
theorem l_X5_22 : (Cond.fieldLink "TimberList" (22 : Nat) "TimberList" "cuttings" "Ljava/util/ArrayList;") ∈ ALL := tm_in1 67 rfl rfl
theorem l_X5_25 : (Cond.fieldLink "TimberList" (25 : Nat) "TimberList" "bestSums" "[I") ∈ ALL := tm_in1 68 rfl rfl
theorem l_X6_9 : (Cond.fieldLink "TimberListModel" (9 : Nat) "TimberListModel" "wood" "[I") ∈ ALL := tm_in5 28 rfl rfl
theorem l_X6_13 : (Cond.fieldLink "TimberListModel" (13 : Nat) "TimberListModel" "flaws" "[I") ∈ ALL := tm_in5 30 rfl rfl
theorem l_X6_16 : (Cond.fieldLink "TimberListModel" (16 : Nat) "TimberListModel" "wants" "[I") ∈ ALL := tm_in5 32 rfl rfl
theorem l_X6_19 : (Cond.fieldLink "TimberListModel" (19 : Nat) "TimberListModel" "mayBeJoined" "[Z") ∈ ALL := tm_in5 33 rfl rfl
theorem l_X6_30 : (Cond.fieldLink "TimberListModel" (30 : Nat) "TimberListModel" "cuts" "[I") ∈ ALL := tm_in5 37 rfl rfl
theorem l_X6_33 : (Cond.fieldLink "TimberListModel" (33 : Nat) "TimberListModel" "areJoined" "[Z") ∈ ALL := tm_in5 38 rfl rfl
end
section
theorem tm_ishr1 {x : tmX} {cc : ByteArray} {own : String} {ret : Option FieldType} {G : Heap → Prop} {b n pc : Nat} {L : List (Nat × Value)} {st : List Value} {u : Int} (hC : tm_C x cc own ret) (hd : decode cc pc = .ok (.ishr, 1)) (h : 0 ≤ u ∧ u ≤ 2147483647) (k : tm_V x G b n (pc + 1) L (.int (I (u / 2)) :: st)) : tm_V x G b n pc L (.int (I 1) :: .int (I u) :: st) := by
  intro H locs ls cells slots h1 h2 hS hG hl
  have e0 : ∀ z : Int, 0 ≤ z ∧ z ≤ 2147483647 → I z = nI z.toNat := fun z hz => by rw [← Int32.toInt_inj, I_toInt (by omega), nI_toInt (by omega)]; omega
  have e : I u >>> ((I 1) &&& 31) = I (u / 2) := by
    rw [e0 u h, e0 (u / 2) (by omega), pk_shrN (by omega) ((I 1) &&& 31) 1 (by decide)]
    congr 1
    omega
  refine lv_ishr hC.1 hC.2.1 hd ?_
  rw [e]
  exact k H locs ls cells slots h1 h2 hS hG hl
theorem tm_up_up {Ω : tmO} {a : Nat} {e e' : va_E} : tm_up (tm_up Ω a e) a e' = tm_up Ω a e' := by
  funext b
  by_cases h : b = a
  · subst h; rw [tm_up_s, tm_up_s]
  · rw [tm_up_n h, tm_up_n h, tm_up_n h]
theorem tm_up_c {Ω : tmO} {a c : Nat} {e e' : va_E} (h : a ≠ c) : tm_up (tm_up Ω a e) c e' = tm_up (tm_up Ω c e') a e := by
  funext b
  by_cases h1 : b = a
  · subst h1; rw [tm_up_n h, tm_up_s, tm_up_s]
  · by_cases h2 : b = c
    · subst h2; rw [tm_up_s, tm_up_n h1, tm_up_s]
    · rw [tm_up_n h2, tm_up_n h1, tm_up_n h1, tm_up_n h2]
theorem tm_el_put {Ω : tmO} {a v : Nat} {fs fs' : List Value} (h : tm_el Ω v) (ha : Ω a = some (.inr (0, fs))) : tm_el (tm_up Ω a (.inr (0, fs'))) v := by
  obtain ⟨ci, gs, r, h1, h2, h3⟩ := h
  by_cases hv : v = a
  · subst hv; rw [ha] at h1; cases h1; exact ⟨0, fs', r, tm_up_s, h2, h3⟩
  · exact ⟨ci, gs, r, by rw [tm_up_n hv]; exact h1, h2, h3⟩
theorem tm_el_arr {Ω : tmO} {a v : Nat} {e e' : ClassId × vp_A} (h : tm_el Ω v) (ha : Ω a = some (.inl e)) : tm_el (tm_up Ω a (.inl e')) v := by
  obtain ⟨ci, gs, r, h1, h2, h3⟩ := h
  exact ⟨ci, gs, r, by rw [tm_up_n (fun z => by subst z; rw [ha] at h1; cases h1)]; exact h1, h2, h3⟩
theorem tm_up_none {Ω : tmO} {a b : Nat} {e : va_E} (h : tm_up Ω a e b = none) : Ω b = none := by
  by_cases hb : b = a
  · subst hb; rw [tm_up_s] at h; cases h
  · rw [tm_up_n hb] at h; exact h
theorem tm_el_up {Ω : tmO} {a v : Nat} {e : va_E} (h : tm_el Ω v) (ha : Ω a = none) : tm_el (tm_up Ω a e) v := by
  obtain ⟨ci, fs, r, h1, h2, h3⟩ := h
  exact ⟨ci, fs, r, by rw [tm_up_n (fun z => by subst z; rw [ha] at h1; cases h1)]; exact h1, h2, h3⟩

set_option maxHeartbeats 4000000 in
set_option maxRecDepth 100000 in
theorem c_J3_checkIndex (γ : tmG) (hst : γ.1.stackTraces = false) {Wd : Type} (h : (Nat → Prop) → Wd → Heap → Prop) (w : Wd) (i k : Int) (hi : 0 ≤ i ∧ i < k ∧ k ≤ 2147483647) : tm_Con γ h M_J3_checkIndex_8e157 1 0 0 [.int (I (i)), .int (I (k)), .null] w (fun v w' => w = w' ∧ v = some (.int (I i))) := by
  refine tm_con hst (by decide) (Nat.le_of_ble_eq_true rfl) (fun x hB hR => ?_)
  have hg := hB.1
  subst hg
  have hC : tm_C x cJ3_checkIndex_8e157 RJ3 (some FieldType.int) := hB.2.2.2.1
  show tm_V x (h (tm_Fz x) w) 0 0 0 [(0, .int (I (i))), (1, .int (I (k))), (2, .null)] []
  refine tm_iload_n 0 hC dJ3_checkIndex_8e157_0 rfl rfl ?_
  refine tm_if_lt 9 hC dJ3_checkIndex_8e157_1 (by decide) (by omega) (fun c_1 => ?_) (fun c_1 => ?_)
  · exact ((by omega) : False).elim
  · refine tm_iload_n 0 hC dJ3_checkIndex_8e157_4 rfl rfl ?_
    refine tm_iload_n 1 hC dJ3_checkIndex_8e157_5 rfl rfl ?_
    refine tm_icmp_lt 16 hC dJ3_checkIndex_8e157_6 (by decide) (by omega) (fun c_6 => ?_) (fun c_6 => ?_)
    · refine tm_iload_n 0 hC dJ3_checkIndex_8e157_16 rfl rfl ?_
      exact tm_iret hC hR dJ3_checkIndex_8e157_17 (⟨rfl, rfl⟩)
    · exact ((by omega) : False).elim

set_option maxHeartbeats 4000000 in
set_option maxRecDepth 100000 in
theorem c_J15_checkIndex (γ : tmG) (hst : γ.1.stackTraces = false) {Wd : Type} (h : (Nat → Prop) → Wd → Heap → Prop) (w : Wd) (i k : Int) (hi : 0 ≤ i ∧ i < k ∧ k ≤ 2147483647) : tm_Con γ h M_J15_checkIndex_7cf53 2 0 0 [.int (I (i)), .int (I (k))] w (fun v w' => w = w' ∧ v = some (.int (I i))) := by
  refine tm_con hst (by decide) (Nat.le_of_ble_eq_true rfl) (fun x hB hR => ?_)
  have hg := hB.1
  subst hg
  have hC : tm_C x cJ15_checkIndex_7cf53 RJ15 (some FieldType.int) := hB.2.2.2.1
  show tm_V x (h (tm_Fz x) w) 0 0 0 [(0, .int (I (i))), (1, .int (I (k)))] []
  refine tm_iload_n 0 hC dJ15_checkIndex_7cf53_0 rfl rfl ?_
  refine tm_iload_n 1 hC dJ15_checkIndex_7cf53_1 rfl rfl ?_
  refine tm_null hC dJ15_checkIndex_7cf53_2 ?_
  refine tm_callS (b := 0) (n := 0) (rest := []) hC (c_J3_checkIndex (tm_g x) hst h _ i k (by omega)) k_J15_105 (by rw [hB.2.2.1]; exact ⟨Nat.le_of_ble_eq_true rfl, Nat.le_of_ble_eq_true rfl⟩) rfl rfl (by decide) dJ15_checkIndex_7cf53_3 (fun v_3 w_3 hp_3 => ?_)
  obtain ⟨rfl, rfl⟩ := hp_3
  show tm_V x (h (tm_Fz x) w) 0 0 6 [(0, .int (I (i))), (1, .int (I (k)))] [.int (I (i))]
  exact tm_iret hC hR dJ15_checkIndex_7cf53_6 (⟨rfl, rfl⟩)

set_option maxHeartbeats 4000000 in
set_option maxRecDepth 100000 in
theorem c_Jxa1e45_init (γ : tmG) (hst : γ.1.stackTraces = false) {Wd : Type} (h : (Nat → Prop) → Wd → Heap → Prop) (w : Wd) (a : Nat) : tm_Con γ h M_Jxa1e45_init_da8c8 1 0 0 [.ref (a)] w (fun v w' => w = w' ∧ v = none) := by
  refine tm_con hst (by decide) (Nat.le_of_ble_eq_true rfl) (fun x hB hR => ?_)
  have hg := hB.1
  subst hg
  have hC : tm_C x cJxa1e45_init_da8c8 RJxa1e45 (none) := hB.2.2.2.1
  show tm_V x (h (tm_Fz x) w) 0 0 0 [(0, .ref (a))] []
  refine tm_aload_n 0 hC dJxa1e45_init_da8c8_0 rfl rfl ?_
  refine tm_objInit hC x_Jxa1e45_1 (by rw [hB.2.2.1]; exact ⟨Nat.le_of_ble_eq_true rfl, Nat.le_of_ble_eq_true rfl⟩) ((by decide)) dJxa1e45_init_da8c8_1 ?_
  exact tm_vret hC hR dJxa1e45_init_da8c8_4 (⟨rfl, rfl⟩)

set_option maxHeartbeats 4000000 in
set_option maxRecDepth 100000 in
theorem c_Jxc12de_init (γ : tmG) (hst : γ.1.stackTraces = false) (Ω : tmO) (a : Nat) (mc : Int32) (ha : Ω a = some (.inr (0, [.int mc, .null, .int (I 0)]))) : tm_Con γ (tm_hol γ.2.1) M_Jxc12de_init_da8c8 2 0 0 [.ref (a)] Ω (fun v w' => tm_up Ω a (.inr (0, [.int (I 0), .null, .int (I 0)])) = w' ∧ v = none) := by
  refine tm_con hst (by decide) (Nat.le_of_ble_eq_true rfl) (fun x hB hR => ?_)
  have hg := hB.1
  subst hg
  have hC : tm_C x cJxc12de_init_da8c8 RJxc12de (none) := hB.2.2.2.1
  show tm_V x (tm_G x Ω) 0 0 0 [(0, .ref (a))] []
  refine tm_aload_n 0 hC dJxc12de_init_da8c8_0 rfl rfl ?_
  refine tm_callI (b := 0) (n := 0) (rest := []) hC (c_Jxa1e45_init (tm_g x) hst (tm_hol (tm_D x)) _ a) k_Jxc12de_1 (by rw [hB.2.2.1]; exact ⟨Nat.le_of_ble_eq_true rfl, Nat.le_of_ble_eq_true rfl⟩) rfl rfl (by decide) dJxc12de_init_da8c8_1 (fun v_1 w_1 hp_1 => ?_)
  obtain ⟨rfl, rfl⟩ := hp_1
  show tm_V x (tm_G x Ω) 0 0 4 [(0, .ref (a))] []
  refine tm_aload_n 0 hC dJxc12de_init_da8c8_4 rfl rfl ?_
  refine tm_iconst hC dJxc12de_init_da8c8_5 ?_
  refine tm_putf1 hC f_Jxc12de_7 ha (tt_0_0 _) (Nat.le_of_ble_eq_true rfl) dJxc12de_init_da8c8_6 ?_
  obtain ⟨w1, hw2⟩ : ∃ z, z = tm_up Ω a (.inr (0, [.int (I (0)), .null, .int (I (0))])) := ⟨_, rfl⟩
  show tm_V x (tm_G x (tm_up Ω a (.inr (0, [.int (I (0)), .null, .int (I (0))])))) 0 0 9 [(0, .ref (a))] []
  rw [← hw2]
  have hw1_a : w1 a = some (.inr (0, [.int (I (0)), .null, .int (I (0))])) := by rw [hw2]; first | done | exact tm_up_s
  exact tm_vret hC hR dJxc12de_init_da8c8_9 (⟨hw2.symm, rfl⟩)

set_option maxHeartbeats 4000000 in
set_option maxRecDepth 100000 in
theorem c_J8_newLength (γ : tmG) (hst : γ.1.stackTraces = false) {Wd : Type} (h : (Nat → Prop) → Wd → Heap → Prop) (w : Wd) (k m g : Int) (hi : 0 ≤ k ∧ k ≤ 100000 ∧ 0 ≤ m ∧ m ≤ 100000 ∧ 0 ≤ g ∧ g ≤ 100000 ∧ 1 ≤ k + max m g) : tm_Con γ h M_J8_newLength_cabcc 1 0 0 [.int (I (k)), .int (I (m)), .int (I (g))] w (fun v w' => w = w' ∧ v = some (.int (I (k + max m g)))) := by
  refine tm_con hst (by decide) (Nat.le_of_ble_eq_true rfl) (fun x hB hR => ?_)
  have hg := hB.1
  subst hg
  have hC : tm_C x cJ8_newLength_cabcc RJ8 (some FieldType.int) := hB.2.2.2.1
  show tm_V x (h (tm_Fz x) w) 0 0 0 [(0, .int (I (k))), (1, .int (I (m))), (2, .int (I (g)))] []
  refine tm_iload_n 0 hC dJ8_newLength_cabcc_0 rfl rfl ?_
  refine tm_iload_n 1 hC dJ8_newLength_cabcc_1 rfl rfl ?_
  refine tm_iload_n 2 hC dJ8_newLength_cabcc_2 rfl rfl ?_
  refine tm_mm hC true x_J8_194 (by omega) (by rw [hB.2.2.1]; exact ⟨Nat.le_of_ble_eq_true rfl, Nat.le_of_ble_eq_true rfl⟩) ((by simp [Value.category])) dJ8_newLength_cabcc_3 ?_
  show tm_V x (h (tm_Fz x) w) 0 0 6 [(0, .int (I (k))), (1, .int (I (m))), (2, .int (I (g)))] [.int (I (max m g)), .int (I (k))]
  refine tm_iadd hC dJ8_newLength_cabcc_6 ?_
  refine tm_istore_n [(3, .int (I (k + (max m g)))), (0, .int (I (k))), (1, .int (I (m))), (2, .int (I (g)))] hC dJ8_newLength_cabcc_7 rfl (by rw [hB.2.1]; exact Nat.le_of_ble_eq_true rfl) rfl ?_
  refine tm_iconst hC dJ8_newLength_cabcc_8 ?_
  refine tm_iload_n 0 hC dJ8_newLength_cabcc_9 rfl rfl ?_
  refine tm_icmp_ge 21 hC dJ8_newLength_cabcc_10 (by decide) (by omega) (fun c_10 => ?_) (fun c_10 => ?_)
  · exact ((by omega) : False).elim
  · refine tm_iload_n 0 hC dJ8_newLength_cabcc_13 rfl rfl ?_
    refine tm_ldc (v := I 2147483639) hC w_J8_200 dJ8_newLength_cabcc_14 ?_
    refine tm_icmp_gt 21 hC dJ8_newLength_cabcc_16 (by decide) (by omega) (fun c_16 => ?_) (fun c_16 => ?_)
    · exact ((by omega) : False).elim
    · refine tm_iload_n 0 hC dJ8_newLength_cabcc_19 rfl rfl ?_
      exact tm_iret hC hR dJ8_newLength_cabcc_20 (⟨rfl, rfl⟩)

set_option maxHeartbeats 4000000 in
set_option maxRecDepth 100000 in
theorem c_J7_copyOf3 (γ : tmG) (hst : γ.1.stackTraces = false) (Ω : tmO) (d cap : Nat) (f : Nat → Option Nat) (k : Int) (hd : Ω d = some (tm_ao γ.2.2.1 cap f)) (hk : (cap : Int) ≤ k ∧ k ≤ 1000) (he : ∀ i : Nat, i < cap → ∀ y : Nat, f i = some y → tm_el Ω y) : tm_Con γ (tm_hol γ.2.1) M_J7_copyOf_6403c 1 1 k.toNat [.ref (d), .int (I (k)), .ref (γ.2.2.2.2)] Ω (fun v w' => ∃ (q : Nat) (g : Nat → Option Nat), Ω q = none ∧ tm_up Ω q (tm_ao γ.2.2.1 k.toNat g) = w' ∧ (∀ i : Nat, i < cap → g i = f i) ∧ v = some (.ref q)) := by
  refine tm_con hst (by decide) (Nat.le_of_ble_eq_true rfl) (fun x hB hR => ?_)
  have hg := hB.1
  subst hg
  have hC : tm_C x cJ7_copyOf_6403c RJ7 (some (FieldType.array (FieldType.object "java/lang/Object"))) := hB.2.2.2.1
  show tm_V x (tm_G x Ω) 1 k.toNat 0 [(0, .ref (d)), (1, .int (I (k))), (2, .ref ((tm_g x).2.2.2.2))] []
  refine tm_aload_n 2 hC dJ7_copyOf_6403c_0 rfl rfl ?_
  refine tm_ldcM hC w_J7_110 dJ7_copyOf_6403c_1 ?_
  refine tm_acmp_ne 13 hC dJ7_copyOf_6403c_3 (by decide) (fun c_3 => ?_) (fun c_3 => ?_)
  · exact absurd rfl c_3
  · refine tm_iload_n 1 hC dJ7_copyOf_6403c_6 rfl rfl ?_
    refine tm_less (b' := 1 + 0) (n' := (k : Int).toNat + 0) ⟨by omega, by omega⟩ ?_
    refine tm_newo1 hC (by omega) w_J7_2 dJ7_copyOf_6403c_7 (fun q1 hq2 => ?_)
    obtain ⟨w3, hw4⟩ : ∃ z, z = tm_up Ω q1 (tm_ao (tm_T x) ((k : Int).toNat) (fun _ => none)) := ⟨_, rfl⟩
    show tm_V x (tm_G x (tm_up Ω q1 (tm_ao (tm_T x) ((k : Int).toNat) (fun _ => none)))) 0 0 10 [(0, .ref (d)), (1, .int (I (k))), (2, .ref ((tm_g x).2.2.2.2))] [.ref (q1)]
    rw [← hw4]
    have hw3_q1 : w3 q1 = some (tm_ao (tm_T x) ((k : Int).toNat) (fun _ => none)) := by rw [hw4]; first | done | exact tm_up_s
    have hw3_d := (show w3 d = _ by rw [hw4]; exact tm_up_n (fun z => by subst z; rw [hd] at hq2; cases hq2)).trans hd
    refine tm_goto 24 hC dJ7_copyOf_6403c_10 (by decide) ?_
    refine tm_astore_n [(3, .ref (q1)), (0, .ref (d)), (1, .int (I (k))), (2, .ref ((tm_g x).2.2.2.2))] hC dJ7_copyOf_6403c_24 rfl (by rw [hB.2.1]; exact Nat.le_of_ble_eq_true rfl) rfl ?_
    refine tm_aload_n 1 hC dJ7_copyOf_6403c_25 rfl rfl ?_
    refine tm_iconst hC dJ7_copyOf_6403c_26 ?_
    refine tm_aload_n 0 hC dJ7_copyOf_6403c_27 rfl rfl ?_
    refine tm_iconst hC dJ7_copyOf_6403c_28 ?_
    refine tm_aload_n 1 hC dJ7_copyOf_6403c_29 rfl rfl ?_
    refine tm_alen1 (t0 := 3) (ty := .object "java/lang/Object") hC hw3_d rfl dJ7_copyOf_6403c_30 ?_
    refine tm_iload_n 2 hC dJ7_copyOf_6403c_31 rfl rfl ?_
    refine tm_mm hC false x_J7_304 (by omega) (by rw [hB.2.2.1]; exact ⟨Nat.le_of_ble_eq_true rfl, Nat.le_of_ble_eq_true rfl⟩) ((by simp [Value.category])) dJ7_copyOf_6403c_32 ?_
    show tm_V x (tm_G x w3) 0 0 35 [(3, .ref (q1)), (0, .ref (d)), (1, .int (I (k))), (2, .ref ((tm_g x).2.2.2.2))] [.int (I (min ((cap : Nat) : Int) k)), .int (I (0)), .ref (q1), .int (I (0)), .ref (d)]
    refine tm_copy1 hC x_J7_150 hw3_d hw3_q1 (by omega) (fun i hi y hy => by rw [hw4]; exact tm_el_up (he i (by omega) y (by simpa using hy)) hq2) (by rw [hB.2.2.1]; exact ⟨Nat.le_of_ble_eq_true rfl, Nat.le_of_ble_eq_true rfl⟩) (by decide) dJ7_copyOf_6403c_35 ?_
    obtain ⟨w5, hw6⟩ : ∃ z, z = tm_up w3 q1 (tm_ao (tm_T x) ((k : Int).toNat) (va_cpy f (fun _ => none) (0 : Int).toNat (0 : Int).toNat (min ((cap : Nat) : Int) k : Int).toNat)) := ⟨_, rfl⟩
    show tm_V x (tm_G x (tm_up w3 q1 (tm_ao (tm_T x) ((k : Int).toNat) (va_cpy f (fun _ => none) (0 : Int).toNat (0 : Int).toNat (min ((cap : Nat) : Int) k : Int).toNat)))) 0 0 38 [(3, .ref (q1)), (0, .ref (d)), (1, .int (I (k))), (2, .ref ((tm_g x).2.2.2.2))] []
    rw [← hw6]
    have hw5_q1 : w5 q1 = some (tm_ao (tm_T x) ((k : Int).toNat) (va_cpy f (fun _ => none) (0 : Int).toNat (0 : Int).toNat (min ((cap : Nat) : Int) k : Int).toNat)) := by rw [hw6]; first | done | exact tm_up_s
    refine tm_aload_n 0 hC dJ7_copyOf_6403c_38 rfl rfl ?_
    exact tm_aret hC hR (Or.inr ⟨_, rfl⟩) dJ7_copyOf_6403c_39 (⟨q1, _, hq2, (hw6.trans (by rw [hw4]; exact tm_up_up)).symm, fun i hi => (pk_cpy_in (by omega) (by omega)).trans (by congr 1; omega), rfl⟩)

set_option maxHeartbeats 4000000 in
set_option maxRecDepth 100000 in
theorem c_J7_copyOf2 (γ : tmG) (hst : γ.1.stackTraces = false) (Ω : tmO) (d cap : Nat) (f : Nat → Option Nat) (k : Int) (hd : Ω d = some (tm_ao γ.2.2.1 cap f)) (hk : (cap : Int) ≤ k ∧ k ≤ 1000) (he : ∀ i : Nat, i < cap → ∀ y : Nat, f i = some y → tm_el Ω y) : tm_Con γ (tm_hol γ.2.1) M_J7_copyOf_1904c 2 1 k.toNat [.ref (d), .int (I (k))] Ω (fun v w' => ∃ (q : Nat) (g : Nat → Option Nat), Ω q = none ∧ tm_up Ω q (tm_ao γ.2.2.1 k.toNat g) = w' ∧ (∀ i : Nat, i < cap → g i = f i) ∧ v = some (.ref q)) := by
  refine tm_con hst (by decide) (Nat.le_of_ble_eq_true rfl) (fun x hB hR => ?_)
  have hg := hB.1
  subst hg
  have hC : tm_C x cJ7_copyOf_1904c RJ7 (some (FieldType.array (FieldType.object "java/lang/Object"))) := hB.2.2.2.1
  show tm_V x (tm_G x Ω) 1 k.toNat 0 [(0, .ref (d)), (1, .int (I (k)))] []
  refine tm_aload_n 0 hC dJ7_copyOf_1904c_0 rfl rfl ?_
  refine tm_iload_n 1 hC dJ7_copyOf_1904c_1 rfl rfl ?_
  refine tm_aload_n 0 hC dJ7_copyOf_1904c_2 rfl rfl ?_
  refine tm_getC1 hC hd x_J7_86 (by rw [hB.2.2.1]; exact ⟨Nat.le_of_ble_eq_true rfl, Nat.le_of_ble_eq_true rfl⟩) (by simp [Value.category]) dJ7_copyOf_1904c_3 ?_
  refine tm_less (b' := 1 + 0) (n' := k.toNat + 0) ⟨by omega, by omega⟩ ?_
  refine tm_callS (b := 0) (n := 0) (rest := []) hC (c_J7_copyOf3 (tm_g x) hst _ d cap f k hd hk he) k_J7_300 (by rw [hB.2.2.1]; exact ⟨Nat.le_of_ble_eq_true rfl, Nat.le_of_ble_eq_true rfl⟩) rfl rfl (by decide) dJ7_copyOf_1904c_6 (fun v_6 w_6 hp_6 => ?_)
  obtain ⟨q, g, hq, hw, hg, rfl⟩ := hp_6
  show tm_V x (tm_G x w_6) 0 0 9 [(0, .ref (d)), (1, .int (I (k)))] [.ref (q)]
  exact tm_aret hC hR (Or.inr ⟨_, rfl⟩) dJ7_copyOf_1904c_9 (⟨q, g, hq, hw, hg, rfl⟩)

set_option maxHeartbeats 4000000 in
set_option maxRecDepth 100000 in
theorem c_growA (γ : tmG) (hst : γ.1.stackTraces = false) (Ω : tmO) (a n : Nat) (mc : Int32) (f : Nat → Option Nat) (ha : Ω a = some (.inr (0, [.int mc, .ref γ.2.2.2.1, .int (I n)]))) (hn : n = 0) : tm_Con γ (tm_hol γ.2.1) M_Jx4a65c_grow_92f84 4 1 400 [.ref (a), .int (I ((n : Int) + 1))] Ω (fun v w' => ∃ (q cap' : Nat) (g : Nat → Option Nat), Ω q = none ∧ tm_up (tm_up Ω q (tm_ao γ.2.2.1 cap' g)) a (.inr (0, [.int mc, .ref q, .int (I n)])) = w' ∧ (n < cap' ∧ 10 ≤ cap' ∧ cap' ≤ 400) ∧ (∀ i : Nat, i < n → g i = f i) ∧ v = some (.ref q)) := by
  refine tm_con hst (by decide) (Nat.le_of_ble_eq_true rfl) (fun x hB hR => ?_)
  have hg := hB.1
  subst hg
  have hC : tm_C x cJx4a65c_grow_92f84 RJx4a65c (some (FieldType.array (FieldType.object "java/lang/Object"))) := hB.2.2.2.1
  show tm_V x (tm_G x Ω) 1 400 0 [(0, .ref (a)), (1, .int (I ((n : Int) + 1)))] []
  refine tm_aload_n 0 hC dJx4a65c_grow_92f84_0 rfl rfl ?_
  refine tm_getf1 hC f_Jx4a65c_9 ha rfl dJx4a65c_grow_92f84_1 ?_
  refine tm_alen0 hC dJx4a65c_grow_92f84_4 ?_
  refine tm_istore_n [(2, .int (I (0))), (0, .ref (a)), (1, .int (I ((n : Int) + 1)))] hC dJx4a65c_grow_92f84_5 rfl (by rw [hB.2.1]; exact Nat.le_of_ble_eq_true rfl) rfl ?_
  refine tm_iload_n 0 hC dJx4a65c_grow_92f84_6 rfl rfl ?_
  refine tm_if_gt 20 hC dJx4a65c_grow_92f84_7 (by decide) (by omega) (fun c_7 => ?_) (fun c_7 => ?_)
  case refine_1 => exact absurd c_7 (by omega)
  refine tm_aload_n 1 hC dJx4a65c_grow_92f84_10 rfl rfl ?_
  refine tm_getf1 hC f_Jx4a65c_9 ha rfl dJx4a65c_grow_92f84_11 ?_
  refine tm_gets hC w_Jx4a65c_39 dJx4a65c_grow_92f84_14 ?_
  refine tm_acmp_eq 45 hC dJx4a65c_grow_92f84_17 (by decide) (fun c_17 => ?_) (fun c_17 => ?_)
  · refine tm_aload_n 1 hC dJx4a65c_grow_92f84_45 rfl rfl ?_
    refine tm_bipush hC dJx4a65c_grow_92f84_46 rfl ?_
    refine tm_iload_n 2 hC dJx4a65c_grow_92f84_48 rfl rfl ?_
    refine tm_mm hC true x_Jx4a65c_79 (by omega) (by rw [hB.2.2.1]; exact ⟨Nat.le_of_ble_eq_true rfl, Nat.le_of_ble_eq_true rfl⟩) ((by simp [Value.category])) dJx4a65c_grow_92f84_49 ?_
    show tm_V x (tm_G x Ω) 1 400 52 [(2, .int (I (0))), (0, .ref (a)), (1, .int (I ((n : Int) + 1)))] [.int (I (max 10 ((n : Int) + 1))), .ref (a)]
    refine tm_less (b' := 1 + 0) (n' := (max 10 ((n : Int) + 1) : Int).toNat + 0) ⟨by omega, by omega⟩ ?_
    refine tm_newo1 hC (by omega) w_Jx4a65c_7 dJx4a65c_grow_92f84_52 (fun q1 hq2 => ?_)
    obtain ⟨w3, hw4⟩ : ∃ z, z = tm_up Ω q1 (tm_ao (tm_T x) ((max 10 ((n : Int) + 1) : Int).toNat) (fun _ => none)) := ⟨_, rfl⟩
    show tm_V x (tm_G x (tm_up Ω q1 (tm_ao (tm_T x) ((max 10 ((n : Int) + 1) : Int).toNat) (fun _ => none)))) 0 0 55 [(2, .int (I (0))), (0, .ref (a)), (1, .int (I ((n : Int) + 1)))] [.ref (q1), .ref (a)]
    rw [← hw4]
    have hw3_q1 : w3 q1 = some (tm_ao (tm_T x) ((max 10 ((n : Int) + 1) : Int).toNat) (fun _ => none)) := by rw [hw4]; first | done | exact tm_up_s
    have hw3_a := (show w3 a = _ by rw [hw4]; exact tm_up_n (fun z => by subst z; rw [ha] at hq2; cases hq2)).trans ha
    refine tm_dup_x1 hC dJx4a65c_grow_92f84_55 rfl rfl ?_
    refine tm_putf1 hC f_Jx4a65c_9 hw3_a (tt_0_1 _) (Nat.le_of_ble_eq_true rfl) dJx4a65c_grow_92f84_56 ?_
    obtain ⟨w5, hw6⟩ : ∃ z, z = tm_up w3 a (.inr (0, [.int (mc), .ref (q1), .int (I ((n : Int)))])) := ⟨_, rfl⟩
    show tm_V x (tm_G x (tm_up w3 a (.inr (0, [.int (mc), .ref (q1), .int (I ((n : Int)))])))) 0 0 59 [(2, .int (I (0))), (0, .ref (a)), (1, .int (I ((n : Int) + 1)))] [.ref (q1)]
    rw [← hw6]
    have hw5_a : w5 a = some (.inr (0, [.int (mc), .ref (q1), .int (I ((n : Int)))])) := by rw [hw6]; first | done | exact tm_up_s
    have hw5_q1 := (show w5 q1 = _ by rw [hw6]; exact tm_up_n (fun z => absurd (hw3_a.symm.trans (z ▸ hw3_q1)) (by intro q; cases q))).trans hw3_q1
    exact tm_aret hC hR (Or.inr ⟨_, rfl⟩) dJx4a65c_grow_92f84_59 (⟨_, _, _, hq2, by rw [hw6, hw4], by omega, fun i hi => absurd hi (by omega), rfl⟩)
  · exact absurd rfl c_17

set_option maxHeartbeats 4000000 in
set_option maxRecDepth 100000 in
theorem c_growB (γ : tmG) (hst : γ.1.stackTraces = false) (Ω : tmO) (a d n : Nat) (mc : Int32) (f : Nat → Option Nat) (ha : Ω a = some (.inr (0, [.int mc, .ref d, .int (I n)]))) (hd : Ω d = some (tm_ao γ.2.2.1 n f)) (hn : 10 ≤ n ∧ n ≤ 250) (he : ∀ i : Nat, i < n → ∀ y : Nat, f i = some y → tm_el Ω y) : tm_Con γ (tm_hol γ.2.1) M_Jx4a65c_grow_92f84 4 1 400 [.ref (a), .int (I ((n : Int) + 1))] Ω (fun v w' => ∃ (q cap' : Nat) (g : Nat → Option Nat), Ω q = none ∧ tm_up (tm_up Ω q (tm_ao γ.2.2.1 cap' g)) a (.inr (0, [.int mc, .ref q, .int (I n)])) = w' ∧ (n < cap' ∧ 10 ≤ cap' ∧ cap' ≤ 400) ∧ (∀ i : Nat, i < n → g i = f i) ∧ v = some (.ref q)) := by
  refine tm_con hst (by decide) (Nat.le_of_ble_eq_true rfl) (fun x hB hR => ?_)
  have hg := hB.1
  subst hg
  have hC : tm_C x cJx4a65c_grow_92f84 RJx4a65c (some (FieldType.array (FieldType.object "java/lang/Object"))) := hB.2.2.2.1
  show tm_V x (tm_G x Ω) 1 400 0 [(0, .ref (a)), (1, .int (I ((n : Int) + 1)))] []
  refine tm_aload_n 0 hC dJx4a65c_grow_92f84_0 rfl rfl ?_
  refine tm_getf1 hC f_Jx4a65c_9 ha rfl dJx4a65c_grow_92f84_1 ?_
  refine tm_alen1 (t0 := 3) (ty := .object "java/lang/Object") hC hd rfl dJx4a65c_grow_92f84_4 ?_
  refine tm_istore_n [(2, .int (I (((n : Nat) : Int)))), (0, .ref (a)), (1, .int (I ((n : Int) + 1)))] hC dJx4a65c_grow_92f84_5 rfl (by rw [hB.2.1]; exact Nat.le_of_ble_eq_true rfl) rfl ?_
  refine tm_iload_n 0 hC dJx4a65c_grow_92f84_6 rfl rfl ?_
  refine tm_if_gt 20 hC dJx4a65c_grow_92f84_7 (by decide) (by omega) (fun c_7 => ?_) (fun c_7 => ?_)
  · refine tm_iload_n 0 hC dJx4a65c_grow_92f84_20 rfl rfl ?_
    refine tm_iload_n 2 hC dJx4a65c_grow_92f84_21 rfl rfl ?_
    refine tm_iload_n 0 hC dJx4a65c_grow_92f84_22 rfl rfl ?_
    refine tm_isub hC dJx4a65c_grow_92f84_23 ?_
    refine tm_iload_n 0 hC dJx4a65c_grow_92f84_24 rfl rfl ?_
    refine tm_iconst hC dJx4a65c_grow_92f84_25 ?_
    refine tm_ishr1 hC dJx4a65c_grow_92f84_26 (by omega) ?_
    refine tm_callS (b := 1) (n := 400) (rest := []) hC (c_J8_newLength (tm_g x) hst (tm_hol (tm_D x)) _ _ _ _ (by omega)) k_Jx4a65c_73 (by rw [hB.2.2.1]; exact ⟨Nat.le_of_ble_eq_true rfl, Nat.le_of_ble_eq_true rfl⟩) rfl rfl (by decide) dJx4a65c_grow_92f84_27 (fun v_27 w_27 hp_27 => ?_)
    obtain ⟨rfl, rfl⟩ := hp_27
    show tm_V x (tm_G x Ω) 1 400 30 [(2, .int (I (((n : Nat) : Int)))), (0, .ref (a)), (1, .int (I ((n : Int) + 1)))] [.int (I ((n : Int) + max ((n : Int) + 1 - (n : Int)) ((n : Int) / 2)))]
    refine tm_istore_n [(3, .int (I ((n : Int) + max ((n : Int) + 1 - (n : Int)) ((n : Int) / 2)))), (2, .int (I (((n : Nat) : Int)))), (0, .ref (a)), (1, .int (I ((n : Int) + 1)))] hC dJx4a65c_grow_92f84_30 rfl (by rw [hB.2.1]; exact Nat.le_of_ble_eq_true rfl) rfl ?_
    refine tm_aload_n 2 hC dJx4a65c_grow_92f84_31 rfl rfl ?_
    refine tm_aload_n 2 hC dJx4a65c_grow_92f84_32 rfl rfl ?_
    refine tm_getf1 hC f_Jx4a65c_9 ha rfl dJx4a65c_grow_92f84_33 ?_
    refine tm_iload_n 0 hC dJx4a65c_grow_92f84_36 rfl rfl ?_
    refine tm_less (b' := 1 + 0) (n' := (((n : Int) + max ((n : Int) + 1 - (n : Int)) ((n : Int) / 2) : Int).toNat) + 0) ⟨by omega, by omega⟩ ?_
    refine tm_callS (b := 0) (n := 0) (rest := [.ref (a)]) hC (c_J7_copyOf2 (tm_g x) hst _ d n f _ hd (by omega) he) k_Jx4a65c_66 (by rw [hB.2.2.1]; exact ⟨Nat.le_of_ble_eq_true rfl, Nat.le_of_ble_eq_true rfl⟩) rfl rfl (by simp [Value.category]) dJx4a65c_grow_92f84_37 (fun v_37 w_37 hp_37 => ?_)
    obtain ⟨q, g, hq, rfl, hg, rfl⟩ := hp_37
    have ha2 : (tm_up Ω q (tm_ao (tm_T x) ((n : Int) + max ((n : Int) + 1 - (n : Int)) ((n : Int) / 2) : Int).toNat g)) a = some (.inr (0, [.int mc, .ref d, .int (I n)])) := (tm_up_n (fun z => by subst z; rw [hq] at ha; cases ha)).trans ha
    show tm_V x (tm_G x (tm_up Ω q (tm_ao (tm_T x) ((n : Int) + max ((n : Int) + 1 - (n : Int)) ((n : Int) / 2) : Int).toNat g))) 0 0 40 [(3, .int (I ((n : Int) + max ((n : Int) + 1 - (n : Int)) ((n : Int) / 2)))), (2, .int (I (((n : Nat) : Int)))), (0, .ref (a)), (1, .int (I ((n : Int) + 1)))] [.ref (q), .ref (a)]
    refine tm_dup_x1 hC dJx4a65c_grow_92f84_40 rfl rfl ?_
    refine tm_putf1 hC f_Jx4a65c_9 ha2 (tt_0_1 _) (Nat.le_of_ble_eq_true rfl) dJx4a65c_grow_92f84_41 ?_
    obtain ⟨w1, hw2⟩ : ∃ z, z = tm_up (tm_up Ω q (tm_ao (tm_T x) ((n : Int) + max ((n : Int) + 1 - (n : Int)) ((n : Int) / 2) : Int).toNat g)) a (.inr (0, [.int (mc), .ref (q), .int (I ((n : Int)))])) := ⟨_, rfl⟩
    show tm_V x (tm_G x (tm_up (tm_up Ω q (tm_ao (tm_T x) ((n : Int) + max ((n : Int) + 1 - (n : Int)) ((n : Int) / 2) : Int).toNat g)) a (.inr (0, [.int (mc), .ref (q), .int (I ((n : Int)))])))) 0 0 44 [(3, .int (I ((n : Int) + max ((n : Int) + 1 - (n : Int)) ((n : Int) / 2)))), (2, .int (I (((n : Nat) : Int)))), (0, .ref (a)), (1, .int (I ((n : Int) + 1)))] [.ref (q)]
    rw [← hw2]
    have hw1_a : w1 a = some (.inr (0, [.int (mc), .ref (q), .int (I ((n : Int)))])) := by rw [hw2]; first | done | exact tm_up_s
    exact tm_aret hC hR (Or.inr ⟨_, rfl⟩) dJx4a65c_grow_92f84_44 (⟨_, _, _, hq, by rw [hw2], by omega, hg, rfl⟩)
  · exact ((by omega) : False).elim

theorem c_growI (γ : tmG) (hst : γ.1.stackTraces = false) (Ω : tmO) (a d n : Nat) (mc : Int32) (f : Nat → Option Nat) (ha : Ω a = some (.inr (0, [.int mc, .ref d, .int (I n)]))) (h : ((d = γ.2.2.2.1 ∧ n = 0) ∨ (Ω d = some (tm_ao γ.2.2.1 n f) ∧ (10 ≤ n ∧ n ≤ 250) ∧ ∀ i : Nat, i < n → ∀ y : Nat, f i = some y → tm_el Ω y))) : tm_Con γ (tm_hol γ.2.1) M_Jx4a65c_grow_92f84 4 1 400 [.ref a, .int (I ((n : Int) + 1))] Ω (fun v w' => ∃ (q cap' : Nat) (g : Nat → Option Nat), Ω q = none ∧ tm_up (tm_up Ω q (tm_ao γ.2.2.1 cap' g)) a (.inr (0, [.int mc, .ref q, .int (I n)])) = w' ∧ (n < cap' ∧ 10 ≤ cap' ∧ cap' ≤ 400) ∧ (∀ i : Nat, i < n → g i = f i) ∧ v = some (.ref q)) := by
  rcases h with ⟨h1, h2⟩ | ⟨h1, h2, h3⟩
  · subst h1; exact c_growA γ hst Ω a n mc f ha h2
  · exact c_growB γ hst Ω a d n mc f ha h1 h2 h3

set_option maxHeartbeats 4000000 in
set_option maxRecDepth 100000 in
theorem c_grow0 (γ : tmG) (hst : γ.1.stackTraces = false) (Ω : tmO) (a d n : Nat) (mc : Int32) (f : Nat → Option Nat) (ha : Ω a = some (.inr (0, [.int mc, .ref d, .int (I n)]))) (h : ((d = γ.2.2.2.1 ∧ n = 0) ∨ (Ω d = some (tm_ao γ.2.2.1 n f) ∧ (10 ≤ n ∧ n ≤ 250) ∧ ∀ i : Nat, i < n → ∀ y : Nat, f i = some y → tm_el Ω y))) : tm_Con γ (tm_hol γ.2.1) M_Jx4a65c_grow_d5877 5 1 400 [.ref (a)] Ω (fun v w' => ∃ (q cap' : Nat) (g : Nat → Option Nat), Ω q = none ∧ tm_up (tm_up Ω q (tm_ao γ.2.2.1 cap' g)) a (.inr (0, [.int mc, .ref q, .int (I n)])) = w' ∧ (n < cap' ∧ 10 ≤ cap' ∧ cap' ≤ 400) ∧ (∀ i : Nat, i < n → g i = f i) ∧ v = some (.ref q)) := by
  refine tm_con hst (by decide) (Nat.le_of_ble_eq_true rfl) (fun x hB hR => ?_)
  have hg := hB.1
  subst hg
  have hC : tm_C x cJx4a65c_grow_d5877 RJx4a65c (some (FieldType.array (FieldType.object "java/lang/Object"))) := hB.2.2.2.1
  show tm_V x (tm_G x Ω) 1 400 0 [(0, .ref (a))] []
  refine tm_aload_n 0 hC dJx4a65c_grow_d5877_0 rfl rfl ?_
  refine tm_aload_n 0 hC dJx4a65c_grow_d5877_1 rfl rfl ?_
  refine tm_getf1 hC f_Jx4a65c_48 ha rfl dJx4a65c_grow_d5877_2 ?_
  refine tm_iconst hC dJx4a65c_grow_d5877_5 ?_
  refine tm_iadd hC dJx4a65c_grow_d5877_6 ?_
  refine tm_less (b' := 1 + 0) (n' := 400 + 0) ⟨by omega, by omega⟩ ?_
  refine tm_callV (b := 0) (n := 0) (rest := []) hC (c_growI (tm_g x) hst Ω a d n mc f ha h) k_Jx4a65c_69 (by rw [hB.2.2.1]; exact ⟨Nat.le_of_ble_eq_true rfl, Nat.le_of_ble_eq_true rfl⟩) rfl (tm_rec1 hC ha rfl) rfl (by decide) dJx4a65c_grow_d5877_7 (fun v_7 w_7 hp_7 => ?_)
  obtain ⟨q, cap', g, hq, hw, hc, hg, rfl⟩ := hp_7
  show tm_V x (tm_G x w_7) 0 0 10 [(0, .ref (a))] [.ref (q)]
  exact tm_aret hC hR (Or.inr ⟨_, rfl⟩) dJx4a65c_grow_d5877_10 (⟨q, cap', g, hq, hw, hc, hg, rfl⟩)

set_option maxHeartbeats 4000000 in
set_option maxRecDepth 100000 in
theorem c_add3A (γ : tmG) (hst : γ.1.stackTraces = false) (Ω : tmO) (a d n v0 : Nat) (mc : Int32) (f : Nat → Option Nat) (ha : Ω a = some (.inr (0, [.int mc, .ref γ.2.2.2.1, .int (I n)]))) (hv : tm_el Ω v0) (hn : n = 0) : tm_Con γ (tm_hol γ.2.1) M_Jx4a65c_add_72be8 6 1 400 [.ref (a), .ref (v0), .ref (γ.2.2.2.1), .int (I ((n : Int)))] Ω (fun v w' => v = none ∧ ∃ (d' cap' : Nat) (g : Nat → Option Nat), (Ω d' = none ∨ (d' = γ.2.2.2.1 ∧ Ω γ.2.2.2.1 ≠ none)) ∧ (∀ b, b ≠ a → b ≠ d' → w' b = Ω b) ∧ w' a = some (.inr (0, [.int mc, .ref d', .int (I ((n : Int) + 1))])) ∧ w' d' = some (tm_ao γ.2.2.1 cap' g) ∧ (n + 1 ≤ cap' ∧ cap' ≤ 400 ∧ 10 ≤ cap') ∧ g n = some v0 ∧ ∀ i : Nat, i < n → g i = f i) := by
  refine tm_con hst (by decide) (Nat.le_of_ble_eq_true rfl) (fun x hB hR => ?_)
  have hg := hB.1
  subst hg
  have hC : tm_C x cJx4a65c_add_72be8 RJx4a65c (none) := hB.2.2.2.1
  show tm_V x (tm_G x Ω) 1 400 0 [(0, .ref (a)), (1, .ref (v0)), (2, .ref ((tm_g x).2.2.2.1)), (3, .int (I ((n : Int))))] []
  refine tm_iload_n 3 hC dJx4a65c_add_72be8_0 rfl rfl ?_
  refine tm_aload_n 2 hC dJx4a65c_add_72be8_1 rfl rfl ?_
  refine tm_alen0 hC dJx4a65c_add_72be8_2 ?_
  refine tm_icmp_ne 11 hC dJx4a65c_add_72be8_3 (by decide) (by omega) (fun c_3 => ?_) (fun c_3 => ?_)
  · exact ((by omega) : False).elim
  · refine tm_aload_n 0 hC dJx4a65c_add_72be8_6 rfl rfl ?_
    refine tm_less (b' := 1 + 0) (n' := 400 + 0) ⟨by omega, by omega⟩ ?_
    refine tm_callV (b := 0) (n := 0) (rest := []) hC (c_grow0 (tm_g x) hst Ω a (tm_e0 x) n mc f ha (Or.inl ⟨rfl, hn⟩)) k_Jx4a65c_129 (by rw [hB.2.2.1]; exact ⟨Nat.le_of_ble_eq_true rfl, Nat.le_of_ble_eq_true rfl⟩) rfl (tm_rec1 hC ha rfl) rfl (by decide) dJx4a65c_add_72be8_7 (fun v_7 w_7 hp_7 => ?_)
    obtain ⟨q, cap', g, hq, hw, hc, hg, rfl⟩ := hp_7
    have hqa : q ≠ a := fun z => by subst z; rw [hq] at ha; cases ha
    have hv2 : tm_el w_7 v0 := by rw [← hw]; exact tm_el_put (tm_el_up hv hq) ((tm_up_n (Ne.symm hqa)).trans ha)
    have ha2 : w_7 a = some (.inr (0, [.int mc, .ref q, .int (I n)])) := by rw [← hw]; exact tm_up_s
    have hq2 : w_7 q = some (tm_ao (tm_T x) cap' g) := by rw [← hw, tm_up_n hqa]; exact tm_up_s
    show tm_V x (tm_G x w_7) 0 0 10 [(0, .ref (a)), (1, .ref (v0)), (2, .ref (tm_e0 x)), (3, .int (I ((n : Int))))] [.ref (q)]
    refine tm_astore_n [(2, .ref (q)), (0, .ref (a)), (1, .ref (v0)), (3, .int (I ((n : Int))))] hC dJx4a65c_add_72be8_10 rfl (by rw [hB.2.1]; exact Nat.le_of_ble_eq_true rfl) rfl ?_
    refine tm_aload_n 0 hC dJx4a65c_add_72be8_11 rfl rfl ?_
    refine tm_iload_n 3 hC dJx4a65c_add_72be8_12 rfl rfl ?_
    refine tm_aload_n 2 hC dJx4a65c_add_72be8_13 rfl rfl ?_
    refine tm_aast1 hC hq2 (by omega) (hv2) dJx4a65c_add_72be8_14 ?_
    obtain ⟨w1, hw2⟩ : ∃ z, z = tm_up w_7 q (tm_ao (tm_T x) cap' (va_up g ((n : Int) : Int).toNat (some v0))) := ⟨_, rfl⟩
    show tm_V x (tm_G x (tm_up w_7 q (tm_ao (tm_T x) cap' (va_up g ((n : Int) : Int).toNat (some v0))))) 0 0 15 [(2, .ref (q)), (0, .ref (a)), (1, .ref (v0)), (3, .int (I ((n : Int))))] []
    rw [← hw2]
    have hw1_q : w1 q = some (tm_ao (tm_T x) cap' (va_up g ((n : Int) : Int).toNat (some v0))) := by rw [hw2]; first | done | exact tm_up_s
    have hw1_a := (show w1 a = _ by rw [hw2]; exact tm_up_n (fun z => absurd (hq2.symm.trans (z ▸ ha2)) (by intro q; cases q))).trans ha2
    refine tm_aload_n 1 hC dJx4a65c_add_72be8_15 rfl rfl ?_
    refine tm_iload_n 3 hC dJx4a65c_add_72be8_16 rfl rfl ?_
    refine tm_iconst hC dJx4a65c_add_72be8_17 ?_
    refine tm_iadd hC dJx4a65c_add_72be8_18 ?_
    refine tm_putf1 hC f_Jx4a65c_48 hw1_a (tt_0_2 _) (Nat.le_of_ble_eq_true rfl) dJx4a65c_add_72be8_19 ?_
    obtain ⟨w3, hw4⟩ : ∃ z, z = tm_up w1 a (.inr (0, [.int (mc), .ref (q), .int (I ((n : Int) + 1))])) := ⟨_, rfl⟩
    show tm_V x (tm_G x (tm_up w1 a (.inr (0, [.int (mc), .ref (q), .int (I ((n : Int) + 1))])))) 0 0 22 [(2, .ref (q)), (0, .ref (a)), (1, .ref (v0)), (3, .int (I ((n : Int))))] []
    rw [← hw4]
    have hw3_a : w3 a = some (.inr (0, [.int (mc), .ref (q), .int (I ((n : Int) + 1))])) := by rw [hw4]; first | done | exact tm_up_s
    have hw3_q := (show w3 q = _ by rw [hw4]; exact tm_up_n (fun z => absurd (hw1_a.symm.trans (z ▸ hw1_q)) (by intro q; cases q))).trans hw1_q
    exact tm_vret hC hR dJx4a65c_add_72be8_22 (⟨rfl, q, cap', va_up g ((n : Int)).toNat (some v0), Or.inl hq, fun b hb1 hb2 => by rw [hw4, tm_up_n hb1, hw2, tm_up_n hb2, ← hw, tm_up_n hb1, tm_up_n hb2], by rw [hw4]; exact tm_up_s, (by rw [hw4, tm_up_n (hqa), hw2]; exact tm_up_s), by omega, if_pos rfl, fun i hi => (if_neg (by omega)).trans (hg i hi)⟩)

set_option maxHeartbeats 4000000 in
set_option maxRecDepth 100000 in
theorem c_add3B (γ : tmG) (hst : γ.1.stackTraces = false) (Ω : tmO) (a d n v0 : Nat) (mc : Int32) (f : Nat → Option Nat) (ha : Ω a = some (.inr (0, [.int mc, .ref d, .int (I n)]))) (hv : tm_el Ω v0) (hd : Ω d = some (tm_ao γ.2.2.1 n f)) (hn : 10 ≤ n ∧ n ≤ 250) (he : ∀ i : Nat, i < n → ∀ y : Nat, f i = some y → tm_el Ω y) : tm_Con γ (tm_hol γ.2.1) M_Jx4a65c_add_72be8 6 1 400 [.ref (a), .ref (v0), .ref (d), .int (I ((n : Int)))] Ω (fun v w' => v = none ∧ ∃ (d' cap' : Nat) (g : Nat → Option Nat), (Ω d' = none ∨ (d' = d ∧ Ω d ≠ none)) ∧ (∀ b, b ≠ a → b ≠ d' → w' b = Ω b) ∧ w' a = some (.inr (0, [.int mc, .ref d', .int (I ((n : Int) + 1))])) ∧ w' d' = some (tm_ao γ.2.2.1 cap' g) ∧ (n + 1 ≤ cap' ∧ cap' ≤ 400 ∧ 10 ≤ cap') ∧ g n = some v0 ∧ ∀ i : Nat, i < n → g i = f i) := by
  refine tm_con hst (by decide) (Nat.le_of_ble_eq_true rfl) (fun x hB hR => ?_)
  have hg := hB.1
  subst hg
  have hC : tm_C x cJx4a65c_add_72be8 RJx4a65c (none) := hB.2.2.2.1
  show tm_V x (tm_G x Ω) 1 400 0 [(0, .ref (a)), (1, .ref (v0)), (2, .ref (d)), (3, .int (I ((n : Int))))] []
  refine tm_iload_n 3 hC dJx4a65c_add_72be8_0 rfl rfl ?_
  refine tm_aload_n 2 hC dJx4a65c_add_72be8_1 rfl rfl ?_
  refine tm_alen1 (t0 := 3) (ty := .object "java/lang/Object") hC hd rfl dJx4a65c_add_72be8_2 ?_
  refine tm_icmp_ne 11 hC dJx4a65c_add_72be8_3 (by decide) (by omega) (fun c_3 => ?_) (fun c_3 => ?_)
  · exact ((by omega) : False).elim
  · refine tm_aload_n 0 hC dJx4a65c_add_72be8_6 rfl rfl ?_
    refine tm_less (b' := 1 + 0) (n' := 400 + 0) ⟨by omega, by omega⟩ ?_
    refine tm_callV (b := 0) (n := 0) (rest := []) hC (c_grow0 (tm_g x) hst Ω a d n mc f ha (Or.inr ⟨hd, hn, he⟩)) k_Jx4a65c_129 (by rw [hB.2.2.1]; exact ⟨Nat.le_of_ble_eq_true rfl, Nat.le_of_ble_eq_true rfl⟩) rfl (tm_rec1 hC ha rfl) rfl (by decide) dJx4a65c_add_72be8_7 (fun v_7 w_7 hp_7 => ?_)
    obtain ⟨q, cap', g, hq, hw, hc, hg, rfl⟩ := hp_7
    have hqa : q ≠ a := fun z => by subst z; rw [hq] at ha; cases ha
    have hv2 : tm_el w_7 v0 := by rw [← hw]; exact tm_el_put (tm_el_up hv hq) ((tm_up_n (Ne.symm hqa)).trans ha)
    have ha2 : w_7 a = some (.inr (0, [.int mc, .ref q, .int (I n)])) := by rw [← hw]; exact tm_up_s
    have hq2 : w_7 q = some (tm_ao (tm_T x) cap' g) := by rw [← hw, tm_up_n hqa]; exact tm_up_s
    show tm_V x (tm_G x w_7) 0 0 10 [(0, .ref (a)), (1, .ref (v0)), (2, .ref (d)), (3, .int (I ((n : Int))))] [.ref (q)]
    refine tm_astore_n [(2, .ref (q)), (0, .ref (a)), (1, .ref (v0)), (3, .int (I ((n : Int))))] hC dJx4a65c_add_72be8_10 rfl (by rw [hB.2.1]; exact Nat.le_of_ble_eq_true rfl) rfl ?_
    refine tm_aload_n 0 hC dJx4a65c_add_72be8_11 rfl rfl ?_
    refine tm_iload_n 3 hC dJx4a65c_add_72be8_12 rfl rfl ?_
    refine tm_aload_n 2 hC dJx4a65c_add_72be8_13 rfl rfl ?_
    refine tm_aast1 hC hq2 (by omega) (hv2) dJx4a65c_add_72be8_14 ?_
    obtain ⟨w1, hw2⟩ : ∃ z, z = tm_up w_7 q (tm_ao (tm_T x) cap' (va_up g ((n : Int) : Int).toNat (some v0))) := ⟨_, rfl⟩
    show tm_V x (tm_G x (tm_up w_7 q (tm_ao (tm_T x) cap' (va_up g ((n : Int) : Int).toNat (some v0))))) 0 0 15 [(2, .ref (q)), (0, .ref (a)), (1, .ref (v0)), (3, .int (I ((n : Int))))] []
    rw [← hw2]
    have hw1_q : w1 q = some (tm_ao (tm_T x) cap' (va_up g ((n : Int) : Int).toNat (some v0))) := by rw [hw2]; first | done | exact tm_up_s
    have hw1_a := (show w1 a = _ by rw [hw2]; exact tm_up_n (fun z => absurd (hq2.symm.trans (z ▸ ha2)) (by intro q; cases q))).trans ha2
    refine tm_aload_n 1 hC dJx4a65c_add_72be8_15 rfl rfl ?_
    refine tm_iload_n 3 hC dJx4a65c_add_72be8_16 rfl rfl ?_
    refine tm_iconst hC dJx4a65c_add_72be8_17 ?_
    refine tm_iadd hC dJx4a65c_add_72be8_18 ?_
    refine tm_putf1 hC f_Jx4a65c_48 hw1_a (tt_0_2 _) (Nat.le_of_ble_eq_true rfl) dJx4a65c_add_72be8_19 ?_
    obtain ⟨w3, hw4⟩ : ∃ z, z = tm_up w1 a (.inr (0, [.int (mc), .ref (q), .int (I ((n : Int) + 1))])) := ⟨_, rfl⟩
    show tm_V x (tm_G x (tm_up w1 a (.inr (0, [.int (mc), .ref (q), .int (I ((n : Int) + 1))])))) 0 0 22 [(2, .ref (q)), (0, .ref (a)), (1, .ref (v0)), (3, .int (I ((n : Int))))] []
    rw [← hw4]
    have hw3_a : w3 a = some (.inr (0, [.int (mc), .ref (q), .int (I ((n : Int) + 1))])) := by rw [hw4]; first | done | exact tm_up_s
    have hw3_q := (show w3 q = _ by rw [hw4]; exact tm_up_n (fun z => absurd (hw1_a.symm.trans (z ▸ hw1_q)) (by intro q; cases q))).trans hw1_q
    exact tm_vret hC hR dJx4a65c_add_72be8_22 (⟨rfl, q, cap', va_up g ((n : Int)).toNat (some v0), Or.inl hq, fun b hb1 hb2 => by rw [hw4, tm_up_n hb1, hw2, tm_up_n hb2, ← hw, tm_up_n hb1, tm_up_n hb2], by rw [hw4]; exact tm_up_s, (by rw [hw4, tm_up_n (hqa), hw2]; exact tm_up_s), by omega, if_pos rfl, fun i hi => (if_neg (by omega)).trans (hg i hi)⟩)

set_option maxHeartbeats 4000000 in
set_option maxRecDepth 100000 in
theorem c_add3C (γ : tmG) (hst : γ.1.stackTraces = false) (Ω : tmO) (a d n v0 : Nat) (mc : Int32) (f : Nat → Option Nat) (ha : Ω a = some (.inr (0, [.int mc, .ref d, .int (I n)]))) (hv : tm_el Ω v0) (cap : Nat) (hd : Ω d = some (tm_ao γ.2.2.1 cap f)) (hn : n < cap ∧ cap ≤ 400 ∧ 10 ≤ cap) : tm_Con γ (tm_hol γ.2.1) M_Jx4a65c_add_72be8 6 1 400 [.ref (a), .ref (v0), .ref (d), .int (I ((n : Int)))] Ω (fun v w' => v = none ∧ ∃ (d' cap' : Nat) (g : Nat → Option Nat), (Ω d' = none ∨ (d' = d ∧ Ω d ≠ none)) ∧ (∀ b, b ≠ a → b ≠ d' → w' b = Ω b) ∧ w' a = some (.inr (0, [.int mc, .ref d', .int (I ((n : Int) + 1))])) ∧ w' d' = some (tm_ao γ.2.2.1 cap' g) ∧ (n + 1 ≤ cap' ∧ cap' ≤ 400 ∧ 10 ≤ cap') ∧ g n = some v0 ∧ ∀ i : Nat, i < n → g i = f i) := by
  refine tm_con hst (by decide) (Nat.le_of_ble_eq_true rfl) (fun x hB hR => ?_)
  have hg := hB.1
  subst hg
  have hC : tm_C x cJx4a65c_add_72be8 RJx4a65c (none) := hB.2.2.2.1
  show tm_V x (tm_G x Ω) 1 400 0 [(0, .ref (a)), (1, .ref (v0)), (2, .ref (d)), (3, .int (I ((n : Int))))] []
  refine tm_iload_n 3 hC dJx4a65c_add_72be8_0 rfl rfl ?_
  refine tm_aload_n 2 hC dJx4a65c_add_72be8_1 rfl rfl ?_
  refine tm_alen1 (t0 := 3) (ty := .object "java/lang/Object") hC hd rfl dJx4a65c_add_72be8_2 ?_
  refine tm_icmp_ne 11 hC dJx4a65c_add_72be8_3 (by decide) (by omega) (fun c_3 => ?_) (fun c_3 => ?_)
  · refine tm_aload_n 2 hC dJx4a65c_add_72be8_11 rfl rfl ?_
    refine tm_iload_n 3 hC dJx4a65c_add_72be8_12 rfl rfl ?_
    refine tm_aload_n 1 hC dJx4a65c_add_72be8_13 rfl rfl ?_
    refine tm_aast1 hC hd (by omega) (hv) dJx4a65c_add_72be8_14 ?_
    obtain ⟨w1, hw2⟩ : ∃ z, z = tm_up Ω d (tm_ao (tm_T x) cap (va_up f ((n : Int) : Int).toNat (some v0))) := ⟨_, rfl⟩
    show tm_V x (tm_G x (tm_up Ω d (tm_ao (tm_T x) cap (va_up f ((n : Int) : Int).toNat (some v0))))) 1 400 15 [(0, .ref (a)), (1, .ref (v0)), (2, .ref (d)), (3, .int (I ((n : Int))))] []
    rw [← hw2]
    have hw1_d : w1 d = some (tm_ao (tm_T x) cap (va_up f ((n : Int) : Int).toNat (some v0))) := by rw [hw2]; first | done | exact tm_up_s
    have hw1_a := (show w1 a = _ by rw [hw2]; exact tm_up_n (fun z => absurd (hd.symm.trans (z ▸ ha)) (by intro q; cases q))).trans ha
    refine tm_aload_n 0 hC dJx4a65c_add_72be8_15 rfl rfl ?_
    refine tm_iload_n 3 hC dJx4a65c_add_72be8_16 rfl rfl ?_
    refine tm_iconst hC dJx4a65c_add_72be8_17 ?_
    refine tm_iadd hC dJx4a65c_add_72be8_18 ?_
    refine tm_putf1 hC f_Jx4a65c_48 hw1_a (tt_0_2 _) (Nat.le_of_ble_eq_true rfl) dJx4a65c_add_72be8_19 ?_
    obtain ⟨w3, hw4⟩ : ∃ z, z = tm_up w1 a (.inr (0, [.int (mc), .ref (d), .int (I ((n : Int) + 1))])) := ⟨_, rfl⟩
    show tm_V x (tm_G x (tm_up w1 a (.inr (0, [.int (mc), .ref (d), .int (I ((n : Int) + 1))])))) 1 400 22 [(0, .ref (a)), (1, .ref (v0)), (2, .ref (d)), (3, .int (I ((n : Int))))] []
    rw [← hw4]
    have hw3_a : w3 a = some (.inr (0, [.int (mc), .ref (d), .int (I ((n : Int) + 1))])) := by rw [hw4]; first | done | exact tm_up_s
    have hw3_d := (show w3 d = _ by rw [hw4]; exact tm_up_n (fun z => absurd (hw1_a.symm.trans (z ▸ hw1_d)) (by intro q; cases q))).trans hw1_d
    exact tm_vret hC hR dJx4a65c_add_72be8_22 (⟨rfl, d, cap, va_up f ((n : Int)).toNat (some v0), Or.inr ⟨rfl, by rw [hd]; exact fun z => by cases z⟩, fun b hb1 hb2 => by rw [hw4, tm_up_n hb1, hw2, tm_up_n hb2], by rw [hw4]; exact tm_up_s, (by rw [hw4, tm_up_n (fun z => absurd (z ▸ hd) (by rw [ha]; intro q; cases q)), hw2]; exact tm_up_s), by omega, if_pos rfl, fun i hi => (if_neg (by omega)).trans (rfl)⟩)
  · exact ((by omega) : False).elim

theorem c_add3 (γ : tmG) (hst : γ.1.stackTraces = false) (Ω : tmO) (a d n v0 : Nat) (mc : Int32) (f : Nat → Option Nat) (ha : Ω a = some (.inr (0, [.int mc, .ref d, .int (I n)]))) (hv : tm_el Ω v0) (h : ((d = γ.2.2.2.1 ∧ n = 0) ∨ (∃ cap, Ω d = some (tm_ao γ.2.2.1 cap f) ∧ n ≤ cap ∧ cap ≤ 400 ∧ 10 ≤ cap ∧ n ≤ 250 ∧ ∀ i : Nat, i < n → ∀ y : Nat, f i = some y → tm_el Ω y))) : tm_Con γ (tm_hol γ.2.1) M_Jx4a65c_add_72be8 6 1 400 [.ref a, .ref v0, .ref d, .int (I (n : Int))] Ω (fun v w' => v = none ∧ ∃ (d' cap' : Nat) (g : Nat → Option Nat), (Ω d' = none ∨ (d' = d ∧ Ω d ≠ none)) ∧ (∀ b, b ≠ a → b ≠ d' → w' b = Ω b) ∧ w' a = some (.inr (0, [.int mc, .ref d', .int (I ((n : Int) + 1))])) ∧ w' d' = some (tm_ao γ.2.2.1 cap' g) ∧ (n + 1 ≤ cap' ∧ cap' ≤ 400 ∧ 10 ≤ cap') ∧ g n = some v0 ∧ ∀ i : Nat, i < n → g i = f i) := by
  rcases h with ⟨h1, h2⟩ | ⟨cap, h1, h2, h3, h4, h5, h6⟩
  · subst h1; exact c_add3A γ hst Ω a γ.2.2.2.1 n v0 mc f ha hv h2
  · by_cases hc : n = cap
    · subst hc; exact c_add3B γ hst Ω a d n v0 mc f ha hv h1 ⟨h4, h5⟩ h6
    · exact c_add3C γ hst Ω a d n v0 mc f ha hv cap h1 (by omega)

set_option maxHeartbeats 4000000 in
set_option maxRecDepth 100000 in
theorem c_init1 (γ : tmG) (hst : γ.1.stackTraces = false) (Ω : tmO) (a : Nat) (mc : Int32) (ha : Ω a = some (.inr (0, [.int mc, .null, .int (I 0)]))) : tm_Con γ (tm_hol γ.2.1) M_Jx4a65c_init_da8c8 3 0 0 [.ref (a)] Ω (fun v w' => tm_up Ω a (.inr (0, [.int (I 0), .ref γ.2.2.2.1, .int (I 0)])) = w' ∧ v = none) := by
  refine tm_con hst (by decide) (Nat.le_of_ble_eq_true rfl) (fun x hB hR => ?_)
  have hg := hB.1
  subst hg
  have hC : tm_C x cJx4a65c_init_da8c8 RJx4a65c (none) := hB.2.2.2.1
  show tm_V x (tm_G x Ω) 0 0 0 [(0, .ref (a))] []
  refine tm_aload_n 0 hC dJx4a65c_init_da8c8_0 rfl rfl ?_
  refine tm_callI (b := 0) (n := 0) (rest := []) hC (c_Jxc12de_init (tm_g x) hst Ω a mc ha) k_Jx4a65c_1 (by rw [hB.2.2.1]; exact ⟨Nat.le_of_ble_eq_true rfl, Nat.le_of_ble_eq_true rfl⟩) rfl rfl (by decide) dJx4a65c_init_da8c8_1 (fun v_1 w_1 hp_1 => ?_)
  obtain ⟨hw, rfl⟩ := hp_1
  have ha2 : w_1 a = some (.inr (0, [.int (I 0), .null, .int (I 0)])) := by rw [← hw]; exact tm_up_s
  show tm_V x (tm_G x w_1) 0 0 4 [(0, .ref (a))] []
  refine tm_aload_n 0 hC dJx4a65c_init_da8c8_4 rfl rfl ?_
  refine tm_gets hC w_Jx4a65c_39 dJx4a65c_init_da8c8_5 ?_
  refine tm_putf1 hC f_Jx4a65c_9 ha2 (tt_0_1 _) (Nat.le_of_ble_eq_true rfl) dJx4a65c_init_da8c8_8 ?_
  obtain ⟨w1, hw2⟩ : ∃ z, z = tm_up w_1 a (.inr (0, [.int (I (0)), .ref (tm_e0 x), .int (I (0))])) := ⟨_, rfl⟩
  show tm_V x (tm_G x (tm_up w_1 a (.inr (0, [.int (I (0)), .ref (tm_e0 x), .int (I (0))])))) 0 0 11 [(0, .ref (a))] []
  rw [← hw2]
  have hw1_a : w1 a = some (.inr (0, [.int (I (0)), .ref (tm_e0 x), .int (I (0))])) := by rw [hw2]; first | done | exact tm_up_s
  exact tm_vret hC hR dJx4a65c_init_da8c8_11 (⟨by rw [hw2, ← hw]; exact tm_up_up.symm, rfl⟩)

set_option maxHeartbeats 4000000 in
set_option maxRecDepth 100000 in
theorem c_add1 (γ : tmG) (hst : γ.1.stackTraces = false) (Ω : tmO) (a d n v0 : Nat) (m0 : Int) (f : Nat → Option Nat) (ha : Ω a = some (.inr (0, [.int (I m0), .ref d, .int (I n)]))) (hv : tm_el Ω v0) (h : ((d = γ.2.2.2.1 ∧ n = 0) ∨ (∃ cap, Ω d = some (tm_ao γ.2.2.1 cap f) ∧ n ≤ cap ∧ cap ≤ 400 ∧ 10 ≤ cap ∧ n ≤ 250 ∧ ∀ i : Nat, i < n → ∀ y : Nat, f i = some y → tm_el Ω y))) : tm_Con γ (tm_hol γ.2.1) M_Jx4a65c_add_9ea2d 7 1 400 [.ref (a), .ref (v0)] Ω (fun v w' => v = some (.int (I 1)) ∧ ∃ (d' cap' : Nat) (g : Nat → Option Nat), (Ω d' = none ∨ (d' = d ∧ Ω d ≠ none)) ∧ (∀ b, b ≠ a → b ≠ d' → w' b = Ω b) ∧ w' a = some (.inr (0, [.int (I (m0 + 1)), .ref d', .int (I ((n : Int) + 1))])) ∧ w' d' = some (tm_ao γ.2.2.1 cap' g) ∧ (n + 1 ≤ cap' ∧ cap' ≤ 400 ∧ 10 ≤ cap') ∧ g n = some v0 ∧ ∀ i : Nat, i < n → g i = f i) := by
  refine tm_con hst (by decide) (Nat.le_of_ble_eq_true rfl) (fun x hB hR => ?_)
  have hg := hB.1
  subst hg
  have hC : tm_C x cJx4a65c_add_9ea2d RJx4a65c (some FieldType.boolean) := hB.2.2.2.1
  show tm_V x (tm_G x Ω) 1 400 0 [(0, .ref (a)), (1, .ref (v0))] []
  refine tm_aload_n 0 hC dJx4a65c_add_9ea2d_0 rfl rfl ?_
  refine tm_dup hC dJx4a65c_add_9ea2d_1 rfl ?_
  refine tm_getf1 hC f_Jx4a65c_63 ha rfl dJx4a65c_add_9ea2d_2 ?_
  refine tm_iconst hC dJx4a65c_add_9ea2d_5 ?_
  refine tm_iadd hC dJx4a65c_add_9ea2d_6 ?_
  refine tm_putf1 hC f_Jx4a65c_63 ha (tt_0_0 _) (Nat.le_of_ble_eq_true rfl) dJx4a65c_add_9ea2d_7 ?_
  obtain ⟨w1, hw2⟩ : ∃ z, z = tm_up Ω a (.inr (0, [.int (I (m0 + 1)), .ref (d), .int (I ((n : Int)))])) := ⟨_, rfl⟩
  show tm_V x (tm_G x (tm_up Ω a (.inr (0, [.int (I (m0 + 1)), .ref (d), .int (I ((n : Int)))])))) 1 400 10 [(0, .ref (a)), (1, .ref (v0))] []
  rw [← hw2]
  have hw1_a : w1 a = some (.inr (0, [.int (I (m0 + 1)), .ref (d), .int (I ((n : Int)))])) := by rw [hw2]; first | done | exact tm_up_s
  refine tm_aload_n 0 hC dJx4a65c_add_9ea2d_10 rfl rfl ?_
  refine tm_aload_n 1 hC dJx4a65c_add_9ea2d_11 rfl rfl ?_
  refine tm_aload_n 0 hC dJx4a65c_add_9ea2d_12 rfl rfl ?_
  refine tm_getf1 hC f_Jx4a65c_9 hw1_a rfl dJx4a65c_add_9ea2d_13 ?_
  refine tm_aload_n 0 hC dJx4a65c_add_9ea2d_16 rfl rfl ?_
  refine tm_getf1 hC f_Jx4a65c_48 hw1_a rfl dJx4a65c_add_9ea2d_17 ?_
  have hv2 : tm_el w1 v0 := by rw [hw2]; exact tm_el_put hv ha
  have h2 : (d = tm_e0 x ∧ n = 0) ∨ (∃ cap, w1 d = some (tm_ao (tm_T x) cap f) ∧ n ≤ cap ∧ cap ≤ 400 ∧ 10 ≤ cap ∧ n ≤ 250 ∧ ∀ i : Nat, i < n → ∀ y : Nat, f i = some y → tm_el w1 y) := by
    rcases h with h | ⟨cap, e1, e2, e3, e4, e5, e6⟩
    · exact Or.inl h
    · exact Or.inr ⟨cap, by rw [hw2, tm_up_n (fun z => absurd (z ▸ e1) (by rw [ha]; intro q; cases q))]; exact e1, e2, e3, e4, e5, fun i hi y hy => by rw [hw2]; exact tm_el_put (e6 i hi y hy) ha⟩
  refine tm_less (b' := 1 + 0) (n' := 400 + 0) ⟨by omega, by omega⟩ ?_
  refine tm_callV (b := 0) (n := 0) (rest := []) hC (c_add3 (tm_g x) hst w1 a d n v0 (I (m0 + 1)) f hw1_a hv2 h2) k_Jx4a65c_131 (by rw [hB.2.2.1]; exact ⟨Nat.le_of_ble_eq_true rfl, Nat.le_of_ble_eq_true rfl⟩) rfl (tm_rec1 hC hw1_a rfl) rfl (by decide) dJx4a65c_add_9ea2d_20 (fun v_20 w_20 hp_20 => ?_)
  obtain ⟨rfl, d', cap', g, hd, hk, hoa, hod, hc, hgn, hgi⟩ := hp_20
  show tm_V x (tm_G x w_20) 0 0 23 [(0, .ref (a)), (1, .ref (v0))] []
  refine tm_iconst hC dJx4a65c_add_9ea2d_23 ?_
  exact tm_zret hC hR dJx4a65c_add_9ea2d_24 (by omega) (⟨rfl, d', cap', g, (by
      rcases hd with hd | ⟨rfl, hd⟩
      · exact Or.inl (tm_up_none (by rw [← hw2]; exact hd))
      · exact Or.inr ⟨rfl, fun z => hd (by rw [hw2, tm_up_n (fun e => by rw [e, ha] at z; cases z)]; exact z)⟩), fun b h1 h2 => (hk b h1 h2).trans (by rw [hw2]; exact tm_up_n h1), hoa, hod, hc, hgn, hgi⟩)

set_option maxHeartbeats 4000000 in
set_option maxRecDepth 100000 in
theorem c_rca (γ : tmG) (hst : γ.1.stackTraces = false) (Ω : tmO) (a d n : Nat) (mc : Int32) (ha : Ω a = some (.inr (0, [.int mc, .ref d, .int (I n)]))) (i : Nat) (hi : i ≤ n ∧ n ≤ 100000) : tm_Con γ (tm_hol γ.2.1) M_Jx4a65c_rangeCheckForAdd_d00df 1 0 0 [.ref (a), .int (I ((i : Int)))] Ω (fun v w' => Ω = w' ∧ v = none) := by
  refine tm_con hst (by decide) (Nat.le_of_ble_eq_true rfl) (fun x hB hR => ?_)
  have hg := hB.1
  subst hg
  have hC : tm_C x cJx4a65c_rangeCheckForAdd_d00df RJx4a65c (none) := hB.2.2.2.1
  show tm_V x (tm_G x Ω) 0 0 0 [(0, .ref (a)), (1, .int (I ((i : Int))))] []
  refine tm_iload_n 1 hC dJx4a65c_rangeCheckForAdd_d00df_0 rfl rfl ?_
  refine tm_aload_n 0 hC dJx4a65c_rangeCheckForAdd_d00df_1 rfl rfl ?_
  refine tm_getf1 hC f_Jx4a65c_48 ha rfl dJx4a65c_rangeCheckForAdd_d00df_2 ?_
  refine tm_icmp_gt 12 hC dJx4a65c_rangeCheckForAdd_d00df_5 (by decide) (by omega) (fun c_5 => ?_) (fun c_5 => ?_)
  · exact ((by omega) : False).elim
  · refine tm_iload_n 1 hC dJx4a65c_rangeCheckForAdd_d00df_8 rfl rfl ?_
    refine tm_if_ge 25 hC dJx4a65c_rangeCheckForAdd_d00df_9 (by decide) (by omega) (fun c_9 => ?_) (fun c_9 => ?_)
    · exact tm_vret hC hR dJx4a65c_rangeCheckForAdd_d00df_25 (⟨rfl, rfl⟩)
    · exact ((by omega) : False).elim

set_option maxHeartbeats 4000000 in
set_option maxRecDepth 100000 in
theorem c_eld (γ : tmG) (hst : γ.1.stackTraces = false) (Ω : tmO) (a d n : Nat) (mc : Int32) (ha : Ω a = some (.inr (0, [.int mc, .ref d, .int (I n)]))) (cap i v0 : Nat) (f : Nat → Option Nat) (hd : Ω d = some (tm_ao γ.2.2.1 cap f)) (hi : i < cap ∧ cap ≤ 400) (hf : f i = some v0) : tm_Con γ (tm_hol γ.2.1) M_Jx4a65c_elementData_915e3 1 0 0 [.ref (a), .int (I ((i : Int)))] Ω (fun v w' => Ω = w' ∧ v = some (.ref v0)) := by
  refine tm_con hst (by decide) (Nat.le_of_ble_eq_true rfl) (fun x hB hR => ?_)
  have hg := hB.1
  subst hg
  have hC : tm_C x cJx4a65c_elementData_915e3 RJx4a65c (some (FieldType.object "java/lang/Object")) := hB.2.2.2.1
  show tm_V x (tm_G x Ω) 0 0 0 [(0, .ref (a)), (1, .int (I ((i : Int))))] []
  refine tm_aload_n 0 hC dJx4a65c_elementData_915e3_0 rfl rfl ?_
  refine tm_getf1 hC f_Jx4a65c_9 ha rfl dJx4a65c_elementData_915e3_1 ?_
  refine tm_iload_n 1 hC dJx4a65c_elementData_915e3_4 rfl rfl ?_
  refine tm_aald1 hC hd (by omega) (hf) dJx4a65c_elementData_915e3_5 ?_
  exact tm_aret hC hR (Or.inl ⟨_, rfl⟩) dJx4a65c_elementData_915e3_6 (⟨rfl, rfl⟩)

set_option maxHeartbeats 4000000 in
set_option maxRecDepth 100000 in
theorem c_get1 (γ : tmG) (hst : γ.1.stackTraces = false) (Ω : tmO) (a d n : Nat) (mc : Int32) (ha : Ω a = some (.inr (0, [.int mc, .ref d, .int (I n)]))) (cap i v0 : Nat) (f : Nat → Option Nat) (hd : Ω d = some (tm_ao γ.2.2.1 cap f)) (hi : i < n ∧ n ≤ cap ∧ cap ≤ 400) (hf : f i = some v0) : tm_Con γ (tm_hol γ.2.1) M_Jx4a65c_get_915e3 3 0 0 [.ref (a), .int (I ((i : Int)))] Ω (fun v w' => Ω = w' ∧ v = some (.ref v0)) := by
  refine tm_con hst (by decide) (Nat.le_of_ble_eq_true rfl) (fun x hB hR => ?_)
  have hg := hB.1
  subst hg
  have hC : tm_C x cJx4a65c_get_915e3 RJx4a65c (some (FieldType.object "java/lang/Object")) := hB.2.2.2.1
  show tm_V x (tm_G x Ω) 0 0 0 [(0, .ref (a)), (1, .int (I ((i : Int))))] []
  refine tm_iload_n 1 hC dJx4a65c_get_915e3_0 rfl rfl ?_
  refine tm_aload_n 0 hC dJx4a65c_get_915e3_1 rfl rfl ?_
  refine tm_getf1 hC f_Jx4a65c_48 ha rfl dJx4a65c_get_915e3_2 ?_
  refine tm_callS (b := 0) (n := 0) (rest := []) hC (c_J15_checkIndex (tm_g x) hst (tm_hol (tm_D x)) _ (i : Int) (n : Int) (by omega)) k_Jx4a65c_118 (by rw [hB.2.2.1]; exact ⟨Nat.le_of_ble_eq_true rfl, Nat.le_of_ble_eq_true rfl⟩) rfl rfl (by decide) dJx4a65c_get_915e3_5 (fun v_5 w_5 hp_5 => ?_)
  obtain ⟨rfl, rfl⟩ := hp_5
  show tm_V x (tm_G x Ω) 0 0 8 [(0, .ref (a)), (1, .int (I ((i : Int))))] [.int (I ((i : Int)))]
  refine tm_pop hC dJx4a65c_get_915e3_8 rfl ?_
  refine tm_aload_n 0 hC dJx4a65c_get_915e3_9 rfl rfl ?_
  refine tm_iload_n 1 hC dJx4a65c_get_915e3_10 rfl rfl ?_
  refine tm_callV (b := 0) (n := 0) (rest := []) hC (c_eld (tm_g x) hst Ω a d n mc ha cap i v0 f hd (by omega) hf) k_Jx4a65c_123 (by rw [hB.2.2.1]; exact ⟨Nat.le_of_ble_eq_true rfl, Nat.le_of_ble_eq_true rfl⟩) rfl (tm_rec1 hC ha rfl) rfl (by decide) dJx4a65c_get_915e3_11 (fun v_11 w_11 hp_11 => ?_)
  obtain ⟨rfl, rfl⟩ := hp_11
  show tm_V x (tm_G x Ω) 0 0 14 [(0, .ref (a)), (1, .int (I ((i : Int))))] [.ref (v0)]
  exact tm_aret hC hR (Or.inl ⟨_, rfl⟩) dJx4a65c_get_915e3_14 (⟨rfl, rfl⟩)

set_option maxHeartbeats 4000000 in
set_option maxRecDepth 100000 in
theorem c_size1 (γ : tmG) (hst : γ.1.stackTraces = false) (Ω : tmO) (a d n : Nat) (mc : Int32) (ha : Ω a = some (.inr (0, [.int mc, .ref d, .int (I n)]))) : tm_Con γ (tm_hol γ.2.1) M_Jx4a65c_size_8abf5 1 0 0 [.ref (a)] Ω (fun v w' => Ω = w' ∧ v = some (.int (I (n : Int)))) := by
  refine tm_con hst (by decide) (Nat.le_of_ble_eq_true rfl) (fun x hB hR => ?_)
  have hg := hB.1
  subst hg
  have hC : tm_C x cJx4a65c_size_8abf5 RJx4a65c (some FieldType.int) := hB.2.2.2.1
  show tm_V x (tm_G x Ω) 0 0 0 [(0, .ref (a))] []
  refine tm_aload_n 0 hC dJx4a65c_size_8abf5_0 rfl rfl ?_
  refine tm_getf1 hC f_Jx4a65c_48 ha rfl dJx4a65c_size_8abf5_1 ?_
  exact tm_iret hC hR dJx4a65c_size_8abf5_4 (⟨rfl, rfl⟩)

set_option maxHeartbeats 4000000 in
set_option maxRecDepth 100000 in
theorem c_isE1 (γ : tmG) (hst : γ.1.stackTraces = false) (Ω : tmO) (a d n : Nat) (mc : Int32) (ha : Ω a = some (.inr (0, [.int mc, .ref d, .int (I n)]))) (hn : n ≤ 100000) : tm_Con γ (tm_hol γ.2.1) M_Jx4a65c_isEmpty_aae02 1 0 0 [.ref (a)] Ω (fun v w' => Ω = w' ∧ v = some (.int (I (bi (n = 0))))) := by
  refine tm_con hst (by decide) (Nat.le_of_ble_eq_true rfl) (fun x hB hR => ?_)
  have hg := hB.1
  subst hg
  have hC : tm_C x cJx4a65c_isEmpty_aae02 RJx4a65c (some FieldType.boolean) := hB.2.2.2.1
  show tm_V x (tm_G x Ω) 0 0 0 [(0, .ref (a))] []
  refine tm_aload_n 0 hC dJx4a65c_isEmpty_aae02_0 rfl rfl ?_
  refine tm_getf1 hC f_Jx4a65c_48 ha rfl dJx4a65c_isEmpty_aae02_1 ?_
  refine tm_if_ne 11 hC dJx4a65c_isEmpty_aae02_4 (by decide) (by omega) (fun c_4 => ?_) (fun c_4 => ?_)
  · refine tm_iconst hC dJx4a65c_isEmpty_aae02_11 ?_
    exact tm_zret hC hR dJx4a65c_isEmpty_aae02_12 (by omega) (⟨rfl, by rw [bi_f (by omega)]⟩)
  · refine tm_iconst hC dJx4a65c_isEmpty_aae02_7 ?_
    refine tm_goto 12 hC dJx4a65c_isEmpty_aae02_8 (by decide) ?_
    exact tm_zret hC hR dJx4a65c_isEmpty_aae02_12 (by omega) (⟨rfl, by rw [bi_t (by omega)]⟩)

set_option maxHeartbeats 4000000 in
set_option maxRecDepth 100000 in
theorem c_frem (γ : tmG) (hst : γ.1.stackTraces = false) (Ω : tmO) (a d n cap i : Nat) (m0 : Int) (f : Nat → Option Nat) (ha : Ω a = some (.inr (0, [.int (I m0), .ref d, .int (I n)]))) (hd : Ω d = some (tm_ao γ.2.2.1 cap f)) (hi : i < n ∧ n ≤ cap ∧ cap ≤ 400) (he : ∀ j : Nat, j < n → ∀ y : Nat, f j = some y → tm_el Ω y) : tm_Con γ (tm_hol γ.2.1) M_Jx4a65c_fastRemove_b59b0 1 0 0 [.ref (a), .ref (d), .int (I ((i : Int)))] Ω (fun v w' => v = none ∧ (∀ b, b ≠ a → b ≠ d → w' b = Ω b) ∧ ∃ g : Nat → Option Nat, w' a = some (.inr (0, [.int (I (m0 + 1)), .ref d, .int (I ((n : Int) - 1))])) ∧ w' d = some (tm_ao γ.2.2.1 cap g) ∧ (∀ j : Nat, j < i → g j = f j) ∧ ∀ j : Nat, i ≤ j → j < n - 1 → g j = f (j + 1)) := by
  refine tm_con hst (by decide) (Nat.le_of_ble_eq_true rfl) (fun x hB hR => ?_)
  have hg := hB.1
  subst hg
  have hC : tm_C x cJx4a65c_fastRemove_b59b0 RJx4a65c (none) := hB.2.2.2.1
  show tm_V x (tm_G x Ω) 0 0 0 [(0, .ref (a)), (1, .ref (d)), (2, .int (I ((i : Int))))] []
  refine tm_aload_n 0 hC dJx4a65c_fastRemove_b59b0_0 rfl rfl ?_
  refine tm_dup hC dJx4a65c_fastRemove_b59b0_1 rfl ?_
  refine tm_getf1 hC f_Jx4a65c_63 ha rfl dJx4a65c_fastRemove_b59b0_2 ?_
  refine tm_iconst hC dJx4a65c_fastRemove_b59b0_5 ?_
  refine tm_iadd hC dJx4a65c_fastRemove_b59b0_6 ?_
  refine tm_putf1 hC f_Jx4a65c_63 ha (tt_0_0 _) (Nat.le_of_ble_eq_true rfl) dJx4a65c_fastRemove_b59b0_7 ?_
  obtain ⟨w1, hw2⟩ : ∃ z, z = tm_up Ω a (.inr (0, [.int (I (m0 + 1)), .ref (d), .int (I ((n : Int)))])) := ⟨_, rfl⟩
  show tm_V x (tm_G x (tm_up Ω a (.inr (0, [.int (I (m0 + 1)), .ref (d), .int (I ((n : Int)))])))) 0 0 10 [(0, .ref (a)), (1, .ref (d)), (2, .int (I ((i : Int))))] []
  rw [← hw2]
  have hw1_a : w1 a = some (.inr (0, [.int (I (m0 + 1)), .ref (d), .int (I ((n : Int)))])) := by rw [hw2]; first | done | exact tm_up_s
  have hw1_d := (show w1 d = _ by rw [hw2]; exact tm_up_n (fun z => absurd (ha.symm.trans (z ▸ hd)) (by intro q; cases q))).trans hd
  refine tm_aload_n 0 hC dJx4a65c_fastRemove_b59b0_10 rfl rfl ?_
  refine tm_getf1 hC f_Jx4a65c_48 hw1_a rfl dJx4a65c_fastRemove_b59b0_11 ?_
  refine tm_iconst hC dJx4a65c_fastRemove_b59b0_14 ?_
  refine tm_isub hC dJx4a65c_fastRemove_b59b0_15 ?_
  refine tm_dup hC dJx4a65c_fastRemove_b59b0_16 rfl ?_
  refine tm_istore_n [(3, .int (I ((n : Int) - 1))), (0, .ref (a)), (1, .ref (d)), (2, .int (I ((i : Int))))] hC dJx4a65c_fastRemove_b59b0_17 rfl (by rw [hB.2.1]; exact Nat.le_of_ble_eq_true rfl) rfl ?_
  refine tm_iload_n 3 hC dJx4a65c_fastRemove_b59b0_18 rfl rfl ?_
  refine tm_icmp_le 34 hC dJx4a65c_fastRemove_b59b0_19 (by decide) (by omega) (fun c_19 => ?_) (fun c_19 => ?_)
  · refine tm_aload_n 2 hC dJx4a65c_fastRemove_b59b0_34 rfl rfl ?_
    refine tm_aload_n 1 hC dJx4a65c_fastRemove_b59b0_35 rfl rfl ?_
    refine tm_iload_n 0 hC dJx4a65c_fastRemove_b59b0_36 rfl rfl ?_
    refine tm_dup_x1 hC dJx4a65c_fastRemove_b59b0_37 rfl rfl ?_
    refine tm_putf1 hC f_Jx4a65c_48 hw1_a (tt_0_2 _) (Nat.le_of_ble_eq_true rfl) dJx4a65c_fastRemove_b59b0_38 ?_
    obtain ⟨w3, hw4⟩ : ∃ z, z = tm_up w1 a (.inr (0, [.int (I (m0 + 1)), .ref (d), .int (I ((n : Int) - 1))])) := ⟨_, rfl⟩
    show tm_V x (tm_G x (tm_up w1 a (.inr (0, [.int (I (m0 + 1)), .ref (d), .int (I ((n : Int) - 1))])))) 0 0 41 [(3, .int (I ((n : Int) - 1))), (0, .ref (a)), (1, .ref (d)), (2, .int (I ((i : Int))))] [.int (I ((n : Int) - 1)), .ref (d)]
    rw [← hw4]
    have hw3_a : w3 a = some (.inr (0, [.int (I (m0 + 1)), .ref (d), .int (I ((n : Int) - 1))])) := by rw [hw4]; first | done | exact tm_up_s
    have hw3_d := (show w3 d = _ by rw [hw4]; exact tm_up_n (fun z => absurd (hw1_a.symm.trans (z ▸ hw1_d)) (by intro q; cases q))).trans hw1_d
    refine tm_null hC dJx4a65c_fastRemove_b59b0_41 ?_
    refine tm_aastN1 hC hw3_d (by omega) dJx4a65c_fastRemove_b59b0_42 ?_
    obtain ⟨w5, hw6⟩ : ∃ z, z = tm_up w3 d (tm_ao (tm_T x) cap (va_up f ((n : Int) - 1 : Int).toNat none)) := ⟨_, rfl⟩
    show tm_V x (tm_G x (tm_up w3 d (tm_ao (tm_T x) cap (va_up f ((n : Int) - 1 : Int).toNat none)))) 0 0 43 [(3, .int (I ((n : Int) - 1))), (0, .ref (a)), (1, .ref (d)), (2, .int (I ((i : Int))))] []
    rw [← hw6]
    have hw5_d : w5 d = some (tm_ao (tm_T x) cap (va_up f ((n : Int) - 1 : Int).toNat none)) := by rw [hw6]; first | done | exact tm_up_s
    have hw5_a := (show w5 a = _ by rw [hw6]; exact tm_up_n (fun z => absurd (hw3_d.symm.trans (z ▸ hw3_a)) (by intro q; cases q))).trans hw3_a
    exact tm_vret hC hR dJx4a65c_fastRemove_b59b0_43 (⟨rfl, fun b hb1 hb2 => by rw [hw6, tm_up_n hb2, hw4, tm_up_n hb1, hw2, tm_up_n hb1], _, by rw [hw6, tm_up_n (fun z => absurd (z ▸ hd) (by rw [ha]; intro q; cases q)), hw4]; exact tm_up_s, by rw [hw6]; exact tm_up_s, fun j hj => if_neg (by omega), fun j h1 h2 => absurd h1 (by omega)⟩)
  · refine tm_aload_n 2 hC dJx4a65c_fastRemove_b59b0_22 rfl rfl ?_
    refine tm_iload_n 3 hC dJx4a65c_fastRemove_b59b0_23 rfl rfl ?_
    refine tm_iconst hC dJx4a65c_fastRemove_b59b0_24 ?_
    refine tm_iadd hC dJx4a65c_fastRemove_b59b0_25 ?_
    refine tm_aload_n 2 hC dJx4a65c_fastRemove_b59b0_26 rfl rfl ?_
    refine tm_iload_n 3 hC dJx4a65c_fastRemove_b59b0_27 rfl rfl ?_
    refine tm_iload_n 0 hC dJx4a65c_fastRemove_b59b0_28 rfl rfl ?_
    refine tm_iload_n 3 hC dJx4a65c_fastRemove_b59b0_29 rfl rfl ?_
    refine tm_isub hC dJx4a65c_fastRemove_b59b0_30 ?_
    refine tm_copy1 hC x_Jx4a65c_112 hw1_d hw1_d (by omega) (fun j hj y hy => by rw [hw2]; exact tm_el_put (he _ (by omega) y hy) ha) (by rw [hB.2.2.1]; exact ⟨Nat.le_of_ble_eq_true rfl, Nat.le_of_ble_eq_true rfl⟩) (by decide) dJx4a65c_fastRemove_b59b0_31 ?_
    obtain ⟨w7, hw8⟩ : ∃ z, z = tm_up w1 d (tm_ao (tm_T x) cap (va_cpy f f ((i : Int) + 1 : Int).toNat ((i : Int) : Int).toNat (((n : Int) - 1) - (i : Int) : Int).toNat)) := ⟨_, rfl⟩
    show tm_V x (tm_G x (tm_up w1 d (tm_ao (tm_T x) cap (va_cpy f f ((i : Int) + 1 : Int).toNat ((i : Int) : Int).toNat (((n : Int) - 1) - (i : Int) : Int).toNat)))) 0 0 34 [(3, .int (I ((n : Int) - 1))), (0, .ref (a)), (1, .ref (d)), (2, .int (I ((i : Int))))] []
    rw [← hw8]
    have hw7_d : w7 d = some (tm_ao (tm_T x) cap (va_cpy f f ((i : Int) + 1 : Int).toNat ((i : Int) : Int).toNat (((n : Int) - 1) - (i : Int) : Int).toNat)) := by rw [hw8]; first | done | exact tm_up_s
    have hw7_a := (show w7 a = _ by rw [hw8]; exact tm_up_n (fun z => absurd (hw1_d.symm.trans (z ▸ hw1_a)) (by intro q; cases q))).trans hw1_a
    refine tm_aload_n 2 hC dJx4a65c_fastRemove_b59b0_34 rfl rfl ?_
    refine tm_aload_n 1 hC dJx4a65c_fastRemove_b59b0_35 rfl rfl ?_
    refine tm_iload_n 0 hC dJx4a65c_fastRemove_b59b0_36 rfl rfl ?_
    refine tm_dup_x1 hC dJx4a65c_fastRemove_b59b0_37 rfl rfl ?_
    refine tm_putf1 hC f_Jx4a65c_48 hw7_a (tt_0_2 _) (Nat.le_of_ble_eq_true rfl) dJx4a65c_fastRemove_b59b0_38 ?_
    obtain ⟨w9, hw10⟩ : ∃ z, z = tm_up w7 a (.inr (0, [.int (I (m0 + 1)), .ref (d), .int (I ((n : Int) - 1))])) := ⟨_, rfl⟩
    show tm_V x (tm_G x (tm_up w7 a (.inr (0, [.int (I (m0 + 1)), .ref (d), .int (I ((n : Int) - 1))])))) 0 0 41 [(3, .int (I ((n : Int) - 1))), (0, .ref (a)), (1, .ref (d)), (2, .int (I ((i : Int))))] [.int (I ((n : Int) - 1)), .ref (d)]
    rw [← hw10]
    have hw9_a : w9 a = some (.inr (0, [.int (I (m0 + 1)), .ref (d), .int (I ((n : Int) - 1))])) := by rw [hw10]; first | done | exact tm_up_s
    have hw9_d := (show w9 d = _ by rw [hw10]; exact tm_up_n (fun z => absurd (hw7_a.symm.trans (z ▸ hw7_d)) (by intro q; cases q))).trans hw7_d
    refine tm_null hC dJx4a65c_fastRemove_b59b0_41 ?_
    refine tm_aastN1 hC hw9_d (by omega) dJx4a65c_fastRemove_b59b0_42 ?_
    obtain ⟨w11, hw12⟩ : ∃ z, z = tm_up w9 d (tm_ao (tm_T x) cap (va_up (va_cpy f f ((i : Int) + 1 : Int).toNat ((i : Int) : Int).toNat (((n : Int) - 1) - (i : Int) : Int).toNat) ((n : Int) - 1 : Int).toNat none)) := ⟨_, rfl⟩
    show tm_V x (tm_G x (tm_up w9 d (tm_ao (tm_T x) cap (va_up (va_cpy f f ((i : Int) + 1 : Int).toNat ((i : Int) : Int).toNat (((n : Int) - 1) - (i : Int) : Int).toNat) ((n : Int) - 1 : Int).toNat none)))) 0 0 43 [(3, .int (I ((n : Int) - 1))), (0, .ref (a)), (1, .ref (d)), (2, .int (I ((i : Int))))] []
    rw [← hw12]
    have hw11_d : w11 d = some (tm_ao (tm_T x) cap (va_up (va_cpy f f ((i : Int) + 1 : Int).toNat ((i : Int) : Int).toNat (((n : Int) - 1) - (i : Int) : Int).toNat) ((n : Int) - 1 : Int).toNat none)) := by rw [hw12]; first | done | exact tm_up_s
    have hw11_a := (show w11 a = _ by rw [hw12]; exact tm_up_n (fun z => absurd (hw9_d.symm.trans (z ▸ hw9_a)) (by intro q; cases q))).trans hw9_a
    exact tm_vret hC hR dJx4a65c_fastRemove_b59b0_43 (⟨rfl, fun b hb1 hb2 => by rw [hw12, tm_up_n hb2, hw10, tm_up_n hb1, hw8, tm_up_n hb2, hw2, tm_up_n hb1], _, by rw [hw12, tm_up_n (fun z => absurd (z ▸ hd) (by rw [ha]; intro q; cases q)), hw10]; exact tm_up_s, by rw [hw12]; exact tm_up_s, fun j hj => (if_neg (by omega)).trans ((pk_cpy_out (by omega)).trans rfl), fun j h1 h2 => (if_neg (by omega)).trans ((pk_cpy_in (by omega) (by omega)).trans (by congr 1; omega))⟩)

set_option maxHeartbeats 4000000 in
set_option maxRecDepth 100000 in
theorem c_rem1 (γ : tmG) (hst : γ.1.stackTraces = false) (Ω : tmO) (a d n cap i : Nat) (m0 : Int) (f : Nat → Option Nat) (ha : Ω a = some (.inr (0, [.int (I m0), .ref d, .int (I n)]))) (hd : Ω d = some (tm_ao γ.2.2.1 cap f)) (hi : i < n ∧ n ≤ cap ∧ cap ≤ 400) (he : ∀ j : Nat, j < n → ∀ y : Nat, f j = some y → tm_el Ω y) (v0 : Nat) (hf : f i = some v0) : tm_Con γ (tm_hol γ.2.1) M_Jx4a65c_remove_915e3 3 0 0 [.ref (a), .int (I ((i : Int)))] Ω (fun v w' => v = some (.ref v0) ∧ (∀ b, b ≠ a → b ≠ d → w' b = Ω b) ∧ ∃ g : Nat → Option Nat, w' a = some (.inr (0, [.int (I (m0 + 1)), .ref d, .int (I ((n : Int) - 1))])) ∧ w' d = some (tm_ao γ.2.2.1 cap g) ∧ (∀ j : Nat, j < i → g j = f j) ∧ ∀ j : Nat, i ≤ j → j < n - 1 → g j = f (j + 1)) := by
  refine tm_con hst (by decide) (Nat.le_of_ble_eq_true rfl) (fun x hB hR => ?_)
  have hg := hB.1
  subst hg
  have hC : tm_C x cJx4a65c_remove_915e3 RJx4a65c (some (FieldType.object "java/lang/Object")) := hB.2.2.2.1
  show tm_V x (tm_G x Ω) 0 0 0 [(0, .ref (a)), (1, .int (I ((i : Int))))] []
  refine tm_iload_n 1 hC dJx4a65c_remove_915e3_0 rfl rfl ?_
  refine tm_aload_n 0 hC dJx4a65c_remove_915e3_1 rfl rfl ?_
  refine tm_getf1 hC f_Jx4a65c_48 ha rfl dJx4a65c_remove_915e3_2 ?_
  refine tm_callS (b := 0) (n := 0) (rest := []) hC (c_J15_checkIndex (tm_g x) hst (tm_hol (tm_D x)) _ (i : Int) (n : Int) (by omega)) k_Jx4a65c_118 (by rw [hB.2.2.1]; exact ⟨Nat.le_of_ble_eq_true rfl, Nat.le_of_ble_eq_true rfl⟩) rfl rfl (by decide) dJx4a65c_remove_915e3_5 (fun v_5 w_5 hp_5 => ?_)
  obtain ⟨rfl, rfl⟩ := hp_5
  show tm_V x (tm_G x Ω) 0 0 8 [(0, .ref (a)), (1, .int (I ((i : Int))))] [.int (I ((i : Int)))]
  refine tm_pop hC dJx4a65c_remove_915e3_8 rfl ?_
  refine tm_aload_n 0 hC dJx4a65c_remove_915e3_9 rfl rfl ?_
  refine tm_getf1 hC f_Jx4a65c_9 ha rfl dJx4a65c_remove_915e3_10 ?_
  refine tm_astore_n [(2, .ref (d)), (0, .ref (a)), (1, .int (I ((i : Int))))] hC dJx4a65c_remove_915e3_13 rfl (by rw [hB.2.1]; exact Nat.le_of_ble_eq_true rfl) rfl ?_
  refine tm_aload_n 0 hC dJx4a65c_remove_915e3_14 rfl rfl ?_
  refine tm_iload_n 2 hC dJx4a65c_remove_915e3_15 rfl rfl ?_
  refine tm_aald1 hC hd (by omega) (hf) dJx4a65c_remove_915e3_16 ?_
  refine tm_astore_n [(3, .ref (v0)), (2, .ref (d)), (0, .ref (a)), (1, .int (I ((i : Int))))] hC dJx4a65c_remove_915e3_17 rfl (by rw [hB.2.1]; exact Nat.le_of_ble_eq_true rfl) rfl ?_
  refine tm_aload_n 2 hC dJx4a65c_remove_915e3_18 rfl rfl ?_
  refine tm_aload_n 1 hC dJx4a65c_remove_915e3_19 rfl rfl ?_
  refine tm_iload_n 3 hC dJx4a65c_remove_915e3_20 rfl rfl ?_
  refine tm_callV (b := 0) (n := 0) (rest := []) hC (c_frem (tm_g x) hst Ω a d n cap i m0 f ha hd hi he) k_Jx4a65c_144 (by rw [hB.2.2.1]; exact ⟨Nat.le_of_ble_eq_true rfl, Nat.le_of_ble_eq_true rfl⟩) rfl (tm_rec1 hC ha rfl) rfl (by decide) dJx4a65c_remove_915e3_21 (fun v_21 w_21 hp_21 => ?_)
  obtain ⟨rfl, hk, g, hoa, hod, hg1, hg2⟩ := hp_21
  show tm_V x (tm_G x w_21) 0 0 24 [(3, .ref (v0)), (2, .ref (d)), (0, .ref (a)), (1, .int (I ((i : Int))))] []
  refine tm_aload_n 0 hC dJx4a65c_remove_915e3_24 rfl rfl ?_
  exact tm_aret hC hR (Or.inl ⟨_, rfl⟩) dJx4a65c_remove_915e3_25 (⟨rfl, hk, g, hoa, hod, hg1, hg2⟩)

set_option maxHeartbeats 4000000 in
set_option maxRecDepth 100000 in
theorem c_addiA (γ : tmG) (hst : γ.1.stackTraces = false) (Ω : tmO) (a d n i v0 : Nat) (m0 : Int) (f : Nat → Option Nat) (ha : Ω a = some (.inr (0, [.int (I m0), .ref γ.2.2.2.1, .int (I n)]))) (hv : tm_el Ω v0) (hin : i ≤ n) (hn : n = 0) : tm_Con γ (tm_hol γ.2.1) M_Jx4a65c_add_7a177 6 1 400 [.ref (a), .int (I ((i : Int))), .ref (v0)] Ω (fun v w' => v = none ∧ ∃ (d' cap' : Nat) (g : Nat → Option Nat), (Ω d' = none ∨ (d' = γ.2.2.2.1 ∧ Ω γ.2.2.2.1 ≠ none)) ∧ (∀ b, b ≠ a → b ≠ d' → w' b = Ω b) ∧ w' a = some (.inr (0, [.int (I (m0 + 1)), .ref d', .int (I ((n : Int) + 1))])) ∧ w' d' = some (tm_ao γ.2.2.1 cap' g) ∧ (n + 1 ≤ cap' ∧ cap' ≤ 400 ∧ 10 ≤ cap') ∧ (∀ j : Nat, j < i → g j = f j) ∧ g i = some v0 ∧ ∀ j : Nat, i ≤ j → j < n → g (j + 1) = f j) := by
  refine tm_con hst (by decide) (Nat.le_of_ble_eq_true rfl) (fun x hB hR => ?_)
  have hg := hB.1
  subst hg
  have hC : tm_C x cJx4a65c_add_7a177 RJx4a65c (none) := hB.2.2.2.1
  show tm_V x (tm_G x Ω) 1 400 0 [(0, .ref (a)), (1, .int (I ((i : Int)))), (2, .ref (v0))] []
  refine tm_aload_n 0 hC dJx4a65c_add_7a177_0 rfl rfl ?_
  refine tm_iload_n 1 hC dJx4a65c_add_7a177_1 rfl rfl ?_
  refine tm_callV (b := 1) (n := 400) (rest := []) hC (c_rca (tm_g x) hst Ω a _ n _ ha i (by omega)) k_Jx4a65c_135 (by rw [hB.2.2.1]; exact ⟨Nat.le_of_ble_eq_true rfl, Nat.le_of_ble_eq_true rfl⟩) rfl (tm_rec1 hC ha rfl) rfl (by decide) dJx4a65c_add_7a177_2 (fun v_2 w_2 hp_2 => ?_)
  obtain ⟨rfl, rfl⟩ := hp_2
  show tm_V x (tm_G x Ω) 1 400 5 [(0, .ref (a)), (1, .int (I ((i : Int)))), (2, .ref (v0))] []
  refine tm_aload_n 0 hC dJx4a65c_add_7a177_5 rfl rfl ?_
  refine tm_dup hC dJx4a65c_add_7a177_6 rfl ?_
  refine tm_getf1 hC f_Jx4a65c_63 ha rfl dJx4a65c_add_7a177_7 ?_
  refine tm_iconst hC dJx4a65c_add_7a177_10 ?_
  refine tm_iadd hC dJx4a65c_add_7a177_11 ?_
  refine tm_putf1 hC f_Jx4a65c_63 ha (tt_0_0 _) (Nat.le_of_ble_eq_true rfl) dJx4a65c_add_7a177_12 ?_
  obtain ⟨w1, hw2⟩ : ∃ z, z = tm_up Ω a (.inr (0, [.int (I (m0 + 1)), .ref (tm_e0 x), .int (I ((n : Int)))])) := ⟨_, rfl⟩
  show tm_V x (tm_G x (tm_up Ω a (.inr (0, [.int (I (m0 + 1)), .ref (tm_e0 x), .int (I ((n : Int)))])))) 1 400 15 [(0, .ref (a)), (1, .int (I ((i : Int)))), (2, .ref (v0))] []
  rw [← hw2]
  have hw1_a : w1 a = some (.inr (0, [.int (I (m0 + 1)), .ref (tm_e0 x), .int (I ((n : Int)))])) := by rw [hw2]; first | done | exact tm_up_s
  refine tm_aload_n 0 hC dJx4a65c_add_7a177_15 rfl rfl ?_
  refine tm_getf1 hC f_Jx4a65c_48 hw1_a rfl dJx4a65c_add_7a177_16 ?_
  refine tm_dup hC dJx4a65c_add_7a177_19 rfl ?_
  refine tm_istore_n [(3, .int (I ((n : Int)))), (0, .ref (a)), (1, .int (I ((i : Int)))), (2, .ref (v0))] hC dJx4a65c_add_7a177_20 rfl (by rw [hB.2.1]; exact Nat.le_of_ble_eq_true rfl) rfl ?_
  refine tm_aload_n 1 hC dJx4a65c_add_7a177_21 rfl rfl ?_
  refine tm_getf1 hC f_Jx4a65c_9 hw1_a rfl dJx4a65c_add_7a177_22 ?_
  refine tm_dup hC dJx4a65c_add_7a177_25 rfl ?_
  refine tm_astore [(4, .ref (tm_e0 x)), (3, .int (I ((n : Int)))), (0, .ref (a)), (1, .int (I ((i : Int)))), (2, .ref (v0))] hC dJx4a65c_add_7a177_26 (by rw [hB.2.1]; exact Nat.le_of_ble_eq_true rfl) rfl ?_
  refine tm_alen0 hC dJx4a65c_add_7a177_28 ?_
  refine tm_icmp_ne 38 hC dJx4a65c_add_7a177_29 (by decide) (by omega) (fun c_29 => ?_) (fun c_29 => ?_)
  · exact ((by omega) : False).elim
  · refine tm_aload_n 2 hC dJx4a65c_add_7a177_32 rfl rfl ?_
    refine tm_less (b' := 1 + 0) (n' := 400 + 0) ⟨by omega, by omega⟩ ?_
    refine tm_callV (b := 0) (n := 0) (rest := []) hC (c_grow0 (tm_g x) hst w1 a (tm_e0 x) n (I (m0 + 1)) f hw1_a (Or.inl ⟨rfl, hn⟩)) k_Jx4a65c_129 (by rw [hB.2.2.1]; exact ⟨Nat.le_of_ble_eq_true rfl, Nat.le_of_ble_eq_true rfl⟩) rfl (tm_rec1 hC hw1_a rfl) rfl (by decide) dJx4a65c_add_7a177_33 (fun v_33 w_33 hp_33 => ?_)
    obtain ⟨q, cap', g, hq, hw, hc, hg, rfl⟩ := hp_33
    have hqa : q ≠ a := fun z => by subst z; rw [hw1_a] at hq; cases hq
    have hqn : Ω q = none := by rw [hw2, tm_up_n hqa] at hq; exact hq
    have hv2 : tm_el w_33 v0 := by rw [← hw]; exact tm_el_put (tm_el_up (by rw [hw2]; exact tm_el_put hv ha) hq) ((tm_up_n (Ne.symm hqa)).trans hw1_a)
    have ha2 : w_33 a = some (.inr (0, [.int (I (m0 + 1)), .ref q, .int (I n)])) := by rw [← hw]; exact tm_up_s
    have hq2 : w_33 q = some (tm_ao (tm_T x) cap' g) := by rw [← hw, tm_up_n hqa]; exact tm_up_s
    show tm_V x (tm_G x w_33) 0 0 36 [(4, .ref (tm_e0 x)), (3, .int (I ((n : Int)))), (0, .ref (a)), (1, .int (I ((i : Int)))), (2, .ref (v0))] [.ref (q)]
    refine tm_astore [(4, .ref (q)), (3, .int (I ((n : Int)))), (0, .ref (a)), (1, .int (I ((i : Int)))), (2, .ref (v0))] hC dJx4a65c_add_7a177_36 (by rw [hB.2.1]; exact Nat.le_of_ble_eq_true rfl) rfl ?_
    refine tm_aload 0 hC dJx4a65c_add_7a177_38 rfl ?_
    refine tm_iload_n 3 hC dJx4a65c_add_7a177_40 rfl rfl ?_
    refine tm_aload 0 hC dJx4a65c_add_7a177_41 rfl ?_
    refine tm_iload_n 3 hC dJx4a65c_add_7a177_43 rfl rfl ?_
    refine tm_iconst hC dJx4a65c_add_7a177_44 ?_
    refine tm_iadd hC dJx4a65c_add_7a177_45 ?_
    refine tm_iload_n 1 hC dJx4a65c_add_7a177_46 rfl rfl ?_
    refine tm_iload_n 3 hC dJx4a65c_add_7a177_47 rfl rfl ?_
    refine tm_isub hC dJx4a65c_add_7a177_48 ?_
    refine tm_copy1 hC x_Jx4a65c_112 hq2 hq2 (by omega) (fun j hj y hy => absurd hj (by omega)) (by rw [hB.2.2.1]; exact ⟨Nat.le_of_ble_eq_true rfl, Nat.le_of_ble_eq_true rfl⟩) (by decide) dJx4a65c_add_7a177_49 ?_
    obtain ⟨w3, hw4⟩ : ∃ z, z = tm_up w_33 q (tm_ao (tm_T x) cap' (va_cpy g g ((i : Int) : Int).toNat ((i : Int) + 1 : Int).toNat ((n : Int) - (i : Int) : Int).toNat)) := ⟨_, rfl⟩
    show tm_V x (tm_G x (tm_up w_33 q (tm_ao (tm_T x) cap' (va_cpy g g ((i : Int) : Int).toNat ((i : Int) + 1 : Int).toNat ((n : Int) - (i : Int) : Int).toNat)))) 0 0 52 [(4, .ref (q)), (3, .int (I ((n : Int)))), (0, .ref (a)), (1, .int (I ((i : Int)))), (2, .ref (v0))] []
    rw [← hw4]
    have hw3_q : w3 q = some (tm_ao (tm_T x) cap' (va_cpy g g ((i : Int) : Int).toNat ((i : Int) + 1 : Int).toNat ((n : Int) - (i : Int) : Int).toNat)) := by rw [hw4]; first | done | exact tm_up_s
    have hw3_a := (show w3 a = _ by rw [hw4]; exact tm_up_n (fun z => absurd (hq2.symm.trans (z ▸ ha2)) (by intro q; cases q))).trans ha2
    refine tm_aload 0 hC dJx4a65c_add_7a177_52 rfl ?_
    refine tm_iload_n 3 hC dJx4a65c_add_7a177_54 rfl rfl ?_
    refine tm_aload_n 4 hC dJx4a65c_add_7a177_55 rfl rfl ?_
    refine tm_aast1 hC hw3_q (by omega) (by rw [hw4]; exact tm_el_arr hv2 hq2) dJx4a65c_add_7a177_56 ?_
    obtain ⟨w5, hw6⟩ : ∃ z, z = tm_up w3 q (tm_ao (tm_T x) cap' (va_up (va_cpy g g ((i : Int) : Int).toNat ((i : Int) + 1 : Int).toNat ((n : Int) - (i : Int) : Int).toNat) ((i : Int) : Int).toNat (some v0))) := ⟨_, rfl⟩
    show tm_V x (tm_G x (tm_up w3 q (tm_ao (tm_T x) cap' (va_up (va_cpy g g ((i : Int) : Int).toNat ((i : Int) + 1 : Int).toNat ((n : Int) - (i : Int) : Int).toNat) ((i : Int) : Int).toNat (some v0))))) 0 0 57 [(4, .ref (q)), (3, .int (I ((n : Int)))), (0, .ref (a)), (1, .int (I ((i : Int)))), (2, .ref (v0))] []
    rw [← hw6]
    have hw5_q : w5 q = some (tm_ao (tm_T x) cap' (va_up (va_cpy g g ((i : Int) : Int).toNat ((i : Int) + 1 : Int).toNat ((n : Int) - (i : Int) : Int).toNat) ((i : Int) : Int).toNat (some v0))) := by rw [hw6]; first | done | exact tm_up_s
    have hw5_a := (show w5 a = _ by rw [hw6]; exact tm_up_n (fun z => absurd (hw3_q.symm.trans (z ▸ hw3_a)) (by intro q; cases q))).trans hw3_a
    refine tm_aload_n 2 hC dJx4a65c_add_7a177_57 rfl rfl ?_
    refine tm_iload_n 1 hC dJx4a65c_add_7a177_58 rfl rfl ?_
    refine tm_iconst hC dJx4a65c_add_7a177_59 ?_
    refine tm_iadd hC dJx4a65c_add_7a177_60 ?_
    refine tm_putf1 hC f_Jx4a65c_48 hw5_a (tt_0_2 _) (Nat.le_of_ble_eq_true rfl) dJx4a65c_add_7a177_61 ?_
    obtain ⟨w7, hw8⟩ : ∃ z, z = tm_up w5 a (.inr (0, [.int (I (m0 + 1)), .ref (q), .int (I ((n : Int) + 1))])) := ⟨_, rfl⟩
    show tm_V x (tm_G x (tm_up w5 a (.inr (0, [.int (I (m0 + 1)), .ref (q), .int (I ((n : Int) + 1))])))) 0 0 64 [(4, .ref (q)), (3, .int (I ((n : Int)))), (0, .ref (a)), (1, .int (I ((i : Int)))), (2, .ref (v0))] []
    rw [← hw8]
    have hw7_a : w7 a = some (.inr (0, [.int (I (m0 + 1)), .ref (q), .int (I ((n : Int) + 1))])) := by rw [hw8]; first | done | exact tm_up_s
    have hw7_q := (show w7 q = _ by rw [hw8]; exact tm_up_n (fun z => absurd (hw5_a.symm.trans (z ▸ hw5_q)) (by intro q; cases q))).trans hw5_q
    exact tm_vret hC hR dJx4a65c_add_7a177_64 (⟨rfl, q, cap', va_up (va_cpy g g ((i : Int)).toNat ((i : Int) + 1).toNat ((n : Int) - (i : Int)).toNat) ((i : Int)).toNat (some v0), Or.inl hqn, fun b hb1 hb2 => by rw [hw8, tm_up_n hb1, hw6, tm_up_n hb2, hw4, tm_up_n hb2, ← hw, tm_up_n hb1, tm_up_n hb2, hw2, tm_up_n hb1], by rw [hw8]; exact tm_up_s, (by rw [hw8, tm_up_n hqa, hw6]; exact tm_up_s), by omega, fun j hj => (if_neg (by omega)).trans ((pk_cpy_out (by omega)).trans (hg _ (by omega))), if_pos rfl, fun j h1 h2 => (if_neg (by omega)).trans ((pk_cpy_in (by omega) (by omega)).trans ((congrArg g (show _ = j by omega)).trans (hg _ (by omega))))⟩)

set_option maxHeartbeats 4000000 in
set_option maxRecDepth 100000 in
theorem c_addiB (γ : tmG) (hst : γ.1.stackTraces = false) (Ω : tmO) (a d n i v0 : Nat) (m0 : Int) (f : Nat → Option Nat) (ha : Ω a = some (.inr (0, [.int (I m0), .ref d, .int (I n)]))) (hv : tm_el Ω v0) (hin : i ≤ n) (hd : Ω d = some (tm_ao γ.2.2.1 n f)) (hn : 10 ≤ n ∧ n ≤ 250) (he : ∀ i : Nat, i < n → ∀ y : Nat, f i = some y → tm_el Ω y) : tm_Con γ (tm_hol γ.2.1) M_Jx4a65c_add_7a177 6 1 400 [.ref (a), .int (I ((i : Int))), .ref (v0)] Ω (fun v w' => v = none ∧ ∃ (d' cap' : Nat) (g : Nat → Option Nat), (Ω d' = none ∨ (d' = d ∧ Ω d ≠ none)) ∧ (∀ b, b ≠ a → b ≠ d' → w' b = Ω b) ∧ w' a = some (.inr (0, [.int (I (m0 + 1)), .ref d', .int (I ((n : Int) + 1))])) ∧ w' d' = some (tm_ao γ.2.2.1 cap' g) ∧ (n + 1 ≤ cap' ∧ cap' ≤ 400 ∧ 10 ≤ cap') ∧ (∀ j : Nat, j < i → g j = f j) ∧ g i = some v0 ∧ ∀ j : Nat, i ≤ j → j < n → g (j + 1) = f j) := by
  refine tm_con hst (by decide) (Nat.le_of_ble_eq_true rfl) (fun x hB hR => ?_)
  have hg := hB.1
  subst hg
  have hC : tm_C x cJx4a65c_add_7a177 RJx4a65c (none) := hB.2.2.2.1
  show tm_V x (tm_G x Ω) 1 400 0 [(0, .ref (a)), (1, .int (I ((i : Int)))), (2, .ref (v0))] []
  refine tm_aload_n 0 hC dJx4a65c_add_7a177_0 rfl rfl ?_
  refine tm_iload_n 1 hC dJx4a65c_add_7a177_1 rfl rfl ?_
  refine tm_callV (b := 1) (n := 400) (rest := []) hC (c_rca (tm_g x) hst Ω a _ n _ ha i (by omega)) k_Jx4a65c_135 (by rw [hB.2.2.1]; exact ⟨Nat.le_of_ble_eq_true rfl, Nat.le_of_ble_eq_true rfl⟩) rfl (tm_rec1 hC ha rfl) rfl (by decide) dJx4a65c_add_7a177_2 (fun v_2 w_2 hp_2 => ?_)
  obtain ⟨rfl, rfl⟩ := hp_2
  show tm_V x (tm_G x Ω) 1 400 5 [(0, .ref (a)), (1, .int (I ((i : Int)))), (2, .ref (v0))] []
  refine tm_aload_n 0 hC dJx4a65c_add_7a177_5 rfl rfl ?_
  refine tm_dup hC dJx4a65c_add_7a177_6 rfl ?_
  refine tm_getf1 hC f_Jx4a65c_63 ha rfl dJx4a65c_add_7a177_7 ?_
  refine tm_iconst hC dJx4a65c_add_7a177_10 ?_
  refine tm_iadd hC dJx4a65c_add_7a177_11 ?_
  refine tm_putf1 hC f_Jx4a65c_63 ha (tt_0_0 _) (Nat.le_of_ble_eq_true rfl) dJx4a65c_add_7a177_12 ?_
  obtain ⟨w1, hw2⟩ : ∃ z, z = tm_up Ω a (.inr (0, [.int (I (m0 + 1)), .ref (d), .int (I ((n : Int)))])) := ⟨_, rfl⟩
  show tm_V x (tm_G x (tm_up Ω a (.inr (0, [.int (I (m0 + 1)), .ref (d), .int (I ((n : Int)))])))) 1 400 15 [(0, .ref (a)), (1, .int (I ((i : Int)))), (2, .ref (v0))] []
  rw [← hw2]
  have hw1_a : w1 a = some (.inr (0, [.int (I (m0 + 1)), .ref (d), .int (I ((n : Int)))])) := by rw [hw2]; first | done | exact tm_up_s
  have hw1_d := (show w1 d = _ by rw [hw2]; exact tm_up_n (fun z => absurd (ha.symm.trans (z ▸ hd)) (by intro q; cases q))).trans hd
  refine tm_aload_n 0 hC dJx4a65c_add_7a177_15 rfl rfl ?_
  refine tm_getf1 hC f_Jx4a65c_48 hw1_a rfl dJx4a65c_add_7a177_16 ?_
  refine tm_dup hC dJx4a65c_add_7a177_19 rfl ?_
  refine tm_istore_n [(3, .int (I ((n : Int)))), (0, .ref (a)), (1, .int (I ((i : Int)))), (2, .ref (v0))] hC dJx4a65c_add_7a177_20 rfl (by rw [hB.2.1]; exact Nat.le_of_ble_eq_true rfl) rfl ?_
  refine tm_aload_n 1 hC dJx4a65c_add_7a177_21 rfl rfl ?_
  refine tm_getf1 hC f_Jx4a65c_9 hw1_a rfl dJx4a65c_add_7a177_22 ?_
  refine tm_dup hC dJx4a65c_add_7a177_25 rfl ?_
  refine tm_astore [(4, .ref (d)), (3, .int (I ((n : Int)))), (0, .ref (a)), (1, .int (I ((i : Int)))), (2, .ref (v0))] hC dJx4a65c_add_7a177_26 (by rw [hB.2.1]; exact Nat.le_of_ble_eq_true rfl) rfl ?_
  refine tm_alen1 (t0 := 3) (ty := .object "java/lang/Object") hC hw1_d rfl dJx4a65c_add_7a177_28 ?_
  refine tm_icmp_ne 38 hC dJx4a65c_add_7a177_29 (by decide) (by omega) (fun c_29 => ?_) (fun c_29 => ?_)
  · exact ((by omega) : False).elim
  · refine tm_aload_n 2 hC dJx4a65c_add_7a177_32 rfl rfl ?_
    refine tm_less (b' := 1 + 0) (n' := 400 + 0) ⟨by omega, by omega⟩ ?_
    refine tm_callV (b := 0) (n := 0) (rest := []) hC (c_grow0 (tm_g x) hst w1 a d n (I (m0 + 1)) f hw1_a (Or.inr ⟨by rw [hw2, tm_up_n (fun z => absurd (z ▸ hd) (by rw [ha]; intro q; cases q))]; exact hd, hn, fun i hi y hy => by rw [hw2]; exact tm_el_put (he i hi y hy) ha⟩)) k_Jx4a65c_129 (by rw [hB.2.2.1]; exact ⟨Nat.le_of_ble_eq_true rfl, Nat.le_of_ble_eq_true rfl⟩) rfl (tm_rec1 hC hw1_a rfl) rfl (by decide) dJx4a65c_add_7a177_33 (fun v_33 w_33 hp_33 => ?_)
    obtain ⟨q, cap', g, hq, hw, hc, hg, rfl⟩ := hp_33
    have hqa : q ≠ a := fun z => by subst z; rw [hw1_a] at hq; cases hq
    have hqn : Ω q = none := by rw [hw2, tm_up_n hqa] at hq; exact hq
    have hv2 : tm_el w_33 v0 := by rw [← hw]; exact tm_el_put (tm_el_up (by rw [hw2]; exact tm_el_put hv ha) hq) ((tm_up_n (Ne.symm hqa)).trans hw1_a)
    have he2 : ∀ j : Nat, j < n → ∀ y : Nat, f j = some y → tm_el w_33 y := fun j hj y hy => by rw [← hw]; exact tm_el_put (tm_el_up (by rw [hw2]; exact tm_el_put (he j hj y hy) ha) hq) ((tm_up_n (Ne.symm hqa)).trans hw1_a)
    have ha2 : w_33 a = some (.inr (0, [.int (I (m0 + 1)), .ref q, .int (I n)])) := by rw [← hw]; exact tm_up_s
    have hq2 : w_33 q = some (tm_ao (tm_T x) cap' g) := by rw [← hw, tm_up_n hqa]; exact tm_up_s
    show tm_V x (tm_G x w_33) 0 0 36 [(4, .ref (d)), (3, .int (I ((n : Int)))), (0, .ref (a)), (1, .int (I ((i : Int)))), (2, .ref (v0))] [.ref (q)]
    refine tm_astore [(4, .ref (q)), (3, .int (I ((n : Int)))), (0, .ref (a)), (1, .int (I ((i : Int)))), (2, .ref (v0))] hC dJx4a65c_add_7a177_36 (by rw [hB.2.1]; exact Nat.le_of_ble_eq_true rfl) rfl ?_
    refine tm_aload 0 hC dJx4a65c_add_7a177_38 rfl ?_
    refine tm_iload_n 3 hC dJx4a65c_add_7a177_40 rfl rfl ?_
    refine tm_aload 0 hC dJx4a65c_add_7a177_41 rfl ?_
    refine tm_iload_n 3 hC dJx4a65c_add_7a177_43 rfl rfl ?_
    refine tm_iconst hC dJx4a65c_add_7a177_44 ?_
    refine tm_iadd hC dJx4a65c_add_7a177_45 ?_
    refine tm_iload_n 1 hC dJx4a65c_add_7a177_46 rfl rfl ?_
    refine tm_iload_n 3 hC dJx4a65c_add_7a177_47 rfl rfl ?_
    refine tm_isub hC dJx4a65c_add_7a177_48 ?_
    refine tm_copy1 hC x_Jx4a65c_112 hq2 hq2 (by omega) (fun j hj y hy => he2 _ (by omega) y ((hg _ (by omega)).symm.trans hy)) (by rw [hB.2.2.1]; exact ⟨Nat.le_of_ble_eq_true rfl, Nat.le_of_ble_eq_true rfl⟩) (by decide) dJx4a65c_add_7a177_49 ?_
    obtain ⟨w3, hw4⟩ : ∃ z, z = tm_up w_33 q (tm_ao (tm_T x) cap' (va_cpy g g ((i : Int) : Int).toNat ((i : Int) + 1 : Int).toNat ((n : Int) - (i : Int) : Int).toNat)) := ⟨_, rfl⟩
    show tm_V x (tm_G x (tm_up w_33 q (tm_ao (tm_T x) cap' (va_cpy g g ((i : Int) : Int).toNat ((i : Int) + 1 : Int).toNat ((n : Int) - (i : Int) : Int).toNat)))) 0 0 52 [(4, .ref (q)), (3, .int (I ((n : Int)))), (0, .ref (a)), (1, .int (I ((i : Int)))), (2, .ref (v0))] []
    rw [← hw4]
    have hw3_q : w3 q = some (tm_ao (tm_T x) cap' (va_cpy g g ((i : Int) : Int).toNat ((i : Int) + 1 : Int).toNat ((n : Int) - (i : Int) : Int).toNat)) := by rw [hw4]; first | done | exact tm_up_s
    have hw3_a := (show w3 a = _ by rw [hw4]; exact tm_up_n (fun z => absurd (hq2.symm.trans (z ▸ ha2)) (by intro q; cases q))).trans ha2
    refine tm_aload 0 hC dJx4a65c_add_7a177_52 rfl ?_
    refine tm_iload_n 3 hC dJx4a65c_add_7a177_54 rfl rfl ?_
    refine tm_aload_n 4 hC dJx4a65c_add_7a177_55 rfl rfl ?_
    refine tm_aast1 hC hw3_q (by omega) (by rw [hw4]; exact tm_el_arr hv2 hq2) dJx4a65c_add_7a177_56 ?_
    obtain ⟨w5, hw6⟩ : ∃ z, z = tm_up w3 q (tm_ao (tm_T x) cap' (va_up (va_cpy g g ((i : Int) : Int).toNat ((i : Int) + 1 : Int).toNat ((n : Int) - (i : Int) : Int).toNat) ((i : Int) : Int).toNat (some v0))) := ⟨_, rfl⟩
    show tm_V x (tm_G x (tm_up w3 q (tm_ao (tm_T x) cap' (va_up (va_cpy g g ((i : Int) : Int).toNat ((i : Int) + 1 : Int).toNat ((n : Int) - (i : Int) : Int).toNat) ((i : Int) : Int).toNat (some v0))))) 0 0 57 [(4, .ref (q)), (3, .int (I ((n : Int)))), (0, .ref (a)), (1, .int (I ((i : Int)))), (2, .ref (v0))] []
    rw [← hw6]
    have hw5_q : w5 q = some (tm_ao (tm_T x) cap' (va_up (va_cpy g g ((i : Int) : Int).toNat ((i : Int) + 1 : Int).toNat ((n : Int) - (i : Int) : Int).toNat) ((i : Int) : Int).toNat (some v0))) := by rw [hw6]; first | done | exact tm_up_s
    have hw5_a := (show w5 a = _ by rw [hw6]; exact tm_up_n (fun z => absurd (hw3_q.symm.trans (z ▸ hw3_a)) (by intro q; cases q))).trans hw3_a
    refine tm_aload_n 2 hC dJx4a65c_add_7a177_57 rfl rfl ?_
    refine tm_iload_n 1 hC dJx4a65c_add_7a177_58 rfl rfl ?_
    refine tm_iconst hC dJx4a65c_add_7a177_59 ?_
    refine tm_iadd hC dJx4a65c_add_7a177_60 ?_
    refine tm_putf1 hC f_Jx4a65c_48 hw5_a (tt_0_2 _) (Nat.le_of_ble_eq_true rfl) dJx4a65c_add_7a177_61 ?_
    obtain ⟨w7, hw8⟩ : ∃ z, z = tm_up w5 a (.inr (0, [.int (I (m0 + 1)), .ref (q), .int (I ((n : Int) + 1))])) := ⟨_, rfl⟩
    show tm_V x (tm_G x (tm_up w5 a (.inr (0, [.int (I (m0 + 1)), .ref (q), .int (I ((n : Int) + 1))])))) 0 0 64 [(4, .ref (q)), (3, .int (I ((n : Int)))), (0, .ref (a)), (1, .int (I ((i : Int)))), (2, .ref (v0))] []
    rw [← hw8]
    have hw7_a : w7 a = some (.inr (0, [.int (I (m0 + 1)), .ref (q), .int (I ((n : Int) + 1))])) := by rw [hw8]; first | done | exact tm_up_s
    have hw7_q := (show w7 q = _ by rw [hw8]; exact tm_up_n (fun z => absurd (hw5_a.symm.trans (z ▸ hw5_q)) (by intro q; cases q))).trans hw5_q
    exact tm_vret hC hR dJx4a65c_add_7a177_64 (⟨rfl, q, cap', va_up (va_cpy g g ((i : Int)).toNat ((i : Int) + 1).toNat ((n : Int) - (i : Int)).toNat) ((i : Int)).toNat (some v0), Or.inl hqn, fun b hb1 hb2 => by rw [hw8, tm_up_n hb1, hw6, tm_up_n hb2, hw4, tm_up_n hb2, ← hw, tm_up_n hb1, tm_up_n hb2, hw2, tm_up_n hb1], by rw [hw8]; exact tm_up_s, (by rw [hw8, tm_up_n hqa, hw6]; exact tm_up_s), by omega, fun j hj => (if_neg (by omega)).trans ((pk_cpy_out (by omega)).trans (hg _ (by omega))), if_pos rfl, fun j h1 h2 => (if_neg (by omega)).trans ((pk_cpy_in (by omega) (by omega)).trans ((congrArg g (show _ = j by omega)).trans (hg _ (by omega))))⟩)

set_option maxHeartbeats 4000000 in
set_option maxRecDepth 100000 in
theorem c_addiC (γ : tmG) (hst : γ.1.stackTraces = false) (Ω : tmO) (a d n i v0 : Nat) (m0 : Int) (f : Nat → Option Nat) (ha : Ω a = some (.inr (0, [.int (I m0), .ref d, .int (I n)]))) (hv : tm_el Ω v0) (hin : i ≤ n) (cap : Nat) (hd : Ω d = some (tm_ao γ.2.2.1 cap f)) (hn : n < cap ∧ cap ≤ 400 ∧ 10 ≤ cap) (he : ∀ i : Nat, i < n → ∀ y : Nat, f i = some y → tm_el Ω y) : tm_Con γ (tm_hol γ.2.1) M_Jx4a65c_add_7a177 6 1 400 [.ref (a), .int (I ((i : Int))), .ref (v0)] Ω (fun v w' => v = none ∧ ∃ (d' cap' : Nat) (g : Nat → Option Nat), (Ω d' = none ∨ (d' = d ∧ Ω d ≠ none)) ∧ (∀ b, b ≠ a → b ≠ d' → w' b = Ω b) ∧ w' a = some (.inr (0, [.int (I (m0 + 1)), .ref d', .int (I ((n : Int) + 1))])) ∧ w' d' = some (tm_ao γ.2.2.1 cap' g) ∧ (n + 1 ≤ cap' ∧ cap' ≤ 400 ∧ 10 ≤ cap') ∧ (∀ j : Nat, j < i → g j = f j) ∧ g i = some v0 ∧ ∀ j : Nat, i ≤ j → j < n → g (j + 1) = f j) := by
  refine tm_con hst (by decide) (Nat.le_of_ble_eq_true rfl) (fun x hB hR => ?_)
  have hg := hB.1
  subst hg
  have hC : tm_C x cJx4a65c_add_7a177 RJx4a65c (none) := hB.2.2.2.1
  show tm_V x (tm_G x Ω) 1 400 0 [(0, .ref (a)), (1, .int (I ((i : Int)))), (2, .ref (v0))] []
  refine tm_aload_n 0 hC dJx4a65c_add_7a177_0 rfl rfl ?_
  refine tm_iload_n 1 hC dJx4a65c_add_7a177_1 rfl rfl ?_
  refine tm_callV (b := 1) (n := 400) (rest := []) hC (c_rca (tm_g x) hst Ω a _ n _ ha i (by omega)) k_Jx4a65c_135 (by rw [hB.2.2.1]; exact ⟨Nat.le_of_ble_eq_true rfl, Nat.le_of_ble_eq_true rfl⟩) rfl (tm_rec1 hC ha rfl) rfl (by decide) dJx4a65c_add_7a177_2 (fun v_2 w_2 hp_2 => ?_)
  obtain ⟨rfl, rfl⟩ := hp_2
  show tm_V x (tm_G x Ω) 1 400 5 [(0, .ref (a)), (1, .int (I ((i : Int)))), (2, .ref (v0))] []
  refine tm_aload_n 0 hC dJx4a65c_add_7a177_5 rfl rfl ?_
  refine tm_dup hC dJx4a65c_add_7a177_6 rfl ?_
  refine tm_getf1 hC f_Jx4a65c_63 ha rfl dJx4a65c_add_7a177_7 ?_
  refine tm_iconst hC dJx4a65c_add_7a177_10 ?_
  refine tm_iadd hC dJx4a65c_add_7a177_11 ?_
  refine tm_putf1 hC f_Jx4a65c_63 ha (tt_0_0 _) (Nat.le_of_ble_eq_true rfl) dJx4a65c_add_7a177_12 ?_
  obtain ⟨w1, hw2⟩ : ∃ z, z = tm_up Ω a (.inr (0, [.int (I (m0 + 1)), .ref (d), .int (I ((n : Int)))])) := ⟨_, rfl⟩
  show tm_V x (tm_G x (tm_up Ω a (.inr (0, [.int (I (m0 + 1)), .ref (d), .int (I ((n : Int)))])))) 1 400 15 [(0, .ref (a)), (1, .int (I ((i : Int)))), (2, .ref (v0))] []
  rw [← hw2]
  have hw1_a : w1 a = some (.inr (0, [.int (I (m0 + 1)), .ref (d), .int (I ((n : Int)))])) := by rw [hw2]; first | done | exact tm_up_s
  have hw1_d := (show w1 d = _ by rw [hw2]; exact tm_up_n (fun z => absurd (ha.symm.trans (z ▸ hd)) (by intro q; cases q))).trans hd
  refine tm_aload_n 0 hC dJx4a65c_add_7a177_15 rfl rfl ?_
  refine tm_getf1 hC f_Jx4a65c_48 hw1_a rfl dJx4a65c_add_7a177_16 ?_
  refine tm_dup hC dJx4a65c_add_7a177_19 rfl ?_
  refine tm_istore_n [(3, .int (I ((n : Int)))), (0, .ref (a)), (1, .int (I ((i : Int)))), (2, .ref (v0))] hC dJx4a65c_add_7a177_20 rfl (by rw [hB.2.1]; exact Nat.le_of_ble_eq_true rfl) rfl ?_
  refine tm_aload_n 1 hC dJx4a65c_add_7a177_21 rfl rfl ?_
  refine tm_getf1 hC f_Jx4a65c_9 hw1_a rfl dJx4a65c_add_7a177_22 ?_
  refine tm_dup hC dJx4a65c_add_7a177_25 rfl ?_
  refine tm_astore [(4, .ref (d)), (3, .int (I ((n : Int)))), (0, .ref (a)), (1, .int (I ((i : Int)))), (2, .ref (v0))] hC dJx4a65c_add_7a177_26 (by rw [hB.2.1]; exact Nat.le_of_ble_eq_true rfl) rfl ?_
  refine tm_alen1 (t0 := 3) (ty := .object "java/lang/Object") hC hw1_d rfl dJx4a65c_add_7a177_28 ?_
  refine tm_icmp_ne 38 hC dJx4a65c_add_7a177_29 (by decide) (by omega) (fun c_29 => ?_) (fun c_29 => ?_)
  · refine tm_aload 0 hC dJx4a65c_add_7a177_38 rfl ?_
    refine tm_iload_n 3 hC dJx4a65c_add_7a177_40 rfl rfl ?_
    refine tm_aload 0 hC dJx4a65c_add_7a177_41 rfl ?_
    refine tm_iload_n 3 hC dJx4a65c_add_7a177_43 rfl rfl ?_
    refine tm_iconst hC dJx4a65c_add_7a177_44 ?_
    refine tm_iadd hC dJx4a65c_add_7a177_45 ?_
    refine tm_iload_n 1 hC dJx4a65c_add_7a177_46 rfl rfl ?_
    refine tm_iload_n 3 hC dJx4a65c_add_7a177_47 rfl rfl ?_
    refine tm_isub hC dJx4a65c_add_7a177_48 ?_
    refine tm_copy1 hC x_Jx4a65c_112 hw1_d hw1_d (by omega) (fun j hj y hy => by rw [hw2]; exact tm_el_put (he _ (by omega) y hy) ha) (by rw [hB.2.2.1]; exact ⟨Nat.le_of_ble_eq_true rfl, Nat.le_of_ble_eq_true rfl⟩) (by decide) dJx4a65c_add_7a177_49 ?_
    obtain ⟨w3, hw4⟩ : ∃ z, z = tm_up w1 d (tm_ao (tm_T x) cap (va_cpy f f ((i : Int) : Int).toNat ((i : Int) + 1 : Int).toNat ((n : Int) - (i : Int) : Int).toNat)) := ⟨_, rfl⟩
    show tm_V x (tm_G x (tm_up w1 d (tm_ao (tm_T x) cap (va_cpy f f ((i : Int) : Int).toNat ((i : Int) + 1 : Int).toNat ((n : Int) - (i : Int) : Int).toNat)))) 1 400 52 [(4, .ref (d)), (3, .int (I ((n : Int)))), (0, .ref (a)), (1, .int (I ((i : Int)))), (2, .ref (v0))] []
    rw [← hw4]
    have hw3_d : w3 d = some (tm_ao (tm_T x) cap (va_cpy f f ((i : Int) : Int).toNat ((i : Int) + 1 : Int).toNat ((n : Int) - (i : Int) : Int).toNat)) := by rw [hw4]; first | done | exact tm_up_s
    have hw3_a := (show w3 a = _ by rw [hw4]; exact tm_up_n (fun z => absurd (hw1_d.symm.trans (z ▸ hw1_a)) (by intro q; cases q))).trans hw1_a
    refine tm_aload 0 hC dJx4a65c_add_7a177_52 rfl ?_
    refine tm_iload_n 3 hC dJx4a65c_add_7a177_54 rfl rfl ?_
    refine tm_aload_n 4 hC dJx4a65c_add_7a177_55 rfl rfl ?_
    refine tm_aast1 hC hw3_d (by omega) (by rw [hw4]; exact tm_el_arr (by rw [hw2]; exact tm_el_put hv ha) ((by rw [hw2, tm_up_n (fun z => absurd (z ▸ hd) (by rw [ha]; intro q; cases q))]; exact hd))) dJx4a65c_add_7a177_56 ?_
    obtain ⟨w5, hw6⟩ : ∃ z, z = tm_up w3 d (tm_ao (tm_T x) cap (va_up (va_cpy f f ((i : Int) : Int).toNat ((i : Int) + 1 : Int).toNat ((n : Int) - (i : Int) : Int).toNat) ((i : Int) : Int).toNat (some v0))) := ⟨_, rfl⟩
    show tm_V x (tm_G x (tm_up w3 d (tm_ao (tm_T x) cap (va_up (va_cpy f f ((i : Int) : Int).toNat ((i : Int) + 1 : Int).toNat ((n : Int) - (i : Int) : Int).toNat) ((i : Int) : Int).toNat (some v0))))) 1 400 57 [(4, .ref (d)), (3, .int (I ((n : Int)))), (0, .ref (a)), (1, .int (I ((i : Int)))), (2, .ref (v0))] []
    rw [← hw6]
    have hw5_d : w5 d = some (tm_ao (tm_T x) cap (va_up (va_cpy f f ((i : Int) : Int).toNat ((i : Int) + 1 : Int).toNat ((n : Int) - (i : Int) : Int).toNat) ((i : Int) : Int).toNat (some v0))) := by rw [hw6]; first | done | exact tm_up_s
    have hw5_a := (show w5 a = _ by rw [hw6]; exact tm_up_n (fun z => absurd (hw3_d.symm.trans (z ▸ hw3_a)) (by intro q; cases q))).trans hw3_a
    refine tm_aload_n 2 hC dJx4a65c_add_7a177_57 rfl rfl ?_
    refine tm_iload_n 1 hC dJx4a65c_add_7a177_58 rfl rfl ?_
    refine tm_iconst hC dJx4a65c_add_7a177_59 ?_
    refine tm_iadd hC dJx4a65c_add_7a177_60 ?_
    refine tm_putf1 hC f_Jx4a65c_48 hw5_a (tt_0_2 _) (Nat.le_of_ble_eq_true rfl) dJx4a65c_add_7a177_61 ?_
    obtain ⟨w7, hw8⟩ : ∃ z, z = tm_up w5 a (.inr (0, [.int (I (m0 + 1)), .ref (d), .int (I ((n : Int) + 1))])) := ⟨_, rfl⟩
    show tm_V x (tm_G x (tm_up w5 a (.inr (0, [.int (I (m0 + 1)), .ref (d), .int (I ((n : Int) + 1))])))) 1 400 64 [(4, .ref (d)), (3, .int (I ((n : Int)))), (0, .ref (a)), (1, .int (I ((i : Int)))), (2, .ref (v0))] []
    rw [← hw8]
    have hw7_a : w7 a = some (.inr (0, [.int (I (m0 + 1)), .ref (d), .int (I ((n : Int) + 1))])) := by rw [hw8]; first | done | exact tm_up_s
    have hw7_d := (show w7 d = _ by rw [hw8]; exact tm_up_n (fun z => absurd (hw5_a.symm.trans (z ▸ hw5_d)) (by intro q; cases q))).trans hw5_d
    exact tm_vret hC hR dJx4a65c_add_7a177_64 (⟨rfl, d, cap, va_up (va_cpy f f ((i : Int)).toNat ((i : Int) + 1).toNat ((n : Int) - (i : Int)).toNat) ((i : Int)).toNat (some v0), Or.inr ⟨rfl, by rw [hd]; exact fun z => by cases z⟩, fun b hb1 hb2 => by rw [hw8, tm_up_n hb1, hw6, tm_up_n hb2, hw4, tm_up_n hb2, hw2, tm_up_n hb1], by rw [hw8]; exact tm_up_s, (by rw [hw8, tm_up_n (fun z => absurd (z ▸ hd) (by rw [ha]; intro q; cases q)), hw6]; exact tm_up_s), by omega, fun j hj => (if_neg (by omega)).trans ((pk_cpy_out (by omega)).trans rfl), if_pos rfl, fun j h1 h2 => (if_neg (by omega)).trans ((pk_cpy_in (by omega) (by omega)).trans ((congrArg f (show _ = j by omega)).trans rfl))⟩)
  · exact ((by omega) : False).elim

theorem c_addi (γ : tmG) (hst : γ.1.stackTraces = false) (Ω : tmO) (a d n i v0 : Nat) (m0 : Int) (f : Nat → Option Nat) (ha : Ω a = some (.inr (0, [.int (I m0), .ref d, .int (I n)]))) (hv : tm_el Ω v0) (hin : i ≤ n) (h : ((d = γ.2.2.2.1 ∧ n = 0) ∨ (∃ cap, Ω d = some (tm_ao γ.2.2.1 cap f) ∧ n ≤ cap ∧ cap ≤ 400 ∧ 10 ≤ cap ∧ n ≤ 250 ∧ ∀ i : Nat, i < n → ∀ y : Nat, f i = some y → tm_el Ω y))) : tm_Con γ (tm_hol γ.2.1) M_Jx4a65c_add_7a177 6 1 400 [.ref a, .int (I (i : Int)), .ref v0] Ω (fun v w' => v = none ∧ ∃ (d' cap' : Nat) (g : Nat → Option Nat), (Ω d' = none ∨ (d' = d ∧ Ω d ≠ none)) ∧ (∀ b, b ≠ a → b ≠ d' → w' b = Ω b) ∧ w' a = some (.inr (0, [.int (I (m0 + 1)), .ref d', .int (I ((n : Int) + 1))])) ∧ w' d' = some (tm_ao γ.2.2.1 cap' g) ∧ (n + 1 ≤ cap' ∧ cap' ≤ 400 ∧ 10 ≤ cap') ∧ (∀ j : Nat, j < i → g j = f j) ∧ g i = some v0 ∧ ∀ j : Nat, i ≤ j → j < n → g (j + 1) = f j) := by
  rcases h with ⟨h1, h2⟩ | ⟨cap, h1, h2, h3, h4, h5, h6⟩
  · subst h1; exact c_addiA γ hst Ω a γ.2.2.2.1 n i v0 m0 f ha hv hin h2
  · by_cases hc : n = cap
    · subst hc; exact c_addiB γ hst Ω a d n i v0 m0 f ha hv hin h1 ⟨h4, h5⟩ h6
    · exact c_addiC γ hst Ω a d n i v0 m0 f ha hv hin cap h1 (by omega) h6
end
section
/-! ArrayList's members over the world with lists. -/
theorem tm_lift {γ : tmG} {M : tmM} {d mc ms : Nat} {As : List Value} {Λ : tmL} {post2 : Option Value → tmL → Prop}
    (k : ∀ Ω, tm_lw γ.2.2.1 γ.2.2.2.1 Λ Ω → ∃ post1, tm_Con γ (tm_hol γ.2.1) M d mc ms As Ω post1 ∧ ∀ v Ω', post1 v Ω' → (∀ q, Ω' q ≠ none → q ≠ γ.2.2.2.1) → ∃ Λ', post2 v Λ' ∧ tm_lw γ.2.2.1 γ.2.2.2.1 Λ' Ω') : tm_Con γ (tm_h2 γ.2.1 γ.2.2.1 γ.2.2.2.1) M d mc ms As Λ post2 := by
  intro Fz p e ha hc hk s m args below hf happ hP hK
  obtain ⟨h1, h2, h3, Ω, hw, hh⟩ := hP
  obtain ⟨post1, hcon, himp⟩ := k Ω hw
  obtain ⟨n, o, a1, a2, a3, ⟨v, Ω', rfl, hp, hh', hF⟩, hL⟩ := hcon Fz p e ha hc hk s m args below hf happ ⟨h1, h2, h3, hh⟩ hK
  obtain ⟨Λ', hp2, hw2⟩ := himp v Ω' hp (fun q hq z => by
    obtain ⟨e9, he9⟩ := Option.ne_none_iff_exists'.mp hq
    exact (tm_hol_at hh' he9).2.1 (by rw [z]; exact h3.2.2.1))
  exact ⟨n, _, a1, a2, a3, ⟨v, Λ', rfl, hp2, ⟨Ω', hw2, hh'⟩, hF⟩, hL⟩
theorem c_Linit (γ : tmG) (hst : γ.1.stackTraces = false) (Λ : tmL) (a : Nat) (ha : Λ a = some (.inl (.inr (0, [.int (I 0), .null, .int (I 0)])))) : tm_Con γ (tm_h2 γ.2.1 γ.2.2.1 γ.2.2.2.1) M_Jx4a65c_init_da8c8 3 0 0 [.ref a] Λ (fun v w' => tm_ul Λ a [] = w' ∧ v = none) := by
  refine tm_lift (fun Ω hw => ⟨_, c_init1 γ hst Ω a (I 0) (hw.choose_spec.1 _ _ ha), fun v Ω' hp hz => ⟨_, ⟨rfl, hp.2⟩, ?_⟩⟩)
  rw [← hp.1]
  exact tm_lw_born hw ha
theorem c_Lsize (γ : tmG) (hst : γ.1.stackTraces = false) (Λ : tmL) (a : Nat) (xs : List Nat) (ha : Λ a = some (.inr xs)) : tm_Con γ (tm_h2 γ.2.1 γ.2.2.1 γ.2.2.2.1) M_Jx4a65c_size_8abf5 1 0 0 [.ref a] Λ (fun v w' => Λ = w' ∧ v = some (.int (I (xs.length : Int)))) := by
  refine tm_lift (fun Ω hw => ?_)
  obtain ⟨mc, cap, f, h1, -⟩ := (hw.choose_spec.2.1 a xs ha).1
  exact ⟨_, c_size1 γ hst Ω a _ xs.length mc h1, fun v Ω' hp hz => ⟨Λ, ⟨rfl, hp.2⟩, by rw [← hp.1]; exact hw⟩⟩
theorem tm_len {T : ClassId × ClassId × ClassId × ClassId} {e0 : Nat} {Ω : tmO} {a d : Nat} {xs : List Nat} (h : tm_ls T e0 Ω a d xs) : xs.length ≤ 400 := by
  obtain ⟨mc, cap, f, h1, h2, h3⟩ := h
  by_cases hz : d = e0
  · rw [h3 hz]; exact Nat.zero_le _
  · have := h2 hz; omega
theorem c_LisE (γ : tmG) (hst : γ.1.stackTraces = false) (Λ : tmL) (a : Nat) (xs : List Nat) (ha : Λ a = some (.inr xs)) : tm_Con γ (tm_h2 γ.2.1 γ.2.2.1 γ.2.2.2.1) M_Jx4a65c_isEmpty_aae02 1 0 0 [.ref a] Λ (fun v w' => Λ = w' ∧ v = some (.int (I (bi (xs.length = 0))))) := by
  refine tm_lift (fun Ω hw => ?_)
  have hl := tm_len (hw.choose_spec.2.1 a xs ha).1
  obtain ⟨mc, cap, f, h1, -⟩ := (hw.choose_spec.2.1 a xs ha).1
  exact ⟨_, c_isE1 γ hst Ω a _ xs.length mc h1 (by omega), fun v Ω' hp hz => ⟨Λ, ⟨rfl, hp.2⟩, by rw [← hp.1]; exact hw⟩⟩
theorem c_Lget (γ : tmG) (hst : γ.1.stackTraces = false) (Λ : tmL) (a : Nat) (xs : List Nat) (k : Int) (y : Nat) (ha : Λ a = some (.inr xs)) (hk : 0 ≤ k) (hy : xs[k.toNat]? = some y) : tm_Con γ (tm_h2 γ.2.1 γ.2.2.1 γ.2.2.2.1) M_Jx4a65c_get_915e3 3 0 0 [.ref a, .int (I k)] Λ (fun v w' => Λ = w' ∧ v = some (.ref y)) := by
  obtain ⟨i, rfl⟩ := Int.eq_ofNat_of_zero_le hk
  refine tm_lift (fun Ω hw => ?_)
  obtain ⟨mc, cap, f, h1, h2, h3⟩ := (hw.choose_spec.2.1 a xs ha).1
  have hi : i < xs.length := (List.getElem?_eq_some_iff.mp hy).1
  have hne : hw.choose a ≠ γ.2.2.2.1 := fun z => by rw [h3 z] at hi; exact absurd hi (Nat.not_lt_zero _)
  obtain ⟨g1, g2, g3, g4, g5⟩ := h2 hne
  exact ⟨_, c_get1 γ hst Ω a _ xs.length mc h1 cap i y f g1 (by omega) ((g2 i hi).trans hy), fun v Ω' hp hz => ⟨Λ, ⟨rfl, hp.2⟩, by rw [← hp.1]; exact hw⟩⟩
theorem tm_h3 {γ : tmG} {Λ : tmL} {Ω : tmO} {E : Nat → Nat} {a cap : Nat} {f : Nat → Option Nat} {xs : List Nat} (hw : tm_lw γ.2.2.1 γ.2.2.2.1 Λ Ω) (h2 : E a ≠ γ.2.2.2.1 → Ω (E a) = some (tm_ao γ.2.2.1 cap f) ∧ (∀ i, i < xs.length → f i = xs[i]?) ∧ xs.length ≤ cap ∧ cap ≤ 400 ∧ 10 ≤ cap) (h3 : E a = γ.2.2.2.1 → xs = []) (hel : ∀ v ∈ xs, tm_el2 Λ v) (hl : xs.length ≤ 250) : (E a = γ.2.2.2.1 ∧ xs.length = 0) ∨ (∃ cap, Ω (E a) = some (tm_ao γ.2.2.1 cap f) ∧ xs.length ≤ cap ∧ cap ≤ 400 ∧ 10 ≤ cap ∧ xs.length ≤ 250 ∧ ∀ i : Nat, i < xs.length → ∀ y : Nat, f i = some y → tm_el Ω y) := by
  by_cases hz : E a = γ.2.2.2.1
  · exact Or.inl ⟨hz, by rw [h3 hz]; rfl⟩
  · obtain ⟨g1, g2, g3, g4, g5⟩ := h2 hz
    exact Or.inr ⟨cap, g1, g3, g4, g5, hl, fun i hi y hy => tm_el_of hw (hel y (List.mem_of_getElem? ((g2 i hi).symm.trans hy)))⟩
theorem c_Ladd (γ : tmG) (hst : γ.1.stackTraces = false) (Λ : tmL) (a v0 : Nat) (xs : List Nat) (ha : Λ a = some (.inr xs)) (hv : tm_el2 Λ v0) (hl : xs.length ≤ 250) : tm_Con γ (tm_h2 γ.2.1 γ.2.2.1 γ.2.2.2.1) M_Jx4a65c_add_9ea2d 7 1 400 [.ref a, .ref v0] Λ (fun v w' => tm_ul Λ a (xs ++ [v0]) = w' ∧ v = some (.int (I 1))) := by
  refine tm_lift (fun Ω hw => ?_)
  obtain ⟨E, e1, e2, e3, e4⟩ := id hw
  obtain ⟨⟨mc, cap, f, h1, h2, h3⟩, -, hel⟩ := e2 a xs ha
  rw [I_of mc] at h1
  refine ⟨_, c_add1 γ hst Ω a (E a) xs.length v0 mc.toInt f h1 (tm_el_of hw hv) (tm_h3 hw h2 h3 hel hl), fun v Ω' hp hz => ⟨_, ⟨rfl, hp.1⟩, ?_⟩⟩
  obtain ⟨-, d', cap', g, hd, hk, hoa, hod, hc, hgn, hgi⟩ := hp
  have hd0 : d' ≠ γ.2.2.2.1 := hz d' (by rw [hod]; exact fun z => by cases z)
  have en : (xs ++ [v0]).length = xs.length + 1 := by simp
  refine tm_lw_list e1 e2 e3 e4 ha hk (by rw [hoa, en]; rfl) hod (fun i hi => ?_) (by omega) (by
    rcases hd with hd | ⟨hd, hd2⟩
    · exact Or.inr ⟨hd, hd0⟩
    · exact Or.inl ⟨hd, hd0⟩) (fun v hv2 => ?_)
  · by_cases hi2 : i < xs.length
    · rw [hgi i hi2, List.getElem?_append_left hi2]
      have hne : E a ≠ γ.2.2.2.1 := fun z => by rw [h3 z] at hi2; exact absurd hi2 (Nat.not_lt_zero _)
      exact (h2 hne).2.1 i hi2
    · have : i = xs.length := by omega
      subst this
      rw [hgn]; simp
  · rcases List.mem_append.mp hv2 with h | h
    · exact hel v h
    · rw [List.mem_singleton.mp h]; exact hv
theorem c_Laddi (γ : tmG) (hst : γ.1.stackTraces = false) (Λ : tmL) (a v0 : Nat) (k : Int) (xs : List Nat) (ha : Λ a = some (.inr xs)) (hv : tm_el2 Λ v0) (hl : xs.length ≤ 250) (hk : 0 ≤ k ∧ k ≤ xs.length) : tm_Con γ (tm_h2 γ.2.1 γ.2.2.1 γ.2.2.2.1) M_Jx4a65c_add_7a177 6 1 400 [.ref a, .int (I k), .ref v0] Λ (fun v w' => tm_ul Λ a (xs.take k.toNat ++ v0 :: xs.drop k.toNat) = w' ∧ v = none) := by
  obtain ⟨i, rfl⟩ := Int.eq_ofNat_of_zero_le hk.1
  rw [show ((i : Int)).toNat = i from rfl]
  refine tm_lift (fun Ω hw => ?_)
  obtain ⟨E, e1, e2, e3, e4⟩ := id hw
  obtain ⟨⟨mc, cap, f, h1, h2, h3⟩, -, hel⟩ := e2 a xs ha
  rw [I_of mc] at h1
  refine ⟨_, c_addi γ hst Ω a (E a) xs.length i v0 mc.toInt f h1 (tm_el_of hw hv) (by omega) (tm_h3 hw h2 h3 hel hl), fun v Ω' hp hz => ⟨_, ⟨rfl, hp.1⟩, ?_⟩⟩
  obtain ⟨-, d', cap', g, hd, hk2, hoa, hod, hc, hg1, hgn, hg2⟩ := hp
  have hd0 : d' ≠ γ.2.2.2.1 := hz d' (by rw [hod]; exact fun z => by cases z)
  have en : (xs.take i ++ v0 :: xs.drop i).length = xs.length + 1 := by simp; omega
  have hf : ∀ j, j < xs.length → f j = xs[j]? := fun j hj => (h2 (fun z => by rw [h3 z] at hj; exact absurd hj (Nat.not_lt_zero _))).2.1 j hj
  refine tm_lw_list e1 e2 e3 e4 ha hk2 (by rw [hoa, en]; rfl) hod (fun j hj => ?_) (by omega) (by
    rcases hd with hd | ⟨hd, hd2⟩
    · exact Or.inr ⟨hd, hd0⟩
    · exact Or.inl ⟨hd, hd0⟩) (fun v hv2 => ?_)
  · have el : (xs.take i).length = i := by rw [List.length_take]; omega
    by_cases hj1 : j < i
    · rw [hg1 j hj1, List.getElem?_append_left (by omega), List.getElem?_take_of_lt hj1]
      exact hf j (by omega)
    · rw [List.getElem?_append_right (by omega), el]
      by_cases hj2 : j = i
      · subst hj2
        rw [hgn, Nat.sub_self]; rfl
      · obtain ⟨q, rfl⟩ : ∃ q, j = q + 1 := ⟨j - 1, by omega⟩
        rw [hg2 q (by omega) (by omega), show q + 1 - i = (q - i) + 1 by omega, List.getElem?_cons_succ, List.getElem?_drop, show i + (q - i) = q by omega]
        exact hf q (by omega)
  · rcases List.mem_append.mp hv2 with h | h
    · exact hel v (List.mem_of_mem_take h)
    · rcases List.mem_cons.mp h with h | h
      · rw [h]; exact hv
      · exact hel v (List.mem_of_mem_drop h)
theorem c_Lrem (γ : tmG) (hst : γ.1.stackTraces = false) (Λ : tmL) (a : Nat) (k : Int) (y : Nat) (xs : List Nat) (ha : Λ a = some (.inr xs)) (hk : 0 ≤ k) (hy : xs[k.toNat]? = some y) : tm_Con γ (tm_h2 γ.2.1 γ.2.2.1 γ.2.2.2.1) M_Jx4a65c_remove_915e3 3 0 0 [.ref a, .int (I k)] Λ (fun v w' => tm_ul Λ a (xs.eraseIdx k.toNat) = w' ∧ v = some (.ref y)) := by
  obtain ⟨i, rfl⟩ := Int.eq_ofNat_of_zero_le hk
  rw [show ((i : Int)).toNat = i from rfl] at hy ⊢
  refine tm_lift (fun Ω hw => ?_)
  obtain ⟨E, e1, e2, e3, e4⟩ := id hw
  obtain ⟨⟨mc, cap, f, h1, h2, h3⟩, -, hel⟩ := e2 a xs ha
  have hi : i < xs.length := (List.getElem?_eq_some_iff.mp hy).1
  have hne : E a ≠ γ.2.2.2.1 := fun z => by rw [h3 z] at hi; exact absurd hi (Nat.not_lt_zero _)
  obtain ⟨g1, g2, g3, g4, g5⟩ := h2 hne
  rw [I_of mc] at h1
  refine ⟨_, c_rem1 γ hst Ω a (E a) xs.length cap i mc.toInt f h1 g1 (by omega) (fun j hj y hy => tm_el_of hw (hel y (List.mem_of_getElem? ((g2 j hj).symm.trans hy)))) y ((g2 i hi).trans hy), fun v Ω' hp hz => ⟨_, ⟨rfl, hp.1⟩, ?_⟩⟩
  obtain ⟨-, hk2, g, hoa, hod, hg1, hg2⟩ := hp
  have en : (xs.eraseIdx i).length = xs.length - 1 := by rw [List.length_eraseIdx, if_pos hi]
  refine tm_lw_list e1 e2 e3 e4 ha hk2 (by rw [hoa, en, show ((xs.length - 1 : Nat) : Int) = (xs.length : Int) - 1 by omega]) hod (fun j hj => ?_) (by omega) (Or.inl ⟨rfl, hne⟩) (fun v hv2 => hel v (List.mem_of_mem_eraseIdx hv2))
  rw [List.getElem?_eraseIdx]
  by_cases hj1 : j < i
  · rw [if_pos hj1, hg1 j hj1]; exact g2 j (by omega)
  · rw [if_neg hj1, hg2 j (by omega) (by omega)]; exact g2 (j + 1) (by omega)
end
