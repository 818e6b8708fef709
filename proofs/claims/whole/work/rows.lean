section
-- ===== PART A: goes FIRST, ahead of the names: the tables' words, and 'selects' of the private methods out of them =====
/-- a private method of a class that the tables say can be made, by its rows of tables_1 -/
def lw_okq (q : MethodName × Nat) : Prop := (q.1.cls ≠ "java/lang/invoke/MethodHandle" ∧ q.1.cls ≠ "java/lang/invoke/VarHandle") ∧ Cond.instantiable q.1.cls q.2 ∈ tables_1 ∧ Cond.privateMethod q.1 ∈ tables_1 ∧ Cond.instanceMethod q.1 ∈ tables_1
theorem lw_p0 : lw_okq (⟨"TimberList", "cutWhilePossible", "(LTimberList$Part;)I"⟩, 8) := ⟨⟨by decide +kernel, by decide +kernel⟩, List.mem_of_getElem? (i := 31) (by decide +kernel), List.mem_of_getElem? (i := 114) (by decide +kernel), List.mem_of_getElem? (i := 115) (by decide +kernel)⟩
theorem lw_p1 : lw_okq (⟨"TimberList", "tightestBoard", "(LTimberList$Part;)LTimberList$Board;"⟩, 8) := ⟨⟨by decide +kernel, by decide +kernel⟩, List.mem_of_getElem? (i := 31) (by decide +kernel), List.mem_of_getElem? (i := 118) (by decide +kernel), List.mem_of_getElem? (i := 119) (by decide +kernel)⟩
theorem lw_p2 : lw_okq (⟨"TimberList$Board", "earliestPlace", "(LTimberList$Part;I)I"⟩, 5) := ⟨⟨by decide +kernel, by decide +kernel⟩, List.mem_of_getElem? (i := 125) (by decide +kernel), List.mem_of_getElem? (i := 123) (by decide +kernel), List.mem_of_getElem? (i := 124) (by decide +kernel)⟩
theorem lw_p3 : lw_okq (⟨"TimberList$Board", "roomStart", "(II)I"⟩, 5) := ⟨⟨by decide +kernel, by decide +kernel⟩, List.mem_of_getElem? (i := 125) (by decide +kernel), List.mem_of_getElem? (i := 129) (by decide +kernel), List.mem_of_getElem? (i := 130) (by decide +kernel)⟩
theorem lw_p4 : lw_okq (⟨"TimberList$Board", "roomEnd", "(II)I"⟩, 5) := ⟨⟨by decide +kernel, by decide +kernel⟩, List.mem_of_getElem? (i := 125) (by decide +kernel), List.mem_of_getElem? (i := 135) (by decide +kernel), List.mem_of_getElem? (i := 136) (by decide +kernel)⟩
theorem lw_p5 : lw_okq (⟨"TimberList$Board", "earliestWithin", "(IILTimberList$Part;)I"⟩, 5) := ⟨⟨by decide +kernel, by decide +kernel⟩, List.mem_of_getElem? (i := 125) (by decide +kernel), List.mem_of_getElem? (i := 139) (by decide +kernel), List.mem_of_getElem? (i := 140) (by decide +kernel)⟩
theorem lw_p6 : lw_okq (⟨"TimberList$Board", "firstWorse", "(II)I"⟩, 5) := ⟨⟨by decide +kernel, by decide +kernel⟩, List.mem_of_getElem? (i := 125) (by decide +kernel), List.mem_of_getElem? (i := 143) (by decide +kernel), List.mem_of_getElem? (i := 144) (by decide +kernel)⟩
theorem lw_p7 : lw_okq (⟨"TimberList$Board", "firstGood", "(II)I"⟩, 5) := ⟨⟨by decide +kernel, by decide +kernel⟩, List.mem_of_getElem? (i := 125) (by decide +kernel), List.mem_of_getElem? (i := 151) (by decide +kernel), List.mem_of_getElem? (i := 152) (by decide +kernel)⟩
theorem lw_p8 : lw_okq (⟨"TimberList$Board", "roomLengthAround", "(II)I"⟩, 5) := ⟨⟨by decide +kernel, by decide +kernel⟩, List.mem_of_getElem? (i := 125) (by decide +kernel), List.mem_of_getElem? (i := 155) (by decide +kernel), List.mem_of_getElem? (i := 156) (by decide +kernel)⟩
theorem lw_p9 : lw_okq (⟨"TimberList", "cutSingle", "(LTimberList$Part;LTimberList$Board;I)V"⟩, 8) := ⟨⟨by decide +kernel, by decide +kernel⟩, List.mem_of_getElem? (i := 31) (by decide +kernel), List.mem_of_getElem? (i := 159) (by decide +kernel), List.mem_of_getElem? (i := 160) (by decide +kernel)⟩
theorem lw_p10 : lw_okq (⟨"TimberList", "takeFromBoards", "(LTimberList$Cutting;)V"⟩, 8) := ⟨⟨by decide +kernel, by decide +kernel⟩, List.mem_of_getElem? (i := 31) (by decide +kernel), List.mem_of_getElem? (i := 210) (by decide +kernel), List.mem_of_getElem? (i := 211) (by decide +kernel)⟩
theorem lw_p11 : lw_okq (⟨"TimberList$Board", "insertPiece", "(LTimberList$Piece;)V"⟩, 5) := ⟨⟨by decide +kernel, by decide +kernel⟩, List.mem_of_getElem? (i := 125) (by decide +kernel), List.mem_of_getElem? (i := 214) (by decide +kernel), List.mem_of_getElem? (i := 215) (by decide +kernel)⟩
theorem lw_p12 : lw_okq (⟨"java/util/ArrayList", "rangeCheckForAdd", "(I)V"⟩, 3) := ⟨⟨by decide +kernel, by decide +kernel⟩, List.mem_of_getElem? (i := 39) (by decide +kernel), List.mem_of_getElem? (i := 222) (by decide +kernel), List.mem_of_getElem? (i := 223) (by decide +kernel)⟩
theorem lw_p13 : lw_okq (⟨"java/lang/Throwable", "fillInStackTrace", "(I)Ljava/lang/Throwable;"⟩, 6) := ⟨⟨by decide +kernel, by decide +kernel⟩, List.mem_of_getElem? (i := 264) (by decide +kernel), List.mem_of_getElem? (i := 262) (by decide +kernel), List.mem_of_getElem? (i := 263) (by decide +kernel)⟩
theorem lw_p14 : lw_okq (⟨"java/util/ArrayList", "outOfBoundsMsg", "(I)Ljava/lang/String;"⟩, 3) := ⟨⟨by decide +kernel, by decide +kernel⟩, List.mem_of_getElem? (i := 39) (by decide +kernel), List.mem_of_getElem? (i := 267) (by decide +kernel), List.mem_of_getElem? (i := 268) (by decide +kernel)⟩
theorem lw_p15 : lw_okq (⟨"java/util/ArrayList", "grow", "()[Ljava/lang/Object;"⟩, 3) := ⟨⟨by decide +kernel, by decide +kernel⟩, List.mem_of_getElem? (i := 39) (by decide +kernel), List.mem_of_getElem? (i := 554) (by decide +kernel), List.mem_of_getElem? (i := 555) (by decide +kernel)⟩
def lw_privs_1 : List (MethodName × Nat) := [(⟨"TimberList", "cutWhilePossible", "(LTimberList$Part;)I"⟩, 8), (⟨"TimberList", "tightestBoard", "(LTimberList$Part;)LTimberList$Board;"⟩, 8), (⟨"TimberList$Board", "earliestPlace", "(LTimberList$Part;I)I"⟩, 5), (⟨"TimberList$Board", "roomStart", "(II)I"⟩, 5), (⟨"TimberList$Board", "roomEnd", "(II)I"⟩, 5), (⟨"TimberList$Board", "earliestWithin", "(IILTimberList$Part;)I"⟩, 5), (⟨"TimberList$Board", "firstWorse", "(II)I"⟩, 5), (⟨"TimberList$Board", "firstGood", "(II)I"⟩, 5), (⟨"TimberList$Board", "roomLengthAround", "(II)I"⟩, 5), (⟨"TimberList", "cutSingle", "(LTimberList$Part;LTimberList$Board;I)V"⟩, 8), (⟨"TimberList", "takeFromBoards", "(LTimberList$Cutting;)V"⟩, 8), (⟨"TimberList$Board", "insertPiece", "(LTimberList$Piece;)V"⟩, 5), (⟨"java/util/ArrayList", "rangeCheckForAdd", "(I)V"⟩, 3), (⟨"java/lang/Throwable", "fillInStackTrace", "(I)Ljava/lang/Throwable;"⟩, 6), (⟨"java/util/ArrayList", "outOfBoundsMsg", "(I)Ljava/lang/String;"⟩, 3), (⟨"java/util/ArrayList", "grow", "()[Ljava/lang/Object;"⟩, 3)]
theorem lw_r1 : ∀ q ∈ lw_privs_1, lw_okq q := List.forall_mem_cons.mpr ⟨lw_p0, List.forall_mem_cons.mpr ⟨lw_p1, List.forall_mem_cons.mpr ⟨lw_p2, List.forall_mem_cons.mpr ⟨lw_p3, List.forall_mem_cons.mpr ⟨lw_p4, List.forall_mem_cons.mpr ⟨lw_p5, List.forall_mem_cons.mpr ⟨lw_p6, List.forall_mem_cons.mpr ⟨lw_p7, List.forall_mem_cons.mpr ⟨lw_p8, List.forall_mem_cons.mpr ⟨lw_p9, List.forall_mem_cons.mpr ⟨lw_p10, List.forall_mem_cons.mpr ⟨lw_p11, List.forall_mem_cons.mpr ⟨lw_p12, List.forall_mem_cons.mpr ⟨lw_p13, List.forall_mem_cons.mpr ⟨lw_p14, List.forall_mem_cons.mpr ⟨lw_p15, fun _ h => absurd h List.not_mem_nil⟩⟩⟩⟩⟩⟩⟩⟩⟩⟩⟩⟩⟩⟩⟩⟩
theorem lw_p16 : lw_okq (⟨"java/util/ArrayList", "grow", "(I)[Ljava/lang/Object;"⟩, 3) := ⟨⟨by decide +kernel, by decide +kernel⟩, List.mem_of_getElem? (i := 39) (by decide +kernel), List.mem_of_getElem? (i := 558) (by decide +kernel), List.mem_of_getElem? (i := 559) (by decide +kernel)⟩
theorem lw_p17 : lw_okq (⟨"java/util/ArrayList", "add", "(Ljava/lang/Object;[Ljava/lang/Object;I)V"⟩, 3) := ⟨⟨by decide +kernel, by decide +kernel⟩, List.mem_of_getElem? (i := 39) (by decide +kernel), List.mem_of_getElem? (i := 596) (by decide +kernel), List.mem_of_getElem? (i := 597) (by decide +kernel)⟩
theorem lw_p18 : lw_okq (⟨"TimberList$Board", "areaOfPieces", "()I"⟩, 5) := ⟨⟨by decide +kernel, by decide +kernel⟩, List.mem_of_getElem? (i := 125) (by decide +kernel), List.mem_of_getElem? (i := 608) (by decide +kernel), List.mem_of_getElem? (i := 609) (by decide +kernel)⟩
theorem lw_p19 : lw_okq (⟨"TimberList$Piece", "tell", "(I)I"⟩, 5) := ⟨⟨by decide +kernel, by decide +kernel⟩, List.mem_of_getElem? (i := 165) (by decide +kernel), List.mem_of_getElem? (i := 624) (by decide +kernel), List.mem_of_getElem? (i := 625) (by decide +kernel)⟩
theorem lw_p20 : lw_okq (⟨"TimberList", "boardNumbered", "(I)LTimberList$Board;"⟩, 8) := ⟨⟨by decide +kernel, by decide +kernel⟩, List.mem_of_getElem? (i := 31) (by decide +kernel), List.mem_of_getElem? (i := 695) (by decide +kernel), List.mem_of_getElem? (i := 696) (by decide +kernel)⟩
theorem lw_p21 : lw_okq (⟨"TimberList$Board", "hasPieceSpoiledBy", "(III)Z"⟩, 5) := ⟨⟨by decide +kernel, by decide +kernel⟩, List.mem_of_getElem? (i := 125) (by decide +kernel), List.mem_of_getElem? (i := 704) (by decide +kernel), List.mem_of_getElem? (i := 705) (by decide +kernel)⟩
theorem lw_p22 : lw_okq (⟨"TimberList$Board", "insertDefect", "(LTimberList$Defect;)V"⟩, 5) := ⟨⟨by decide +kernel, by decide +kernel⟩, List.mem_of_getElem? (i := 125) (by decide +kernel), List.mem_of_getElem? (i := 728) (by decide +kernel), List.mem_of_getElem? (i := 729) (by decide +kernel)⟩
theorem lw_p23 : lw_okq (⟨"TimberList", "insertIntoPlanningOrder", "(LTimberList$Part;)V"⟩, 8) := ⟨⟨by decide +kernel, by decide +kernel⟩, List.mem_of_getElem? (i := 31) (by decide +kernel), List.mem_of_getElem? (i := 775) (by decide +kernel), List.mem_of_getElem? (i := 776) (by decide +kernel)⟩
theorem lw_p24 : lw_okq (⟨"TimberList$Part", "isPlannedAhead", "(LTimberList$Part;)Z"⟩, 6) := ⟨⟨by decide +kernel, by decide +kernel⟩, List.mem_of_getElem? (i := 740) (by decide +kernel), List.mem_of_getElem? (i := 779) (by decide +kernel), List.mem_of_getElem? (i := 780) (by decide +kernel)⟩
theorem lw_p25 : lw_okq (⟨"TimberList$Board", "gradeAt", "(I)I"⟩, 5) := ⟨⟨by decide +kernel, by decide +kernel⟩, List.mem_of_getElem? (i := 125) (by decide +kernel), List.mem_of_getElem? (i := 809) (by decide +kernel), List.mem_of_getElem? (i := 810) (by decide +kernel)⟩
theorem lw_p26 : lw_okq (⟨"TimberList$Board", "countStretches", "(I)I"⟩, 5) := ⟨⟨by decide +kernel, by decide +kernel⟩, List.mem_of_getElem? (i := 125) (by decide +kernel), List.mem_of_getElem? (i := 824) (by decide +kernel), List.mem_of_getElem? (i := 825) (by decide +kernel)⟩
theorem lw_p27 : lw_okq (⟨"TimberList$Board", "nextStretchStart", "(II)I"⟩, 5) := ⟨⟨by decide +kernel, by decide +kernel⟩, List.mem_of_getElem? (i := 125) (by decide +kernel), List.mem_of_getElem? (i := 828) (by decide +kernel), List.mem_of_getElem? (i := 829) (by decide +kernel)⟩
theorem lw_p28 : lw_okq (⟨"TimberList$Board", "stretchStart", "(II)I"⟩, 5) := ⟨⟨by decide +kernel, by decide +kernel⟩, List.mem_of_getElem? (i := 125) (by decide +kernel), List.mem_of_getElem? (i := 840) (by decide +kernel), List.mem_of_getElem? (i := 841) (by decide +kernel)⟩
theorem lw_p29 : lw_okq (⟨"TimberList", "partNumbered", "(I)LTimberList$Part;"⟩, 8) := ⟨⟨by decide +kernel, by decide +kernel⟩, List.mem_of_getElem? (i := 31) (by decide +kernel), List.mem_of_getElem? (i := 852) (by decide +kernel), List.mem_of_getElem? (i := 853) (by decide +kernel)⟩
theorem lw_p30 : lw_okq (⟨"TimberList$Board", "canGive", "(LTimberList$Part;III)Z"⟩, 5) := ⟨⟨by decide +kernel, by decide +kernel⟩, List.mem_of_getElem? (i := 125) (by decide +kernel), List.mem_of_getElem? (i := 857) (by decide +kernel), List.mem_of_getElem? (i := 858) (by decide +kernel)⟩
theorem lw_p31 : lw_okq (⟨"TimberList$Board", "isClearOfPieces", "(III)Z"⟩, 5) := ⟨⟨by decide +kernel, by decide +kernel⟩, List.mem_of_getElem? (i := 125) (by decide +kernel), List.mem_of_getElem? (i := 861) (by decide +kernel), List.mem_of_getElem? (i := 862) (by decide +kernel)⟩
def lw_privs_2 : List (MethodName × Nat) := [(⟨"java/util/ArrayList", "grow", "(I)[Ljava/lang/Object;"⟩, 3), (⟨"java/util/ArrayList", "add", "(Ljava/lang/Object;[Ljava/lang/Object;I)V"⟩, 3), (⟨"TimberList$Board", "areaOfPieces", "()I"⟩, 5), (⟨"TimberList$Piece", "tell", "(I)I"⟩, 5), (⟨"TimberList", "boardNumbered", "(I)LTimberList$Board;"⟩, 8), (⟨"TimberList$Board", "hasPieceSpoiledBy", "(III)Z"⟩, 5), (⟨"TimberList$Board", "insertDefect", "(LTimberList$Defect;)V"⟩, 5), (⟨"TimberList", "insertIntoPlanningOrder", "(LTimberList$Part;)V"⟩, 8), (⟨"TimberList$Part", "isPlannedAhead", "(LTimberList$Part;)Z"⟩, 6), (⟨"TimberList$Board", "gradeAt", "(I)I"⟩, 5), (⟨"TimberList$Board", "countStretches", "(I)I"⟩, 5), (⟨"TimberList$Board", "nextStretchStart", "(II)I"⟩, 5), (⟨"TimberList$Board", "stretchStart", "(II)I"⟩, 5), (⟨"TimberList", "partNumbered", "(I)LTimberList$Part;"⟩, 8), (⟨"TimberList$Board", "canGive", "(LTimberList$Part;III)Z"⟩, 5), (⟨"TimberList$Board", "isClearOfPieces", "(III)Z"⟩, 5)]
theorem lw_r2 : ∀ q ∈ lw_privs_2, lw_okq q := List.forall_mem_cons.mpr ⟨lw_p16, List.forall_mem_cons.mpr ⟨lw_p17, List.forall_mem_cons.mpr ⟨lw_p18, List.forall_mem_cons.mpr ⟨lw_p19, List.forall_mem_cons.mpr ⟨lw_p20, List.forall_mem_cons.mpr ⟨lw_p21, List.forall_mem_cons.mpr ⟨lw_p22, List.forall_mem_cons.mpr ⟨lw_p23, List.forall_mem_cons.mpr ⟨lw_p24, List.forall_mem_cons.mpr ⟨lw_p25, List.forall_mem_cons.mpr ⟨lw_p26, List.forall_mem_cons.mpr ⟨lw_p27, List.forall_mem_cons.mpr ⟨lw_p28, List.forall_mem_cons.mpr ⟨lw_p29, List.forall_mem_cons.mpr ⟨lw_p30, List.forall_mem_cons.mpr ⟨lw_p31, fun _ h => absurd h List.not_mem_nil⟩⟩⟩⟩⟩⟩⟩⟩⟩⟩⟩⟩⟩⟩⟩⟩
theorem lw_p32 : lw_okq (⟨"TimberList$Piece", "isClearOf", "(III)Z"⟩, 5) := ⟨⟨by decide +kernel, by decide +kernel⟩, List.mem_of_getElem? (i := 165) (by decide +kernel), List.mem_of_getElem? (i := 865) (by decide +kernel), List.mem_of_getElem? (i := 866) (by decide +kernel)⟩
theorem lw_p33 : lw_okq (⟨"java/util/ArrayList", "fastRemove", "([Ljava/lang/Object;I)V"⟩, 3) := ⟨⟨by decide +kernel, by decide +kernel⟩, List.mem_of_getElem? (i := 39) (by decide +kernel), List.mem_of_getElem? (i := 909) (by decide +kernel), List.mem_of_getElem? (i := 910) (by decide +kernel)⟩
theorem lw_p34 : lw_okq (⟨"TimberList$Board", "removePiece", "(LTimberList$Piece;)V"⟩, 5) := ⟨⟨by decide +kernel, by decide +kernel⟩, List.mem_of_getElem? (i := 125) (by decide +kernel), List.mem_of_getElem? (i := 913) (by decide +kernel), List.mem_of_getElem? (i := 914) (by decide +kernel)⟩
theorem lw_p35 : lw_okq (⟨"TimberList$Board", "countCuts", "(I)I"⟩, 5) := ⟨⟨by decide +kernel, by decide +kernel⟩, List.mem_of_getElem? (i := 125) (by decide +kernel), List.mem_of_getElem? (i := 948) (by decide +kernel), List.mem_of_getElem? (i := 949) (by decide +kernel)⟩
theorem lw_p36 : lw_okq (⟨"TimberList$Board", "longestRoomLength", "(I)I"⟩, 5) := ⟨⟨by decide +kernel, by decide +kernel⟩, List.mem_of_getElem? (i := 125) (by decide +kernel), List.mem_of_getElem? (i := 959) (by decide +kernel), List.mem_of_getElem? (i := 960) (by decide +kernel)⟩
theorem lw_p37 : lw_okq (⟨"TimberList", "clearBestSums", "()V"⟩, 8) := ⟨⟨by decide +kernel, by decide +kernel⟩, List.mem_of_getElem? (i := 31) (by decide +kernel), List.mem_of_getElem? (i := 972) (by decide +kernel), List.mem_of_getElem? (i := 973) (by decide +kernel)⟩
theorem lw_p38 : lw_okq (⟨"TimberList", "addToBestSums", "(LTimberList$Part;I)V"⟩, 8) := ⟨⟨by decide +kernel, by decide +kernel⟩, List.mem_of_getElem? (i := 31) (by decide +kernel), List.mem_of_getElem? (i := 976) (by decide +kernel), List.mem_of_getElem? (i := 977) (by decide +kernel)⟩
theorem lw_p39 : lw_okq (⟨"TimberListModel", "fail", "(I)I"⟩, 15) := ⟨⟨by decide +kernel, by decide +kernel⟩, List.mem_of_getElem? (i := 981) (by decide +kernel), List.mem_of_getElem? (i := 1045) (by decide +kernel), List.mem_of_getElem? (i := 1046) (by decide +kernel)⟩
theorem lw_p40 : lw_okq (⟨"TimberListModel", "isBoard", "(I)Z"⟩, 15) := ⟨⟨by decide +kernel, by decide +kernel⟩, List.mem_of_getElem? (i := 981) (by decide +kernel), List.mem_of_getElem? (i := 1053) (by decide +kernel), List.mem_of_getElem? (i := 1054) (by decide +kernel)⟩
theorem lw_p41 : lw_okq (⟨"TimberListModel", "length", "(I)I"⟩, 15) := ⟨⟨by decide +kernel, by decide +kernel⟩, List.mem_of_getElem? (i := 981) (by decide +kernel), List.mem_of_getElem? (i := 1057) (by decide +kernel), List.mem_of_getElem? (i := 1058) (by decide +kernel)⟩
theorem lw_p42 : lw_okq (⟨"TimberListModel", "isOn", "(II)Z"⟩, 15) := ⟨⟨by decide +kernel, by decide +kernel⟩, List.mem_of_getElem? (i := 981) (by decide +kernel), List.mem_of_getElem? (i := 1061) (by decide +kernel), List.mem_of_getElem? (i := 1062) (by decide +kernel)⟩
theorem lw_p43 : lw_okq (⟨"TimberListModel", "from", "(I)I"⟩, 15) := ⟨⟨by decide +kernel, by decide +kernel⟩, List.mem_of_getElem? (i := 981) (by decide +kernel), List.mem_of_getElem? (i := 1065) (by decide +kernel), List.mem_of_getElem? (i := 1066) (by decide +kernel)⟩
theorem lw_p44 : lw_okq (⟨"TimberListModel", "to", "(I)I"⟩, 15) := ⟨⟨by decide +kernel, by decide +kernel⟩, List.mem_of_getElem? (i := 981) (by decide +kernel), List.mem_of_getElem? (i := 1069) (by decide +kernel), List.mem_of_getElem? (i := 1070) (by decide +kernel)⟩
theorem lw_p45 : lw_okq (⟨"TimberListModel", "partOf", "(I)I"⟩, 15) := ⟨⟨by decide +kernel, by decide +kernel⟩, List.mem_of_getElem? (i := 981) (by decide +kernel), List.mem_of_getElem? (i := 1073) (by decide +kernel), List.mem_of_getElem? (i := 1074) (by decide +kernel)⟩
theorem lw_p46 : lw_okq (⟨"TimberListModel", "want", "(II)I"⟩, 15) := ⟨⟨by decide +kernel, by decide +kernel⟩, List.mem_of_getElem? (i := 981) (by decide +kernel), List.mem_of_getElem? (i := 1077) (by decide +kernel), List.mem_of_getElem? (i := 1078) (by decide +kernel)⟩
theorem lw_p47 : lw_okq (⟨"TimberListModel", "gradeAt", "(II)I"⟩, 15) := ⟨⟨by decide +kernel, by decide +kernel⟩, List.mem_of_getElem? (i := 981) (by decide +kernel), List.mem_of_getElem? (i := 1097) (by decide +kernel), List.mem_of_getElem? (i := 1098) (by decide +kernel)⟩
def lw_privs_3 : List (MethodName × Nat) := [(⟨"TimberList$Piece", "isClearOf", "(III)Z"⟩, 5), (⟨"java/util/ArrayList", "fastRemove", "([Ljava/lang/Object;I)V"⟩, 3), (⟨"TimberList$Board", "removePiece", "(LTimberList$Piece;)V"⟩, 5), (⟨"TimberList$Board", "countCuts", "(I)I"⟩, 5), (⟨"TimberList$Board", "longestRoomLength", "(I)I"⟩, 5), (⟨"TimberList", "clearBestSums", "()V"⟩, 8), (⟨"TimberList", "addToBestSums", "(LTimberList$Part;I)V"⟩, 8), (⟨"TimberListModel", "fail", "(I)I"⟩, 15), (⟨"TimberListModel", "isBoard", "(I)Z"⟩, 15), (⟨"TimberListModel", "length", "(I)I"⟩, 15), (⟨"TimberListModel", "isOn", "(II)Z"⟩, 15), (⟨"TimberListModel", "from", "(I)I"⟩, 15), (⟨"TimberListModel", "to", "(I)I"⟩, 15), (⟨"TimberListModel", "partOf", "(I)I"⟩, 15), (⟨"TimberListModel", "want", "(II)I"⟩, 15), (⟨"TimberListModel", "gradeAt", "(II)I"⟩, 15)]
theorem lw_r3 : ∀ q ∈ lw_privs_3, lw_okq q := List.forall_mem_cons.mpr ⟨lw_p32, List.forall_mem_cons.mpr ⟨lw_p33, List.forall_mem_cons.mpr ⟨lw_p34, List.forall_mem_cons.mpr ⟨lw_p35, List.forall_mem_cons.mpr ⟨lw_p36, List.forall_mem_cons.mpr ⟨lw_p37, List.forall_mem_cons.mpr ⟨lw_p38, List.forall_mem_cons.mpr ⟨lw_p39, List.forall_mem_cons.mpr ⟨lw_p40, List.forall_mem_cons.mpr ⟨lw_p41, List.forall_mem_cons.mpr ⟨lw_p42, List.forall_mem_cons.mpr ⟨lw_p43, List.forall_mem_cons.mpr ⟨lw_p44, List.forall_mem_cons.mpr ⟨lw_p45, List.forall_mem_cons.mpr ⟨lw_p46, List.forall_mem_cons.mpr ⟨lw_p47, fun _ h => absurd h List.not_mem_nil⟩⟩⟩⟩⟩⟩⟩⟩⟩⟩⟩⟩⟩⟩⟩⟩
theorem lw_p48 : lw_okq (⟨"TimberListModel", "goOver", "(III)I"⟩, 15) := ⟨⟨by decide +kernel, by decide +kernel⟩, List.mem_of_getElem? (i := 981) (by decide +kernel), List.mem_of_getElem? (i := 1106) (by decide +kernel), List.mem_of_getElem? (i := 1107) (by decide +kernel)⟩
theorem lw_p49 : lw_okq (⟨"TimberListModel", "nextChange", "(II)I"⟩, 15) := ⟨⟨by decide +kernel, by decide +kernel⟩, List.mem_of_getElem? (i := 981) (by decide +kernel), List.mem_of_getElem? (i := 1110) (by decide +kernel), List.mem_of_getElem? (i := 1111) (by decide +kernel)⟩
theorem lw_p50 : lw_okq (⟨"TimberListModel", "isPart", "(I)Z"⟩, 15) := ⟨⟨by decide +kernel, by decide +kernel⟩, List.mem_of_getElem? (i := 981) (by decide +kernel), List.mem_of_getElem? (i := 1123) (by decide +kernel), List.mem_of_getElem? (i := 1124) (by decide +kernel)⟩
theorem lw_p51 : lw_okq (⟨"TimberListModel", "isPossible", "(IIII)Z"⟩, 15) := ⟨⟨by decide +kernel, by decide +kernel⟩, List.mem_of_getElem? (i := 981) (by decide +kernel), List.mem_of_getElem? (i := 1127) (by decide +kernel), List.mem_of_getElem? (i := 1128) (by decide +kernel)⟩
theorem lw_p52 : lw_okq (⟨"TimberListModel", "onward", "(IIII)I"⟩, 15) := ⟨⟨by decide +kernel, by decide +kernel⟩, List.mem_of_getElem? (i := 981) (by decide +kernel), List.mem_of_getElem? (i := 1131) (by decide +kernel), List.mem_of_getElem? (i := 1132) (by decide +kernel)⟩
theorem lw_p53 : lw_okq (⟨"TimberListModel", "width", "(I)I"⟩, 15) := ⟨⟨by decide +kernel, by decide +kernel⟩, List.mem_of_getElem? (i := 981) (by decide +kernel), List.mem_of_getElem? (i := 1135) (by decide +kernel), List.mem_of_getElem? (i := 1136) (by decide +kernel)⟩
theorem lw_p54 : lw_okq (⟨"TimberListModel", "earliestOn", "(II)I"⟩, 15) := ⟨⟨by decide +kernel, by decide +kernel⟩, List.mem_of_getElem? (i := 981) (by decide +kernel), List.mem_of_getElem? (i := 1143) (by decide +kernel), List.mem_of_getElem? (i := 1144) (by decide +kernel)⟩
theorem lw_p55 : lw_okq (⟨"TimberListModel", "add", "(IIIIZ)V"⟩, 15) := ⟨⟨by decide +kernel, by decide +kernel⟩, List.mem_of_getElem? (i := 981) (by decide +kernel), List.mem_of_getElem? (i := 1151) (by decide +kernel), List.mem_of_getElem? (i := 1152) (by decide +kernel)⟩
theorem lw_p56 : lw_okq (⟨"TimberListModel", "lessLeft", "(I)I"⟩, 15) := ⟨⟨by decide +kernel, by decide +kernel⟩, List.mem_of_getElem? (i := 981) (by decide +kernel), List.mem_of_getElem? (i := 1155) (by decide +kernel), List.mem_of_getElem? (i := 1156) (by decide +kernel)⟩
theorem lw_p57 : lw_okq (⟨"TimberListModel", "planOne", "()Z"⟩, 15) := ⟨⟨by decide +kernel, by decide +kernel⟩, List.mem_of_getElem? (i := 981) (by decide +kernel), List.mem_of_getElem? (i := 1171) (by decide +kernel), List.mem_of_getElem? (i := 1172) (by decide +kernel)⟩
theorem lw_p58 : lw_okq (⟨"TimberListModel", "isAhead", "(II)Z"⟩, 15) := ⟨⟨by decide +kernel, by decide +kernel⟩, List.mem_of_getElem? (i := 981) (by decide +kernel), List.mem_of_getElem? (i := 1175) (by decide +kernel), List.mem_of_getElem? (i := 1176) (by decide +kernel)⟩
theorem lw_p59 : lw_okq (⟨"TimberListModel", "roomTo", "(II)I"⟩, 15) := ⟨⟨by decide +kernel, by decide +kernel⟩, List.mem_of_getElem? (i := 981) (by decide +kernel), List.mem_of_getElem? (i := 1179) (by decide +kernel), List.mem_of_getElem? (i := 1180) (by decide +kernel)⟩
theorem lw_p60 : lw_okq (⟨"TimberListModel", "roomFrom", "(II)I"⟩, 15) := ⟨⟨by decide +kernel, by decide +kernel⟩, List.mem_of_getElem? (i := 981) (by decide +kernel), List.mem_of_getElem? (i := 1183) (by decide +kernel), List.mem_of_getElem? (i := 1184) (by decide +kernel)⟩
theorem lw_p61 : lw_okq (⟨"TimberListModel", "piecesOf", "(I)I"⟩, 15) := ⟨⟨by decide +kernel, by decide +kernel⟩, List.mem_of_getElem? (i := 981) (by decide +kernel), List.mem_of_getElem? (i := 1195) (by decide +kernel), List.mem_of_getElem? (i := 1196) (by decide +kernel)⟩
theorem lw_p62 : lw_okq (⟨"TimberListModel", "pieceFrom", "(II)I"⟩, 15) := ⟨⟨by decide +kernel, by decide +kernel⟩, List.mem_of_getElem? (i := 981) (by decide +kernel), List.mem_of_getElem? (i := 1203) (by decide +kernel), List.mem_of_getElem? (i := 1204) (by decide +kernel)⟩
theorem lw_p63 : lw_okq (⟨"TimberListModel", "told", "(II)I"⟩, 15) := ⟨⟨by decide +kernel, by decide +kernel⟩, List.mem_of_getElem? (i := 981) (by decide +kernel), List.mem_of_getElem? (i := 1207) (by decide +kernel), List.mem_of_getElem? (i := 1208) (by decide +kernel)⟩
def lw_privs_4 : List (MethodName × Nat) := [(⟨"TimberListModel", "goOver", "(III)I"⟩, 15), (⟨"TimberListModel", "nextChange", "(II)I"⟩, 15), (⟨"TimberListModel", "isPart", "(I)Z"⟩, 15), (⟨"TimberListModel", "isPossible", "(IIII)Z"⟩, 15), (⟨"TimberListModel", "onward", "(IIII)I"⟩, 15), (⟨"TimberListModel", "width", "(I)I"⟩, 15), (⟨"TimberListModel", "earliestOn", "(II)I"⟩, 15), (⟨"TimberListModel", "add", "(IIIIZ)V"⟩, 15), (⟨"TimberListModel", "lessLeft", "(I)I"⟩, 15), (⟨"TimberListModel", "planOne", "()Z"⟩, 15), (⟨"TimberListModel", "isAhead", "(II)Z"⟩, 15), (⟨"TimberListModel", "roomTo", "(II)I"⟩, 15), (⟨"TimberListModel", "roomFrom", "(II)I"⟩, 15), (⟨"TimberListModel", "piecesOf", "(I)I"⟩, 15), (⟨"TimberListModel", "pieceFrom", "(II)I"⟩, 15), (⟨"TimberListModel", "told", "(II)I"⟩, 15)]
theorem lw_r4 : ∀ q ∈ lw_privs_4, lw_okq q := List.forall_mem_cons.mpr ⟨lw_p48, List.forall_mem_cons.mpr ⟨lw_p49, List.forall_mem_cons.mpr ⟨lw_p50, List.forall_mem_cons.mpr ⟨lw_p51, List.forall_mem_cons.mpr ⟨lw_p52, List.forall_mem_cons.mpr ⟨lw_p53, List.forall_mem_cons.mpr ⟨lw_p54, List.forall_mem_cons.mpr ⟨lw_p55, List.forall_mem_cons.mpr ⟨lw_p56, List.forall_mem_cons.mpr ⟨lw_p57, List.forall_mem_cons.mpr ⟨lw_p58, List.forall_mem_cons.mpr ⟨lw_p59, List.forall_mem_cons.mpr ⟨lw_p60, List.forall_mem_cons.mpr ⟨lw_p61, List.forall_mem_cons.mpr ⟨lw_p62, List.forall_mem_cons.mpr ⟨lw_p63, fun _ h => absurd h List.not_mem_nil⟩⟩⟩⟩⟩⟩⟩⟩⟩⟩⟩⟩⟩⟩⟩⟩
def lw_privs : List (MethodName × Nat) := lw_privs_1 ++ (lw_privs_2 ++ (lw_privs_3 ++ (lw_privs_4)))
def lw_tbl : List Cond := k2_sels lw_privs ++ tables_1
theorem lw_privs_ok : ∀ q ∈ lw_privs, lw_okq q := by
  show ∀ q ∈ lw_privs_1 ++ (lw_privs_2 ++ (lw_privs_3 ++ (lw_privs_4))), lw_okq q
  exact List.forall_mem_append.mpr ⟨lw_r1, List.forall_mem_append.mpr ⟨lw_r2, List.forall_mem_append.mpr ⟨lw_r3, lw_r4⟩⟩⟩
/-- the streams that the claim lets the run draw from -/
abbrev lw_cs : List Choice := [Jvm.Choice.named "NaN.bits"]
theorem lw_bits : nanBits ∈ lw_cs := by first | decide | exact List.mem_cons_self | simp [lw_cs, nanBits]
-- ===== end of PART A; then your names; then what follows =====
end
section
/-! ===== BEGIN words of one list among another's, by their places ===== -/
theorem goodIn_r {big : List Cond} (ws : List Cond) (ps : List Nat) (hp : ws = ps.filterMap (fun i => big[i]?)) (h : ws.all goodWord = true) : GoodIn big ws := by
  intro w hw
  have h1 := List.all_eq_true.mp h w hw
  rw [hp] at hw
  obtain ⟨i, -, hi⟩ := List.mem_filterMap.mp hw
  have hm : w ∈ big := by first | exact List.mem_of_getElem? hi | exact List.getElem?_mem hi
  exact ⟨hm, good_of_word h1⟩
theorem goodIn_app {big a b : List Cond} (ha : GoodIn big a) (hb : GoodIn big b) : GoodIn big (a ++ b) := fun w h => (List.mem_append.mp h).elim (ha w) (hb w)
theorem goodIn_ca {big a b : List Cond} {c : Cond} (ha : GoodIn big (c :: a)) (hb : GoodIn big b) : GoodIn big (c :: (a ++ b)) := fun w h => (List.mem_cons.mp h).elim (fun e => ha w (List.mem_cons.mpr (Or.inl e))) (fun h => (List.mem_append.mp h).elim (fun h => ha w (List.mem_cons.mpr (Or.inr h))) (hb w))
theorem goodIn_sub {big ws : List Cond} (hm : ∀ w ∈ ws, w ∈ big) (h : ws.all goodWord = true) : GoodIn big ws := fun w hw => ⟨hm w hw, good_of_word (List.all_eq_true.mp h w hw)⟩
/-! ===== END ===== -/

/-! ===== BEGIN exceptions that leave a method, and their catching by the caller (launches without stack traces) ===== -/
section VXA
/-! The laws vx_back, vx_callV, vx_callS, vx_callSW, vx_throw0, vx_throwS follow proofs of the library, with one case more: JvmDerived/Free/Laws.lean (Back.of_free), Shelf42/LK1.lean (callV, callS), Shelf/KitTraced.lean (throwNew0V, throwNewS). -/
/-- where a method has thrown q: the class by its name, the cell, what was written, the world -/
def vx_T (XC : String → State → State → Prop) (st : State) (q : Addr) (t : State) (mc ms : Nat) (free : Addr → Prop) : Prop :=
  ∃ (E : String) (ce : Cell) (L : List Loc), XC E st t ∧ t.heap[q]? = some ce ∧ ce.vm = .none ∧ st.vm.findClass E = some ce.cls ∧ st.WarmedH t.vm ∧ st.sameButNew ({ t with vm := st.vm } : State) L mc ms ∧ ∀ z ∈ L, free z.base
def vx_Q (Qc : Array Value → State → Outcome → State → Prop) (XC : String → State → State → Prop) (mc ms : Nat) (free : Addr → Prop) : Array Value → State → Outcome → State → Prop := fun a st o t =>
  (Qc a st o t ∧ ∃ L, FrameEnd st o t L mc ms ∧ ∀ q ∈ L, free q.base) ∨ ∃ q, o = .threw q ∧ vx_T XC st q t mc ms free
/-- a callee that returns or throws -/
def vx_Met (l : Launch) (y : MethodName) (ws : List Cond) (rm : Room) (Pc : Array Value → State → Prop) (Qc : Array Value → State → Outcome → State → Prop) (XC : String → State → State → Prop) (mc ms : Nat) (free : Addr → Prop) : Prop :=
  MetFree l y (headSpec ws rm) Pc (fun _ _ _ _ _ => True) (vx_Q Qc XC mc ms free)
def vx_Post (XC : String → State → State → Prop) (mc ms : Nat) (free : Addr → Prop) : Pt → Array Value → Addr → Pt → Prop := fun A a q B =>
  ∃ (g : JFrame) (mk : MethodId) (t : State) (L : List Loc) (E : String) (ce : Cell), B.U.heap = t.heap ∧ B.U.vm = t.vm ∧ XC E (A.U.calling g mk a) t ∧ t.heap[q]? = some ce ∧ ce.vm = .none ∧ A.U.vm.findClass E = some ce.cls ∧ B.locs = A.locs ++ L ∧ (∀ z ∈ L, free z.base) ∧ B.cells = A.cells + mc ∧ B.slots = A.slots + ms
def vx_Back (l : Launch) (R : Room) (p : Program) (e : Env) (below : List Frame) (s : State) (sargs : Array Value) (y : MethodName) (len W9 : Nat)
    (Pre : Pt → Array Value → Prop) (Post : Pt → Array Value → Option Value → Pt → Prop) (PostX : Pt → Array Value → Addr → Pt → Prop) : Prop :=
  ∀ (m : MethodId) (meth : Method) (c : Code) (A : Pt) (g : JFrame) (ig : Instr) (mk : MethodId) (a : Array Value),
    Stand p l e R s m sargs below meth c A.U A.locs A.cells A.slots → g.method = m → g.locals.size = c.maxLocals → decode c.code g.pc = .ok (ig, len) →
    2 * g.monitorRoom + (g.stack.map fun v => v.category).sum ≤ W9 → A.U.methodNamed? y = some mk → Pre A a →
    (∃ (v : Option Value) (B : Pt), Stand p l e R s m sargs below meth c B.U B.locs B.cells B.slots ∧ Post A a v B ∧
      Steps p.tables e below (doInvoke e (A.U.setTop g) [] mk a).1 (B.U.setTop { g with pc := g.pc + len, stack := v.toList ++ g.stack })) ∨
    (∃ (q : Addr) (B : Pt), Stand p l e R s m sargs below meth c B.U B.locs B.cells B.slots ∧ PostX A a q B ∧
      Steps p.tables e below (doInvoke e (A.U.setTop g) [] mk a).1 ((B.U.setTop g).pushFrame (.throwing q)))
section Payer
variable {l : Launch} {R : Room} {p : Program} {e : Env} {below : List Frame} {s : State} {sargs : Array Value} {y : MethodName} {len W9 : Nat}
theorem vx_back {ws : List Cond} {rm : Room} {Pc : Array Value → State → Prop} {Qc : Array Value → State → Outcome → State → Prop} {XC : String → State → State → Prop} {mc ms : Nat} {free : Addr → Prop} {bytes : ByteArray} {maxL : Nat} {ret : Option FieldType}
    (hM : vx_Met l y ws rm Pc Qc XC mc ms free) (hblind : FrameBlind Pc) (hrc : rm.cells = mc) (hrs : rm.slots = ms)
    (hframes : rm.frames + 1 ≤ R.frames) (hlocals : W9 + (maxL + 11) + rm.locals ≤ R.locals)
    (hws : ∀ w ∈ ws, ∀ a' U, s.WarmedH U.vm → w.before a' U = true) (hcode : Cond.code y bytes maxL ret ∈ ws) (hinit : ∀ a' U, s.WarmedH U.vm → (Cond.initialized y.cls).before a' U = true) :
    vx_Back l R p e below s sargs y len W9 (PreOf R mc ms Pc) (PostOf Qc mc ms free) (vx_Post XC mc ms free) := by
  intro m meth c A g ig mk a X hg hsize hdg hW hn hp
  have h1 : (headSpec ws rm).pre.before a A.U = true := atoms_intro fun w hw => hws w hw _ _ X.warmed
  have h2 : (Cond.code y bytes maxL ret).before a A.U = true := hws _ hcode _ _ X.warmed
  have h3 : (Cond.initialized y.cls).before a A.U = true := hinit _ _ X.warmed
  have h4 : A.cells + (headSpec ws rm).room.cells ≤ R.cells := by rw [show (headSpec ws rm).room.cells = mc from hrc]; exact hp.1
  have h5 : A.slots + (headSpec ws rm).room.slots ≤ R.slots := by rw [show (headSpec ws rm).room.slots = ms from hrs]; exact hp.2.1
  have hPc : Pc a (A.U.calling g mk a) := hblind _ _ _ _ hp.2.2
  obtain ⟨U, Ls, c0, s0⟩ := A
  dsimp only [Pt.U, Pt.locs, Pt.cells, Pt.slots] at h1 h2 h3 h4 h5 X hn hPc ⊢
  obtain ⟨methY, cY, hmY, hcY, -, hlY, -, -, -, -⟩ := Cond.code_spec hn h2
  obtain ⟨kY, hkY, -⟩ := className_of_methodNamed hn
  have hinitY : kY.init = .initialized := Cond.initialized_spec (findClass_of_methodNamed hn) hkY h3
  have h : At U g.method c below := by rw [hg]; exact X.here
  have hlocals9 : W9 + (maxL + 11) + (headSpec ws rm).room.locals ≤ R.locals := hlocals
  have happ : (headSpec ws rm).appliesLoose y e.platform (U.calling g mk a) = true :=
    Spec.appliesLoose_calling (g := g) h hdg hn hkY hinitY
      (X.room_calling (g := g) (R' := (headSpec ws rm).room) hsize hmY hcY hframes (by rw [hlY]; omega) h4 h5) h1
  obtain ⟨mid, hmid⟩ := h.above
  have hfr : (U.setTop g).frames = (.java g :: mid) ++ below := by rw [State.frames_setTop' g h.top, hmid]; rfl
  obtain ⟨o, s₂, hsteps, -, hend, hq⟩ := Steps.callFree hM p X.admits X.cas X.clock (acts := []) hfr happ hPc trivial
  have hq' : vx_Q Qc XC mc ms free a (U.calling g mk a) o s₂ := hq
  rw [State.frames_setTop' g h.top] at hend
  obtain ⟨g₀, hg0⟩ := Option.isSome_iff_exists.mp h.top
  obtain ⟨r, hr⟩ := State.topJava?_eq_some.mp hg0
  have hr' : (({ U with heap := s₂.heap, slotsUsed := s₂.slotsUsed } : State).setVm s₂.vm).frames = .java g₀ :: r := hr
  rcases hq' with ⟨hqc, L, hfe, hL⟩ | ⟨q, rfl, E, ce, L, hx, hce, hcv, hcl, hW₂, hsm, hL⟩
  · obtain ⟨⟨v, rfl⟩, hW₂, e2, q2, q3, q4, q5, q6⟩ := id hfe
    have e3 : s₂ = ({ (U.calling g mk a).setFrames s₂.frames with heap := s₂.heap, slotsUsed := s₂.slotsUsed } : State).setVm s₂.vm := by
      have : s₂ = ({ s₂ with vm := (U.calling g mk a).vm } : State).setVm s₂.vm := rfl
      rw [e2] at this
      exact this
    obtain ⟨c₂, i₂, len₂, hc₂, hd₂, hf₂⟩ := hend
    have hW' : U.WarmedH s₂.vm := hW₂
    have hcc : c₂ = c := by
      have h1 : s₂.code? g.method = U.code? g.method := by
        rw [State.code?_eq, State.code?_eq, hW'.alike.method?]
      exact Option.some.inj (hc₂.symm.trans (h1.trans h.code))
    subst hcc
    have hlen : len₂ = len := by rw [hdg] at hd₂; cases hd₂; rfl
    subst hlen
    have hs₂ : s₂ = (({ U with heap := s₂.heap, slotsUsed := s₂.slotsUsed } : State).setVm s₂.vm).setTop { g with pc := g.pc + len₂, stack := v.toList ++ g.stack } := by
      refine e3.trans ?_
      rw [hf₂, State.calling_eq h.top, State.setFrames_setFrames, State.setTop_of_frames _ hr', hr]
      rfl
    have hsame : U.sameButNew ({ U with heap := s₂.heap, slotsUsed := s₂.slotsUsed } : State) L mc ms := by
      refine ⟨?_, q2, q3, q4, q5, q6⟩
      obtain ⟨t, ht, -⟩ := State.frames_cons hr
      show ({ U with heap := s₂.heap, slotsUsed := s₂.slotsUsed } : State) = { U.setFrames U.frames with heap := s₂.heap, slotsUsed := s₂.slotsUsed }
      rw [State.setFrames_self ht]
    subst hg
    refine Or.inl ⟨v, ⟨(({ U with heap := s₂.heap, slotsUsed := s₂.slotsUsed } : State).setVm s₂.vm), Ls ++ L, c0 + mc, s0 + ms⟩,
      ⟨X.admits, X.cas, X.clock, X.frames, X.room, X.hears, X.method, X.code, (X.here.setHeapUsed s₂.heap s₂.slotsUsed).setVm hW'.alike, X.tail, State.WarmedH.trans X.warmed hW', X.limits, X.bytes, X.same.trans (hsame.setVm s.vm)⟩,
      ⟨g, mk, s₂, L, rfl, rfl, hqc, rfl, hL, rfl, rfl⟩, ?_⟩
    show Steps p.tables e below _ ((({ U with heap := s₂.heap, slotsUsed := s₂.slotsUsed } : State).setVm s₂.vm).setTop { g with pc := g.pc + len₂, stack := v.toList ++ g.stack })
    rw [← hs₂]
    exact hsteps
  · obtain ⟨e2, q2, q3, q4, q5, q6⟩ := id hsm
    have e3 : s₂ = ({ (U.calling g mk a).setFrames s₂.frames with heap := s₂.heap, slotsUsed := s₂.slotsUsed } : State).setVm s₂.vm := by
      have : s₂ = ({ s₂ with vm := (U.calling g mk a).vm } : State).setVm s₂.vm := rfl
      rw [e2] at this
      exact this
    have hf₂ : s₂.frames = .throwing q :: .java g :: U.frames.tail := hend
    have hW' : U.WarmedH s₂.vm := hW₂
    have hs₂ : s₂ = ((({ U with heap := s₂.heap, slotsUsed := s₂.slotsUsed } : State).setVm s₂.vm).setTop g).pushFrame (.throwing q) := by
      refine e3.trans ?_
      rw [hf₂, State.calling_eq h.top, State.setFrames_setFrames, State.pushFrame, State.frames_setTop _ hr', State.setTop_of_frames _ hr', State.setFrames_setFrames, hr]
      rfl
    have hsame : U.sameButNew ({ U with heap := s₂.heap, slotsUsed := s₂.slotsUsed } : State) L mc ms := by
      refine ⟨?_, q2, q3, q4, q5, q6⟩
      obtain ⟨t, ht, -⟩ := State.frames_cons hr
      show ({ U with heap := s₂.heap, slotsUsed := s₂.slotsUsed } : State) = { U.setFrames U.frames with heap := s₂.heap, slotsUsed := s₂.slotsUsed }
      rw [State.setFrames_self ht]
    subst hg
    refine Or.inr ⟨q, ⟨(({ U with heap := s₂.heap, slotsUsed := s₂.slotsUsed } : State).setVm s₂.vm), Ls ++ L, c0 + mc, s0 + ms⟩,
      ⟨X.admits, X.cas, X.clock, X.frames, X.room, X.hears, X.method, X.code, (X.here.setHeapUsed s₂.heap s₂.slotsUsed).setVm hW'.alike, X.tail, State.WarmedH.trans X.warmed hW', X.limits, X.bytes, X.same.trans (hsame.setVm s.vm)⟩,
      ⟨g, mk, s₂, L, E, ce, rfl, rfl, hx, hce, hcv, hcl, rfl, hL, rfl, rfl⟩, ?_⟩
    show Steps p.tables e below _ (((({ U with heap := s₂.heap, slotsUsed := s₂.slotsUsed } : State).setVm s₂.vm).setTop g).pushFrame (.throwing q))
    rw [← hs₂]
    exact hsteps
end Payer
section Calls
variable {p : Program} {l : Launch} {e : Env} {R : Room} {s : State} {m : MethodId} {args : Array Value} {below : List Frame} {meth : Method} {c : Code} {T : State} {locs : List Loc} {cells slots : Nat}
theorem vx_callV (X : Stand p l e R s m args below meth c T locs cells slots) (hexec : p.tables.exec = Jvm.exec) {own C : String} {index : Nat} {y : MethodName} {bytes : ByteArray} {maxL : Nat} {ret : Option FieldType}
    (hown : s.vm.findClass own = some m.cls) (hlink : (Cond.methodLink own index y).before args s = true) (hinst : (Cond.instanceMethod y).before args s = true) (hsel : (Cond.selects C y y).before args s = true)
    (hcode : (Cond.code y bytes maxL ret).before args s = true) (hy : y.cls ≠ "java/lang/invoke/MethodHandle" ∧ y.cls ≠ "java/lang/invoke/VarHandle")
    {W9 : Nat} {Pre : Pt → Array Value → Prop} {Post : Pt → Array Value → Option Value → Pt → Prop} {PostX : Pt → Array Value → Addr → Pt → Prop} (hK : vx_Back l R p e below s args y 3 W9 Pre Post PostX)
    {b : Addr} {cellB : Cell} (hcell : T.heap[b]? = some cellB) (hobj : cellB.vm.isStatics = false) (hcls : s.vm.findClass C = some cellB.cls)
    {g : JFrame} (hg : g.method = m) (hsize : g.locals.size = c.maxLocals) {argsL rest : List Value} (hlen : ∀ sig, parseMethodDescriptor y.desc = some sig → argsL.length = sig.parameters.length)
    (hstack : g.stack = argsL.reverse ++ .ref b :: rest) (hW : 2 * g.monitorRoom + (rest.map fun v => v.category).sum ≤ W9) (hdg : decode c.code g.pc = .ok (.invokevirtual index, 3))
    (hpre : ∀ vm₁, s.WarmedH vm₁ → Pre ⟨T.setVm vm₁, locs, cells, slots⟩ (Value.ref b :: argsL).toArray) :
    (∃ (v : Option Value) (vm₁ : Vm) (B : Pt), s.WarmedH vm₁ ∧ Stand p l e R s m args below meth c B.U B.locs B.cells B.slots ∧ Post ⟨T.setVm vm₁, locs, cells, slots⟩ (Value.ref b :: argsL).toArray v B ∧
      ∀ target, Steps p.tables e below (B.U.setTop { g with pc := g.pc + 3, stack := v.toList ++ rest }) target → Steps p.tables e below (T.setTop g) target) ∨
    (∃ (q : Addr) (vm₁ : Vm) (B : Pt), s.WarmedH vm₁ ∧ Stand p l e R s m args below meth c B.U B.locs B.cells B.slots ∧ PostX ⟨T.setVm vm₁, locs, cells, slots⟩ (Value.ref b :: argsL).toArray q B ∧
      Steps p.tables e below (T.setTop g) ((B.U.setTop { g with stack := rest }).pushFrame (.throwing q))) := by
  obtain ⟨mk, methM, hnamed, hmethM, hstM, habM⟩ := Cond.instanceMethod_spec hinst
  obtain ⟨methM', cM, hmethM', -, -, -, -, -, -, hsigM⟩ := Cond.code_spec hnamed hcode
  cases hmethM.symm.trans hmethM'
  obtain ⟨c2, r2, m2, q1, q2, q3, q4, kP, hkP, hkPi⟩ := Cond.selects_spec hsel
  cases hcls.symm.trans q1
  cases (State.methodFound?_of_named hnamed hy).symm.trans q2
  cases hnamed.symm.trans q3
  have hselP : selectMethod e.platform s.vm cellB.cls mk = .method mk := by rw [Launch.admits_selectMethod X.admits]; exact q4
  obtain ⟨vm₁, X₁, hstep₁⟩ := X.invokevirtual hexec hown hlink hnamed hmethM hstM hkP hkPi hy (a := b) (cell := cellB) hcell
    (fun z h => by rw [h] at hobj; cases hobj) hselP hmethM habM hkP hkPi (g := g) hg (argsL := argsL) (rest := rest) (hlen _ hsigM) hstack hdg
  rcases hK m meth c ⟨T.setVm vm₁, locs, cells, slots⟩ { g with stack := rest } (.invokevirtual index) mk (Value.ref b :: argsL).toArray X₁ hg hsize hdg hW (X₁.named hnamed) (hpre vm₁ X₁.warmed) with ⟨v, B, X', hpost, hsteps⟩ | ⟨q, B, X', hpost, hsteps⟩
  · exact Or.inl ⟨v, vm₁, B, X₁.warmed, X', hpost, fun target h => hstep₁ _ fun acts => by rw [doInvoke_state]; exact hsteps.trans h⟩
  · exact Or.inr ⟨q, vm₁, B, X₁.warmed, X', hpost, hstep₁ _ fun acts => by rw [doInvoke_state]; exact hsteps⟩
theorem vx_callS (X : Stand p l e R s m args below meth c T locs cells slots) (hexec : p.tables.exec = Jvm.exec) {own : String} {index : Nat} {y : MethodName} {bytes : ByteArray} {maxL : Nat} {ret : Option FieldType}
    (hown : s.vm.findClass own = some m.cls) (hlink : (Cond.methodLink own index y).before args s = true) (hstat : (Cond.static y).before args s = true) (hinit : (Cond.initialized y.cls).before args s = true)
    (hcode : (Cond.code y bytes maxL ret).before args s = true) (hy : y.cls ≠ "java/lang/invoke/MethodHandle" ∧ y.cls ≠ "java/lang/invoke/VarHandle")
    {W9 : Nat} {Pre : Pt → Array Value → Prop} {Post : Pt → Array Value → Option Value → Pt → Prop} {PostX : Pt → Array Value → Addr → Pt → Prop} (hK : vx_Back l R p e below s args y 3 W9 Pre Post PostX)
    {g : JFrame} (hg : g.method = m) (hsize : g.locals.size = c.maxLocals) {argsL rest : List Value} (hlen : ∀ sig, parseMethodDescriptor y.desc = some sig → argsL.length = sig.parameters.length)
    (hstack : g.stack = argsL.reverse ++ rest) (hW : 2 * g.monitorRoom + (rest.map fun v => v.category).sum ≤ W9) (hdg : decode c.code g.pc = .ok (.invokestatic index, 3))
    (hpre : ∀ vm₁, s.WarmedH vm₁ → Pre ⟨T.setVm vm₁, locs, cells, slots⟩ argsL.toArray) :
    (∃ (v : Option Value) (vm₁ : Vm) (B : Pt), s.WarmedH vm₁ ∧ Stand p l e R s m args below meth c B.U B.locs B.cells B.slots ∧ Post ⟨T.setVm vm₁, locs, cells, slots⟩ argsL.toArray v B ∧
      ∀ target, Steps p.tables e below (B.U.setTop { g with pc := g.pc + 3, stack := v.toList ++ rest }) target → Steps p.tables e below (T.setTop g) target) ∨
    (∃ (q : Addr) (vm₁ : Vm) (B : Pt), s.WarmedH vm₁ ∧ Stand p l e R s m args below meth c B.U B.locs B.cells B.slots ∧ PostX ⟨T.setVm vm₁, locs, cells, slots⟩ argsL.toArray q B ∧
      Steps p.tables e below (T.setTop g) ((B.U.setTop { g with stack := rest }).pushFrame (.throwing q))) := by
  obtain ⟨mk, hnamed⟩ := Cond.code_named hcode
  obtain ⟨methM, cM, hmethM, -, -, -, -, -, -, hsigM⟩ := Cond.code_spec hnamed hcode
  have hstatic : methM.isStatic = true := Cond.static_spec hnamed hmethM hstat
  obtain ⟨kP, hkP, -⟩ := className_of_methodNamed hnamed
  have hinitP : kP.init = .initialized := Cond.initialized_spec (findClass_of_methodNamed hnamed) hkP hinit
  obtain ⟨vm₁, X₁, hstep₁⟩ := X.invokestatic hexec hown hlink hnamed hmethM hstatic hkP hinitP hy (g := g) hg (argsL := argsL) (rest := rest) (hlen _ hsigM) hstack hdg
  rcases hK m meth c ⟨T.setVm vm₁, locs, cells, slots⟩ { g with stack := rest } (.invokestatic index) mk argsL.toArray X₁ hg hsize hdg hW (X₁.named hnamed) (hpre vm₁ X₁.warmed) with ⟨v, B, X', hpost, hsteps⟩ | ⟨q, B, X', hpost, hsteps⟩
  · exact Or.inl ⟨v, vm₁, B, X₁.warmed, X', hpost, fun target h => hstep₁ _ fun acts => by rw [doInvoke_state]; exact hsteps.trans h⟩
  · exact Or.inr ⟨q, vm₁, B, X₁.warmed, X', hpost, hstep₁ _ fun acts => by rw [doInvoke_state]; exact hsteps⟩
end Calls
theorem vx_cls {s : State} {T : State} {vm₁ : Vm} {E : String} {k : ClassId} (hW : s.WarmedH vm₁) (h : (T.setVm vm₁).vm.findClass E = some k) : s.vm.findClass E = some k := by
  have h1 : vm₁.findClass E = some k := h
  rw [hW.alike.findClass] at h1
  exact h1
/-- the method's frame g, with q thrown over it -/
def vx_W (p : Program) (l : Launch) (e : Env) (R : Room) (s : State) (m : MethodId) (args : Array Value) (below : List Frame) (meth : Method) (c : Code) (H : Heap) (locs : List Loc) (cells slots : Nat) (Q : State → Prop) (g : JFrame) (q : Addr) : Prop :=
  ∀ T : State, T.heap = H → Stand p l e R s m args below meth c T locs cells slots → ∃ t, Steps p.tables e below ((T.setTop g).pushFrame (.throwing q)) t ∧ Q t
def vx_Run (p : Program) (l : Launch) (e : Env) (R : Room) (s : State) (m : MethodId) (args : Array Value) (below : List Frame) (meth : Method) (c : Code) (H : Heap) (locs : List Loc) (cells slots mc ms : Nat) (g : JFrame) (rest : List Value) (Qa : State → Outcome → State → Prop) (XC : String → State → State → Prop) (free : Addr → Prop) : Prop :=
  ∀ T : State, T.heap = H → Stand p l e R s m args below meth c T locs cells slots →
    (∃ (v : Option Value) (st₀ t T' : State) (L : List Loc), st₀.heap = H ∧ Stand p l e R s m args below meth c T' (locs ++ L) (cells + mc) (slots + ms) ∧ (∀ q ∈ L, free q.base) ∧ T'.heap = t.heap ∧ T'.vm = t.vm ∧ Qa st₀ (.returned v) t ∧
      Goes p e below T g T' { g with pc := g.pc + 3, stack := v.toList ++ rest }) ∨
    (∃ (q : Addr) (st₀ t T' : State) (L : List Loc) (E : String) (ce : Cell), st₀.heap = H ∧ Stand p l e R s m args below meth c T' (locs ++ L) (cells + mc) (slots + ms) ∧ (∀ z ∈ L, free z.base) ∧ T'.heap = t.heap ∧ T'.vm = t.vm ∧ XC E st₀ t ∧ t.heap[q]? = some ce ∧ ce.vm = .none ∧ s.vm.findClass E = some ce.cls ∧
      Steps p.tables e below (T.setTop g) ((T'.setTop { g with stack := rest }).pushFrame (.throwing q)))
def vx_X {S : Type} (px : S → Prop) (B : String → S → State → Prop) (A : Nat → Prop) : String → State → State → Prop := fun E st t => ∃ u : S, px u ∧ B E u t ∧ va_F A st t
section Runs
variable {p : Program} {l : Launch} {e : Env} {R : Room} {s : State} {m : MethodId} {args : Array Value} {below : List Frame} {meth : Method} {c : Code} {H : Heap} {locs : List Loc} {cells slots : Nat}
variable {y : MethodName} {bytes cc : ByteArray} {maxL nL mc ms n index : Nat} {ret : Option FieldType} {ws : List Cond} {rm : Room} {Pc : Array Value → State → Prop} {Qc : Array Value → State → Outcome → State → Prop} {XC : String → State → State → Prop} {free : Addr → Prop} {Ts : List Cond} {own C : String} {b : Addr} {As rest : List Value} {g : JFrame}
theorem vx_callBack (cb : CallB R s args own index y bytes maxL ret ws rm mc ms n) (hM : vx_Met l y ws rm Pc Qc XC mc ms free) (hbl : FrameBlind Pc) : vx_Back l R p e below s args y 3 8 (PreOf R mc ms Pc) (PostOf Qc mc ms free) (vx_Post XC mc ms free) := by
  obtain ⟨hrc, hrs, hfr, hlo, hws, hcw, -, hini, -⟩ := cb
  exact vx_back (bytes := bytes) (maxL := maxL) (ret := ret) hM hbl hrc hrs hfr hlo hws hcw (fun a' U hW => word_at hW (Or.inl (by first | rfl | simp [Cond.onTables, Cond.keeps, Cond.steady])) hini)
theorem vx_runV (S : CallFix p m c cc nL s args Ts own) (hM : vx_Met l y ws rm Pc Qc XC mc ms free) (cw : CallW R s args own C index y bytes maxL ret ws rm mc ms n) (hp : PreV s H C b Pc As)
    (hg : g.method = m) (hn : As.length = n) (hsize : g.locals.size = nL) (hstack : g.stack = As.reverse ++ .ref b :: rest) (hW : 2 * g.monitorRoom + (rest.map fun v => v.category).sum ≤ 8) (hdg : decode cc g.pc = .ok (.invokevirtual index, 3)) (hf : cells + mc ≤ R.cells ∧ slots + ms ≤ R.slots) :
    vx_Run p l e R s m args below meth c H locs cells slots mc ms g rest (Qc (Value.ref b :: As).toArray) XC free := by
  have hK : vx_Back l R p e below s args y 3 8 (PreOf R mc ms Pc) (PostOf Qc mc ms free) (vx_Post XC mc ms free) := vx_callBack cw.1 hM hp.1
  obtain ⟨⟨-, -, -, -, -, -, hcode, -, hy, hlen, hl⟩, hin, hse⟩ := cw
  obtain ⟨hx, hb, hml, ho, -⟩ := S
  obtain ⟨-, ⟨cellB, hcB, hoB, hclB⟩, hPc⟩ := hp
  intro T hT X
  rcases vx_callV X hx (C := C) (bytes := bytes) (maxL := maxL) (ret := ret) ho hl hin hse hcode hy hK (by rw [hT]; exact hcB) hoB hclB hg (hsize.trans hml.symm) (argsL := As) (rest := rest) (fun sig h => hn.trans (hlen sig h)) hstack hW (by rw [hb]; exact hdg)
    (fun vm₁ hW₁ => ⟨hf.1, hf.2, hPc (T.setVm vm₁) hT hW₁⟩) with ⟨v, vm₁, ⟨U', l2, c2, s2⟩, hW₁, X', ⟨g', mk, t, L, e1, e2, hq, h1, hL, h2, h3⟩, st⟩ | ⟨q, vm₁, ⟨U', l2, c2, s2⟩, hW₁, X', ⟨g', mk, t, L, E, ce, e1, e2, hq, hce, hcv, hcl, h1, hL, h2, h3⟩, st⟩
  · dsimp only [Pt.U, Pt.locs, Pt.cells, Pt.slots] at X' e1 e2 h1 h2 h3 st
    subst h1; subst h2; subst h3
    exact Or.inl ⟨v, (T.setVm vm₁).calling g' mk (Value.ref b :: As).toArray, t, U', L, hT, X', hL, e1, e2, hq, st⟩
  · dsimp only [Pt.U, Pt.locs, Pt.cells, Pt.slots] at X' e1 e2 h1 h2 h3 st hcl
    subst h1; subst h2; subst h3
    exact Or.inr ⟨q, (T.setVm vm₁).calling g' mk (Value.ref b :: As).toArray, t, U', L, E, ce, hT, X', hL, e1, e2, hq, hce, hcv, vx_cls hW₁ hcl, st⟩
theorem vx_runS (S : CallFix p m c cc nL s args Ts own) (hM : vx_Met l y ws rm Pc Qc XC mc ms free) (cw : CallB R s args own index y bytes maxL ret ws rm mc ms n ∧ (Cond.static y).before args s = true) (hp : PreS s H Pc As)
    (hg : g.method = m) (hn : As.length = n) (hsize : g.locals.size = nL) (hstack : g.stack = As.reverse ++ rest) (hW : 2 * g.monitorRoom + (rest.map fun v => v.category).sum ≤ 8) (hdg : decode cc g.pc = .ok (.invokestatic index, 3)) (hf : cells + mc ≤ R.cells ∧ slots + ms ≤ R.slots) :
    vx_Run p l e R s m args below meth c H locs cells slots mc ms g rest (Qc As.toArray) XC free := by
  have hK : vx_Back l R p e below s args y 3 8 (PreOf R mc ms Pc) (PostOf Qc mc ms free) (vx_Post XC mc ms free) := vx_callBack cw.1 hM hp.1
  obtain ⟨⟨-, -, -, -, -, -, hcode, hini, hy, hlen, hl⟩, hstt⟩ := cw
  obtain ⟨hx, hb, hml, ho, -⟩ := S
  intro T hT X
  rcases vx_callS X hx (bytes := bytes) (maxL := maxL) (ret := ret) ho hl hstt hini hcode hy hK hg (hsize.trans hml.symm) (argsL := As) (rest := rest) (fun sig h => hn.trans (hlen sig h)) hstack hW (by rw [hb]; exact hdg)
    (fun vm₁ hW₁ => ⟨hf.1, hf.2, hp.2 (T.setVm vm₁) hT hW₁⟩) with ⟨v, vm₁, ⟨U', l2, c2, s2⟩, hW₁, X', ⟨g', mk, t, L, e1, e2, hq, h1, hL, h2, h3⟩, st⟩ | ⟨q, vm₁, ⟨U', l2, c2, s2⟩, hW₁, X', ⟨g', mk, t, L, E, ce, e1, e2, hq, hce, hcv, hcl, h1, hL, h2, h3⟩, st⟩
  · dsimp only [Pt.U, Pt.locs, Pt.cells, Pt.slots] at X' e1 e2 h1 h2 h3 st
    subst h1; subst h2; subst h3
    exact Or.inl ⟨v, (T.setVm vm₁).calling g' mk As.toArray, t, U', L, hT, X', hL, e1, e2, hq, st⟩
  · dsimp only [Pt.U, Pt.locs, Pt.cells, Pt.slots] at X' e1 e2 h1 h2 h3 st hcl
    subst h1; subst h2; subst h3
    exact Or.inr ⟨q, (T.setVm vm₁).calling g' mk As.toArray, t, U', L, E, ce, hT, X', hL, e1, e2, hq, hce, hcv, vx_cls hW₁ hcl, st⟩
end Runs
section Rows
variable {p : Program} {l : Launch} {e : Env} {R : Room} {s : State} {m : MethodId} {args : Array Value} {below : List Frame} {meth : Method} {c : Code} {H : Heap} {locs : List Loc} {cells slots : Nat} {Q : State → Prop}
variable {mc ms : Nat} {free : Addr → Prop} {A0 A1 : Nat → Prop} {H0 : Heap} {a : Array Value} {pc : Nat} {ls : Array Slot} {st0 rest : List Value}
theorem vx_keep {st₀ t T' : State} {L : List Loc} (h0 : st₀.heap = H) (e1 : T'.heap = t.heap) (hS : va_S A0 H0 H locs) (hA : ∀ q, q < H.size → A1 q → A0 q) (hf : ∀ q, free q → A0 q) (hL : ∀ q ∈ L, free q.base) (hF : va_F A1 st₀ t) :
    H.size ≤ T'.heap.size ∧ (∀ q : Nat, q < H.size → ¬ A1 q → T'.heap[q]? = H[q]?) ∧ va_S A0 H0 T'.heap (locs ++ L) := by
  obtain ⟨hz, hk⟩ := hF
  rw [h0] at hz hk
  exact ⟨by rw [e1]; exact hz, fun q h1 h2 => by rw [e1]; exact hk q h1 h2,
    ⟨Nat.le_trans hS.1 (by rw [e1]; exact hz), fun q h1 h2 => by rw [e1, hk q (Nat.lt_of_lt_of_le h1 hS.1) (fun z => h2 (hA q (Nat.lt_of_lt_of_le h1 hS.1) z))]; exact hS.2.1 q h1 h2, fun q hq => by
      rcases List.mem_append.mp hq with h | h
      · exact hS.2.2 q h
      · exact hf _ (hL q h)⟩⟩
theorem vx_calli {S SX : Type} {post : Int32 → S → Prop} {px : SX → Prop} {B : S → State → Prop} {BX : String → SX → State → Prop} {AX : Nat → Prop} (hr : vx_Run p l e R s m args below meth c H locs cells slots mc ms (F0 m pc ls st0) rest (va_Qi post B A1 a) (vx_X px BX AX) free) (hS : va_S A0 H0 H locs) (hA : ∀ q, q < H.size → A1 q → A0 q) (hf : ∀ q, free q → A0 q) (hAX : ∀ q, q < H.size → AX q → A0 q)
    (kx : ∀ (E : String) (ce : Cell) (q9 : Addr) (u : SX) (t : State) (H1 : Heap) (locs1 : List Loc), t.heap = H1 → s.vm.Alike t.vm → px u → BX E u t → H.size ≤ H1.size → (∀ q : Nat, q < H.size → ¬ AX q → H1[q]? = H[q]?) → va_S A0 H0 H1 locs1 → H1[q9]? = some ce → ce.vm = .none → s.vm.findClass E = some ce.cls → vx_W p l e R s m args below meth c H1 locs1 (cells + mc) (slots + ms) Q (F0 m pc ls rest) q9)
    (kk : ∀ (r : Int32) (u : S) (t : State) (H1 : Heap) (locs1 : List Loc), t.heap = H1 → s.vm.Alike t.vm → post r u → B u t → H.size ≤ H1.size → (∀ q : Nat, q < H.size → ¬ A1 q → H1[q]? = H[q]?) → va_S A0 H0 H1 locs1 → W p l e R s m args below meth c H1 locs1 (cells + mc) (slots + ms) Q (F0 m (pc + 3) ls (.int r :: rest))) : W p l e R s m args below meth c H locs cells slots Q (F0 m pc ls st0) := by
  intro T hT X
  rcases hr T hT X with ⟨v, st₀, t, T', L, h0, X', hL, e1, e2, ⟨⟨r, u, hv, hp, hb⟩, hF⟩, st⟩ | ⟨q, st₀, t, T', L, E, ce, h0, X', hL, e1, e2, ⟨u, hp, hb, hF⟩, hce, hcv, hcl, st⟩
  · cases hv
    obtain ⟨k1, k2, k3⟩ := vx_keep h0 e1 hS hA hf hL hF
    obtain ⟨t2, a1, b1⟩ := kk r u t T'.heap (locs ++ L) e1.symm (by rw [← e2]; exact X'.warmed.alike) hp hb k1 k2 k3 T' rfl X'
    exact ⟨t2, st t2 a1, b1⟩
  · obtain ⟨k1, k2, k3⟩ := vx_keep h0 e1 hS hAX hf hL hF
    obtain ⟨t2, a1, b1⟩ := kx E ce q u t T'.heap (locs ++ L) e1.symm (by rw [← e2]; exact X'.warmed.alike) hp hb k1 k2 k3 (by rw [e1]; exact hce) hcv hcl T' rfl X'
    exact ⟨t2, st.trans a1, b1⟩
theorem vx_calll {S SX : Type} {post : Int64 → S → Prop} {px : SX → Prop} {B : S → State → Prop} {BX : String → SX → State → Prop} {AX : Nat → Prop} (hr : vx_Run p l e R s m args below meth c H locs cells slots mc ms (F0 m pc ls st0) rest (va_Ql post B A1 a) (vx_X px BX AX) free) (hS : va_S A0 H0 H locs) (hA : ∀ q, q < H.size → A1 q → A0 q) (hf : ∀ q, free q → A0 q) (hAX : ∀ q, q < H.size → AX q → A0 q)
    (kx : ∀ (E : String) (ce : Cell) (q9 : Addr) (u : SX) (t : State) (H1 : Heap) (locs1 : List Loc), t.heap = H1 → s.vm.Alike t.vm → px u → BX E u t → H.size ≤ H1.size → (∀ q : Nat, q < H.size → ¬ AX q → H1[q]? = H[q]?) → va_S A0 H0 H1 locs1 → H1[q9]? = some ce → ce.vm = .none → s.vm.findClass E = some ce.cls → vx_W p l e R s m args below meth c H1 locs1 (cells + mc) (slots + ms) Q (F0 m pc ls rest) q9)
    (kk : ∀ (r : Int64) (u : S) (t : State) (H1 : Heap) (locs1 : List Loc), t.heap = H1 → s.vm.Alike t.vm → post r u → B u t → H.size ≤ H1.size → (∀ q : Nat, q < H.size → ¬ A1 q → H1[q]? = H[q]?) → va_S A0 H0 H1 locs1 → W p l e R s m args below meth c H1 locs1 (cells + mc) (slots + ms) Q (F0 m (pc + 3) ls (.long r :: rest))) : W p l e R s m args below meth c H locs cells slots Q (F0 m pc ls st0) := by
  intro T hT X
  rcases hr T hT X with ⟨v, st₀, t, T', L, h0, X', hL, e1, e2, ⟨⟨r, u, hv, hp, hb⟩, hF⟩, st⟩ | ⟨q, st₀, t, T', L, E, ce, h0, X', hL, e1, e2, ⟨u, hp, hb, hF⟩, hce, hcv, hcl, st⟩
  · cases hv
    obtain ⟨k1, k2, k3⟩ := vx_keep h0 e1 hS hA hf hL hF
    obtain ⟨t2, a1, b1⟩ := kk r u t T'.heap (locs ++ L) e1.symm (by rw [← e2]; exact X'.warmed.alike) hp hb k1 k2 k3 T' rfl X'
    exact ⟨t2, st t2 a1, b1⟩
  · obtain ⟨k1, k2, k3⟩ := vx_keep h0 e1 hS hAX hf hL hF
    obtain ⟨t2, a1, b1⟩ := kx E ce q u t T'.heap (locs ++ L) e1.symm (by rw [← e2]; exact X'.warmed.alike) hp hb k1 k2 k3 (by rw [e1]; exact hce) hcv hcl T' rfl X'
    exact ⟨t2, st.trans a1, b1⟩
theorem vx_callf {S SX : Type} {post : UInt32 → S → Prop} {px : SX → Prop} {B : S → State → Prop} {BX : String → SX → State → Prop} {AX : Nat → Prop} (hr : vx_Run p l e R s m args below meth c H locs cells slots mc ms (F0 m pc ls st0) rest (va_Qf post B A1 a) (vx_X px BX AX) free) (hS : va_S A0 H0 H locs) (hA : ∀ q, q < H.size → A1 q → A0 q) (hf : ∀ q, free q → A0 q) (hAX : ∀ q, q < H.size → AX q → A0 q)
    (kx : ∀ (E : String) (ce : Cell) (q9 : Addr) (u : SX) (t : State) (H1 : Heap) (locs1 : List Loc), t.heap = H1 → s.vm.Alike t.vm → px u → BX E u t → H.size ≤ H1.size → (∀ q : Nat, q < H.size → ¬ AX q → H1[q]? = H[q]?) → va_S A0 H0 H1 locs1 → H1[q9]? = some ce → ce.vm = .none → s.vm.findClass E = some ce.cls → vx_W p l e R s m args below meth c H1 locs1 (cells + mc) (slots + ms) Q (F0 m pc ls rest) q9)
    (kk : ∀ (r : UInt32) (u : S) (t : State) (H1 : Heap) (locs1 : List Loc), t.heap = H1 → s.vm.Alike t.vm → post r u → B u t → H.size ≤ H1.size → (∀ q : Nat, q < H.size → ¬ A1 q → H1[q]? = H[q]?) → va_S A0 H0 H1 locs1 → W p l e R s m args below meth c H1 locs1 (cells + mc) (slots + ms) Q (F0 m (pc + 3) ls (.float r :: rest))) : W p l e R s m args below meth c H locs cells slots Q (F0 m pc ls st0) := by
  intro T hT X
  rcases hr T hT X with ⟨v, st₀, t, T', L, h0, X', hL, e1, e2, ⟨⟨r, u, hv, hp, hb⟩, hF⟩, st⟩ | ⟨q, st₀, t, T', L, E, ce, h0, X', hL, e1, e2, ⟨u, hp, hb, hF⟩, hce, hcv, hcl, st⟩
  · cases hv
    obtain ⟨k1, k2, k3⟩ := vx_keep h0 e1 hS hA hf hL hF
    obtain ⟨t2, a1, b1⟩ := kk r u t T'.heap (locs ++ L) e1.symm (by rw [← e2]; exact X'.warmed.alike) hp hb k1 k2 k3 T' rfl X'
    exact ⟨t2, st t2 a1, b1⟩
  · obtain ⟨k1, k2, k3⟩ := vx_keep h0 e1 hS hAX hf hL hF
    obtain ⟨t2, a1, b1⟩ := kx E ce q u t T'.heap (locs ++ L) e1.symm (by rw [← e2]; exact X'.warmed.alike) hp hb k1 k2 k3 (by rw [e1]; exact hce) hcv hcl T' rfl X'
    exact ⟨t2, st.trans a1, b1⟩
theorem vx_calld {S SX : Type} {post : UInt64 → S → Prop} {px : SX → Prop} {B : S → State → Prop} {BX : String → SX → State → Prop} {AX : Nat → Prop} (hr : vx_Run p l e R s m args below meth c H locs cells slots mc ms (F0 m pc ls st0) rest (va_Qd post B A1 a) (vx_X px BX AX) free) (hS : va_S A0 H0 H locs) (hA : ∀ q, q < H.size → A1 q → A0 q) (hf : ∀ q, free q → A0 q) (hAX : ∀ q, q < H.size → AX q → A0 q)
    (kx : ∀ (E : String) (ce : Cell) (q9 : Addr) (u : SX) (t : State) (H1 : Heap) (locs1 : List Loc), t.heap = H1 → s.vm.Alike t.vm → px u → BX E u t → H.size ≤ H1.size → (∀ q : Nat, q < H.size → ¬ AX q → H1[q]? = H[q]?) → va_S A0 H0 H1 locs1 → H1[q9]? = some ce → ce.vm = .none → s.vm.findClass E = some ce.cls → vx_W p l e R s m args below meth c H1 locs1 (cells + mc) (slots + ms) Q (F0 m pc ls rest) q9)
    (kk : ∀ (r : UInt64) (u : S) (t : State) (H1 : Heap) (locs1 : List Loc), t.heap = H1 → s.vm.Alike t.vm → post r u → B u t → H.size ≤ H1.size → (∀ q : Nat, q < H.size → ¬ A1 q → H1[q]? = H[q]?) → va_S A0 H0 H1 locs1 → W p l e R s m args below meth c H1 locs1 (cells + mc) (slots + ms) Q (F0 m (pc + 3) ls (.double r :: rest))) : W p l e R s m args below meth c H locs cells slots Q (F0 m pc ls st0) := by
  intro T hT X
  rcases hr T hT X with ⟨v, st₀, t, T', L, h0, X', hL, e1, e2, ⟨⟨r, u, hv, hp, hb⟩, hF⟩, st⟩ | ⟨q, st₀, t, T', L, E, ce, h0, X', hL, e1, e2, ⟨u, hp, hb, hF⟩, hce, hcv, hcl, st⟩
  · cases hv
    obtain ⟨k1, k2, k3⟩ := vx_keep h0 e1 hS hA hf hL hF
    obtain ⟨t2, a1, b1⟩ := kk r u t T'.heap (locs ++ L) e1.symm (by rw [← e2]; exact X'.warmed.alike) hp hb k1 k2 k3 T' rfl X'
    exact ⟨t2, st t2 a1, b1⟩
  · obtain ⟨k1, k2, k3⟩ := vx_keep h0 e1 hS hAX hf hL hF
    obtain ⟨t2, a1, b1⟩ := kx E ce q u t T'.heap (locs ++ L) e1.symm (by rw [← e2]; exact X'.warmed.alike) hp hb k1 k2 k3 (by rw [e1]; exact hce) hcv hcl T' rfl X'
    exact ⟨t2, st.trans a1, b1⟩
theorem vx_callv {S SX : Type} {post : S → Prop} {px : SX → Prop} {B : S → State → Prop} {BX : String → SX → State → Prop} {AX : Nat → Prop} (hr : vx_Run p l e R s m args below meth c H locs cells slots mc ms (F0 m pc ls st0) rest (va_Qv post B A1 a) (vx_X px BX AX) free) (hS : va_S A0 H0 H locs) (hA : ∀ q, q < H.size → A1 q → A0 q) (hf : ∀ q, free q → A0 q) (hAX : ∀ q, q < H.size → AX q → A0 q)
    (kx : ∀ (E : String) (ce : Cell) (q9 : Addr) (u : SX) (t : State) (H1 : Heap) (locs1 : List Loc), t.heap = H1 → s.vm.Alike t.vm → px u → BX E u t → H.size ≤ H1.size → (∀ q : Nat, q < H.size → ¬ AX q → H1[q]? = H[q]?) → va_S A0 H0 H1 locs1 → H1[q9]? = some ce → ce.vm = .none → s.vm.findClass E = some ce.cls → vx_W p l e R s m args below meth c H1 locs1 (cells + mc) (slots + ms) Q (F0 m pc ls rest) q9)
    (kk : ∀ (u : S) (t : State) (H1 : Heap) (locs1 : List Loc), t.heap = H1 → s.vm.Alike t.vm → post u → B u t → H.size ≤ H1.size → (∀ q : Nat, q < H.size → ¬ A1 q → H1[q]? = H[q]?) → va_S A0 H0 H1 locs1 → W p l e R s m args below meth c H1 locs1 (cells + mc) (slots + ms) Q (F0 m (pc + 3) ls (rest))) : W p l e R s m args below meth c H locs cells slots Q (F0 m pc ls st0) := by
  intro T hT X
  rcases hr T hT X with ⟨v, st₀, t, T', L, h0, X', hL, e1, e2, ⟨⟨u, hv, hp, hb⟩, hF⟩, st⟩ | ⟨q, st₀, t, T', L, E, ce, h0, X', hL, e1, e2, ⟨u, hp, hb, hF⟩, hce, hcv, hcl, st⟩
  · cases hv
    obtain ⟨k1, k2, k3⟩ := vx_keep h0 e1 hS hA hf hL hF
    obtain ⟨t2, a1, b1⟩ := kk u t T'.heap (locs ++ L) e1.symm (by rw [← e2]; exact X'.warmed.alike) hp hb k1 k2 k3 T' rfl X'
    exact ⟨t2, st t2 a1, b1⟩
  · obtain ⟨k1, k2, k3⟩ := vx_keep h0 e1 hS hAX hf hL hF
    obtain ⟨t2, a1, b1⟩ := kx E ce q u t T'.heap (locs ++ L) e1.symm (by rw [← e2]; exact X'.warmed.alike) hp hb k1 k2 k3 (by rw [e1]; exact hce) hcv hcl T' rfl X'
    exact ⟨t2, st.trans a1, b1⟩
/-- caught by the row x of this method's table; the rows ahead don't take it -/
theorem vx_catch {own name : String} {E : String} {ce : Cell} {q : Addr} (hown : s.vm.findClass own = some m.cls) (pre : List ExceptionTableEntry) (x : ExceptionTableEntry) (suf : List ExceptionTableEntry) (hsplit : c.exceptionTable.toList = pre ++ x :: suf)
    (hpass : ∀ z ∈ pre, covers z pc = false ∨ (z.catchType ≠ 0 ∧ ∃ nm : String, (Cond.classLink own z.catchType nm).before args s = true ∧ va_Nc E nm s)) (hx : covers x pc = true) (h0 : x.catchType ≠ 0)
    (hlink : (Cond.classLink own x.catchType name).before args s = true) (hcast : (Cond.castable E name).before args s = true) (hcell : H[q]? = some ce) (hv : ce.vm = .none) (hcl : s.vm.findClass E = some ce.cls)
    (kk : W p l e R s m args below meth c H locs cells slots Q (F0 m x.handlerPc ls [.ref q])) : vx_W p l e R s m args below meth c H locs cells slots Q (F0 m pc ls rest) q := by
  intro T hT X
  have hpl : e.platform.magicAccessors = ({} : Platform).magicAccessors := by rw [X.admits.platform]
  obtain ⟨c3, c4, hc3, hc4, hasg⟩ := Cond.castable_spec hcast
  cases Option.some.inj (hc3.symm.trans hcl)
  obtain ⟨c5, hc5, hcl5⟩ := Cond.classLink_spec hown hlink e.platform hpl
  cases Option.some.inj (hc4.symm.trans hc5)
  obtain ⟨vm', X', st⟩ := X.thenCaughtThrough q (g := F0 m pc ls rest) rfl (Steps.refl _) (by rw [hT]; exact hcell) (by rw [hv]; rfl) (by obtain ⟨k9, h9, -⟩ := Vm.findClass_spec hcl; exact ⟨k9, h9⟩) pre x suf hsplit
    (fun z hz => by
      rcases hpass z hz with h | ⟨hz0, nm, hl1, hn1⟩
      · exact Or.inl h
      · obtain ⟨c6, hc6, hcl6⟩ := Cond.classLink_spec hown hl1 e.platform hpl
        obtain ⟨a8, b8, h1, h2, h3⟩ := hn1
        cases Option.some.inj (h1.symm.trans hcl)
        cases Option.some.inj (h2.symm.trans hc6)
        exact Or.inr ⟨hz0, _, hcl6, h3⟩) hx (Or.inr ⟨h0, c4, hcl5, hasg⟩)
  obtain ⟨t, a1, b1⟩ := kk (T.setVm vm') hT X'
  exact ⟨t, st.trans a1, b1⟩
end Rows
section Ends
variable {p : Program} {l : Launch} {e : Env} {R : Room} {s : State} {m : MethodId} {args : Array Value} {below : List Frame} {meth : Method} {c : Code} {H : Heap} {locs : List Loc} {cells slots : Nat} {Q : State → Prop}
variable {mc ms : Nat} {free : Addr → Prop} {A0 A1 : Nat → Prop} {H0 : Heap} {a : Array Value} {ls : Array Slot} {st0 rest : List Value}
variable {Qc : Array Value → State → Outcome → State → Prop} {XC : String → State → State → Prop}
/-- what a body that may throw owes at its end -/
def vx_MQ (below : List Frame) (Qc : Array Value → State → Outcome → State → Prop) (XC : String → State → State → Prop) (a : Array Value) (s : State) (mc ms : Nat) (free : Addr → Prop) : State → Prop := fun t =>
  ∃ o, t.status = .running ∧ Ended t below o ∧ vx_Q Qc XC mc ms free a s o t
theorem vx_ret {g : JFrame} {mc ms : Nat} (k : W p l e R s m args below meth c H locs cells slots (MQ below Qc args s mc ms free) g) : W p l e R s m args below meth c H locs cells slots (vx_MQ below Qc XC args s mc ms free) g := by
  intro T hT X
  obtain ⟨t, a1, o, b1, b2, b3, b4⟩ := k T hT X
  exact ⟨t, a1, o, b1, b2, Or.inl ⟨b3, b4⟩⟩
/-- not caught here: it goes on to the caller -/
theorem vx_widen {g : JFrame} {q : Addr} {k n : Nat} (h1 : cells ≤ k) (h2 : slots ≤ n) (kk : vx_W p l e R s m args below meth c H locs k n Q g q) : vx_W p l e R s m args below meth c H locs cells slots Q g q := fun T hT X => kk T hT (stand_widen X h1 h2)
theorem vx_out {pc : Nat} {E : String} {ce : Cell} {q : Addr} {mc ms : Nat} (hout : ∀ x ∈ c.exceptionTable.toList, covers x pc = false) (hlocks : meth.locks = false) (hcell : H[q]? = some ce) (hv : ce.vm = .none) (hcl : s.vm.findClass E = some ce.cls)
    (hx : ∀ t : State, t.heap = H → s.vm.Alike t.vm → XC E s t) (hf : ∀ z ∈ locs, free z.base) (hc : cells ≤ mc) (hs : slots ≤ ms) :
    vx_W p l e R s m args below meth c H locs cells slots (vx_MQ below Qc XC args s mc ms free) (F0 m pc ls rest) q := by
  intro T hT X
  obtain ⟨st1, hrun, hend, hW, hsm⟩ := X.leaveThrown q (g := F0 m pc ls rest) rfl rfl rfl hout hlocks
  have hcell9 : (T.setFrames (.throwing q :: below)).heap[q]? = some ce := by
    show T.heap[q]? = some ce
    rw [hT]; exact hcell
  exact ⟨_, st1, .threw q, hrun, hend, Or.inr ⟨q, rfl, E, ce, locs, hx _ hT hW.alike, hcell9, hv, hcl, hW, hsm.mono hc hs, hf⟩⟩
theorem vx_frame {U : State} {k n : Nat} (h : s.sameButNew ({ U with vm := s.vm } : State) locs k n) : s.heap.size ≤ U.heap.size ∧ ∀ q : Nat, q < s.heap.size → (∀ z ∈ locs, z.base ≠ q) → U.heap[q]? = s.heap[q]? := by
  obtain ⟨-, h2, -, -, -, h6⟩ := h
  refine ⟨h2, fun q hq hz => ?_⟩
  obtain ⟨c9, e1, e2, e3, e4⟩ := h6 q _ (Array.getElem?_eq_getElem hq)
  have hs : c9.slots = (s.heap[q]).slots := Array.ext_getElem? fun i => e4 i fun hm => hz _ hm rfl
  have h9 : c9 = s.heap[q] := by
    rw [hs] at e2
    exact e2
  have e5 : U.heap[q]? = some c9 := e1
  rw [e5, h9, Array.getElem?_eq_getElem hq]
/-- the words of a throw but the four that speak of the heap -/
def vx_no (w : Cond) : Bool := decide (w ≠ .isRef (.static Bundle.tN "UNASSIGNED_STACK" Bundle.steD)) && decide (w ≠ .isRef (.static Bundle.tN "SUPPRESSED_SENTINEL" Bundle.listD)) && decide (w ≠ .laysStatic Bundle.tN "UNASSIGNED_STACK" Bundle.steD) && decide (w ≠ .laysStatic Bundle.tN "SUPPRESSED_SENTINEL" Bundle.listD)
def vx_at0 (own : String) (ic : Nat) (X : String) (names : List String) : List Cond := (Bundle.ownAtoms0 own ic X names).filter vx_no
def vx_atS (own : String) (ic : Nat) (X : String) (names : List String) : List Cond := (Bundle.ownAtoms own ic X names).filter vx_no
/-- a word that the tables alone decide, or a good one -/
def vx_ot (w : Cond) : Bool := w.onTables || goodWord w
theorem vx_ot_at {args a' : Array Value} {s U : State} {w : Cond} (hW : s.WarmedH U.vm) (hvm : s.vm = U.vm) (hg : vx_ot w = true) (h : w.before args s = true) : w.before a' U = true := by
  simp only [vx_ot, Bool.or_eq_true] at hg
  rcases hg with hg | hg
  · exact va_tabs hg hvm h
  · exact word_at hW (good_of_word hg) h
/-- a list's words: the good ones out of the method's own list, the others by premises of their own -/
theorem vx_hat {args : Array Value} {s : State} {L B : List Cond} (h1 : ∀ w ∈ L.filter goodWord, w.before args s = true) (h2 : ∀ w ∈ L.filter (fun w => !goodWord w), w ∈ B) (h3 : ∀ w ∈ B, w.before args s = true) : ∀ w ∈ L, w.before args s = true := by
  intro w hw
  by_cases g : goodWord w = true
  · exact h1 w (List.mem_filter.mpr ⟨hw, g⟩)
  · refine h3 w (h2 w (List.mem_filter.mpr ⟨hw, ?_⟩))
    show (!goodWord w) = true
    cases hgw : goodWord w
    · rfl
    · exact absurd hgw g
theorem vx_c {args : Array Value} {s : State} {w : Cond} {B : List Cond} (h : w.before args s = true) (t : ∀ w ∈ B, w.before args s = true) : ∀ w' ∈ w :: B, w'.before args s = true := fun w' h' => (List.mem_cons.mp h').elim (fun e => by rw [e]; exact h) (t w')
theorem vx_n {args : Array Value} {s : State} : ∀ w ∈ ([] : List Cond), w.before args s = true := fun _ h => nomatch h
theorem vx_own {args : Array Value} {s : State} {L : List Cond} (h1 : ∀ w ∈ L.filter vx_no, w.before args s = true)
    (hU : (Cond.isRef (.static Bundle.tN "UNASSIGNED_STACK" Bundle.steD)).before args s = true) (hN : (Cond.isRef (.static Bundle.tN "SUPPRESSED_SENTINEL" Bundle.listD)).before args s = true)
    (lU : (Cond.laysStatic Bundle.tN "UNASSIGNED_STACK" Bundle.steD).before args s = true) (lN : (Cond.laysStatic Bundle.tN "SUPPRESSED_SENTINEL" Bundle.listD).before args s = true) : ∀ w ∈ L, w.before args s = true := by
  intro w hw
  by_cases e1 : w = .isRef (.static Bundle.tN "UNASSIGNED_STACK" Bundle.steD)
  · rw [e1]; exact hU
  · by_cases e2 : w = .isRef (.static Bundle.tN "SUPPRESSED_SENTINEL" Bundle.listD)
    · rw [e2]; exact hN
    · by_cases e3 : w = .laysStatic Bundle.tN "UNASSIGNED_STACK" Bundle.steD
      · rw [e3]; exact lU
      · by_cases e4 : w = .laysStatic Bundle.tN "SUPPRESSED_SENTINEL" Bundle.listD
        · rw [e4]; exact lN
        · exact h1 w (List.mem_filter.mpr ⟨hw, by unfold vx_no; rw [decide_eq_true e1, decide_eq_true e2, decide_eq_true e3, decide_eq_true e4]; rfl⟩)
/-- where a static field lies, its class's statics cell in H -/
def vx_L (C n d : String) (A : Nat → Prop) (U : State) (H : Heap) : Prop := ∃ (c : ClassId) (k : Class) (i : Nat) (f : Field) (a : Nat) (cell : Cell), U.vm.findClass C = some c ∧ U.fieldFound? C n d = some (c, k, i, f) ∧ f.isStatic = true ∧ k.statics = some a ∧ H[a]? = some cell ∧ cell.vm.isStatics = true ∧ cell.cls = c ∧ f.slot < cell.slots.size ∧ k.staticTypes[f.slot]? = some f.type ∧ ¬ A a
theorem vx_L.moved {C n d : String} {A : Nat → Prop} {u U : State} {H : Heap} (hvm : u.vm.Alike U.vm) (h : vx_L C n d A u H) : vx_L C n d A U H := by
  obtain ⟨c, k, i, f, a, cell, h1, h2, h3, h4, h5, h6, h7, h8, h9, h10⟩ := h
  obtain ⟨k', hi', he⟩ := State.fieldFound?_setVm hvm h2
  exact ⟨c, k', i, f, a, cell, by rw [hvm.findClass]; exact h1, hi', h3, by rw [he]; exact h4, h5, h6, h7, h8, by rw [he]; exact h9, h10⟩
theorem vx_L.kept {C n d : String} {A : Nat → Prop} {U : State} {H H1 : Heap} (h : vx_L C n d A U H) (hq : ∀ a : Nat, a < H.size → ¬ A a → H1[a]? = H[a]?) : vx_L C n d A U H1 := by
  obtain ⟨c, k, i, f, a, cell, h1, h2, h3, h4, h5, h6, h7, h8, h9, h10⟩ := h
  exact ⟨c, k, i, f, a, cell, h1, h2, h3, h4, by rw [hq a (Array.getElem?_eq_some_iff.mp h5).1 h10]; exact h5, h6, h7, h8, h9, h10⟩
theorem vx_L.narrow {C n d : String} {A B : Nat → Prop} {U : State} {H : Heap} (h : vx_L C n d A U H) (hAB : ∀ q, B q → A q) : vx_L C n d B U H := by
  obtain ⟨c, k, i, f, a, cell, h1, h2, h3, h4, h5, h6, h7, h8, h9, h10⟩ := h
  exact ⟨c, k, i, f, a, cell, h1, h2, h3, h4, h5, h6, h7, h8, h9, fun z => h10 (hAB _ z)⟩
theorem vx_L.word {C n d : String} {A : Nat → Prop} {s : State} {args : Array Value} (h : vx_L C n d A s s.heap) : (Cond.laysStatic C n d).before args s = true := by
  obtain ⟨c, k, i, f, a, cell, h1, h2, h3, h4, h5, h6, h7, h8, h9, -⟩ := h
  show (Cond.laysStatic C n d).holds args s none s [] = true
  exact Cond.laysStatic_of h1 h2 h3 h4 h5 h6 h7 h8 h9
/-- .. and what it holds: null or some reference -/
def vx_Zq (C n d : String) (A : Nat → Prop) (U : State) (H : Heap) : Prop := va_Zq C n d A U H ∧ vx_L C n d A U H
theorem vx_Zq.moved {C n d : String} {A : Nat → Prop} {u U : State} {H : Heap} (hvm : u.vm.Alike U.vm) (h : vx_Zq C n d A u H) : vx_Zq C n d A U H := ⟨va_Zq.moved hvm h.1, vx_L.moved hvm h.2⟩
theorem vx_Zq.kept {C n d : String} {A : Nat → Prop} {U : State} {H H1 : Heap} (h : vx_Zq C n d A U H) (hq : ∀ a : Nat, a < H.size → ¬ A a → H1[a]? = H[a]?) : vx_Zq C n d A U H1 := ⟨va_Zq.kept h.1 hq, vx_L.kept h.2 hq⟩
theorem vx_Zq.narrow {C n d : String} {A B : Nat → Prop} {U : State} {H : Heap} (h : vx_Zq C n d A U H) (hAB : ∀ q, B q → A q) : vx_Zq C n d B U H := ⟨va_Zq.narrow h.1 hAB, vx_L.narrow h.2 hAB⟩
theorem vx_Zqof {args : Array Value} {s : State} {C n d : String} {A : Nat → Prop} (hl : (Cond.laysStatic C n d).before args s = true) (hini : (Cond.initialized C).before args s = true) (h : (Cond.isRef (.static C n d)).before args s = true) (hA : ∀ a : Nat, a < s.heap.size → ¬ A a) : vx_Zq C n d A s s.heap := by
  refine ⟨va_Zqof hl hini h hA, ?_⟩
  obtain ⟨c, k, i, f, a, cell, h1, h2, h3, h4, h5, h6, h7, h8, h9⟩ := Cond.laysStatic_spec hl
  exact ⟨c, k, i, f, a, cell, h1, h2, h3, h4, h5, h6, h7, h8, h9, hA a (Array.getElem?_eq_some_iff.mp h5).1⟩
theorem vx_isRef {C n d : String} {v : Value} {A : Nat → Prop} {s : State} {args : Array Value} (h : va_Z C n d v A s s.heap) (hv : v.isRef = true) : (Cond.isRef (.static C n d)).before args s = true := by
  obtain ⟨cf, kf, fi, f, a, cell, h1, h2, h3, h4, h5, h6, h7, -⟩ := h
  have he : (Term.static C n d).eval args s none [] s = some v := by
    simp [Term.eval, State.fieldNamed?, h1, h2, h4, h5, h6, h7]
  simp only [Cond.before, Cond.holds, Cond.value, he]
  cases v <;> simp_all [Value.isRef]
theorem vx_isRefq {C n d : String} {A : Nat → Prop} {s : State} {args : Array Value} (h : va_Zq C n d A s s.heap) : (Cond.isRef (.static C n d)).before args s = true := by
  rcases h with h | ⟨t, h⟩
  · exact vx_isRef h rfl
  · exact vx_isRef h rfl
/-- the same frame, seen from here: as if the method were called anew in this heap -/
theorem vx_rebase {T : State} (X : Stand p l e R s m args below meth c T locs cells slots) {R' : Room} (hf : R'.frames ≤ R.frames) (hl : R'.locals ≤ R.locals) (hc : cells + R'.cells ≤ R.cells) (hs : slots + R'.slots ≤ R.slots) :
    Stand p l e R' ((T.setVm s.vm).setFrames (.invoking m args :: below)) m args below meth c T [] 0 0 := by
  have htop : (T.setVm s.vm).topJava?.isSome := X.here.top
  have hF : ((T.setVm s.vm).setFrames (.invoking m args :: below)).frames = .invoking m args :: below := State.frames_setFrames _ (State.cur_lt_of_top htop)
  obtain ⟨g₀, hg0⟩ := Option.isSome_iff_exists.mp htop
  obtain ⟨r, hr⟩ := State.topJava?_eq_some.mp hg0
  have hl9 : e.platform.stackLimits (T.setVm s.vm).me = e.platform.stackLimits s.me := X.limits
  have hb9 : (T.setVm s.vm).me.stackBytes = s.me.stackBytes := X.bytes
  refine ⟨X.admits, X.cas, X.clock, hF, ?_, X.hears, X.method, X.code, X.here, X.tail, X.warmed, ?_, ?_, ?_⟩
  · have h := X.room
    have hU : ((T.setVm s.vm).setFrames (.invoking m args :: below)).localsInUse = s.localsInUse := by
      rw [State.localsInUse_invoking hF (meth := meth) (c := c) X.method X.code, State.localsInUse_invoking X.frames X.method X.code]
    simp only [State.hasRoom, Bool.and_eq_true, decide_eq_true_eq] at h ⊢
    obtain ⟨⟨⟨⟨h1, h2, h3, h4, h5, h6⟩, h7⟩, h8⟩, h9⟩ := h
    rw [X.frames, List.length_cons] at h2 h3
    have q1 := X.heapSize
    have q2 := X.used
    simp only [hF, hU, List.length_cons, State.stackLimits_setFrames, State.stackBytes_setFrames, hl9, hb9]
    refine ⟨⟨⟨⟨by omega, by omega, by omega, by omega, by omega, h6⟩, ?_⟩, ?_⟩, X.book⟩
    · show T.heap.size + R'.cells ≤ e.platform.maxCells
      omega
    · show T.slotsUsed + R'.slots ≤ e.platform.maxSlots
      omega
  · rw [State.stackLimits_setFrames]; rfl
  · rw [State.stackBytes_setFrames]; rfl
  · refine ⟨?_, Nat.le_refl _, Nat.le_refl _, ?_, ?_, fun a c9 h9 => ⟨c9, h9, rfl, rfl, fun _ _ => rfl⟩⟩
    · obtain ⟨t, ht, -⟩ := State.frames_cons hr
      show T.setVm s.vm = { ((T.setVm s.vm).setFrames (.invoking m args :: below)).setFrames (T.setVm s.vm).frames with heap := T.heap, slotsUsed := T.slotsUsed }
      rw [State.setFrames_setFrames, State.setFrames_self ht]
      rfl
    · show T.slotsUsed = T.slotsUsed + ((T.heap.toList.drop T.heap.size).map (·.slots.size)).sum
      rw [List.drop_eq_nil_of_le (Nat.le_of_eq Array.length_toList)]
      rfl
    · show ((T.heap.toList.drop T.heap.size).map (·.slots.size)).sum ≤ 0
      rw [List.drop_eq_nil_of_le (Nat.le_of_eq Array.length_toList)]
      exact Nat.le_refl _
/-- 'throw new E()': new; dup; invokespecial; athrow -/
theorem vx_throw0 {cc : ByteArray} {pc : Nat} (hexec : p.tables.exec = Jvm.exec) (hb : c.code = cc) (hl : l.stackTraces = false) {own cls : String} {names : List String} {ik ic mc ms : Nat} {A : Nat → Prop}
    (hown : s.vm.findClass own = some m.cls) (hcls : Bundle.fit cls = true) (hnames : ∀ n ∈ names, Bundle.fit n = true)
    (hk : (Cond.classLink own ik cls).before args s = true) (hini : (Cond.initialized cls).before args s = true) (hat : ∀ w ∈ vx_at0 own ic cls names, w.before args s = true)
    (hgood : ∀ w ∈ Cond.classLink own ik cls :: Cond.initialized cls :: vx_at0 own ic cls names, vx_ot w = true)
    (hU : vx_Zq Bundle.tN "UNASSIGNED_STACK" Bundle.steD A s s.heap) (hN : vx_Zq Bundle.tN "SUPPRESSED_SENTINEL" Bundle.listD A s s.heap) (hS : va_S A s.heap H locs) (hsize : ls.size = c.maxLocals)
    (d0 : decode cc pc = .ok (.new ik, 3)) (d3 : decode cc (pc + 3) = .ok (.dup, 1)) (d4 : decode cc (pc + 4) = .ok (.invokespecial ic, 3)) (d7 : decode cc (pc + 7) = .ok (.athrow, 1))
    (hout : ∀ x ∈ c.exceptionTable.toList, covers x (pc + 7) = false)
    (hRframes : names.length + 3 < R.frames) (hRlocals : (rest.map fun v => v.category).sum + (13 * (names.length + 1) + 42) ≤ R.locals) (hRcells : cells + 1 ≤ R.cells) (hRslots : slots + 6 ≤ R.slots) (hlocks : meth.locks = false)
    (hx : ∀ t : State, s.vm.Alike t.vm → H.size ≤ t.heap.size → (∀ q : Nat, q < H.size → t.heap[q]? = H[q]?) → XC cls s t)
    (hf : ∀ z ∈ locs, free z.base) (hc : cells + 1 ≤ mc) (hs : slots + 6 ≤ ms) :
    W p l e R s m args below meth c H locs cells slots (vx_MQ below Qc XC args s mc ms free) (F0 m pc ls rest) := by
  intro T hT X
  have htr : e.platform.stackTraces = false := (show e.platform.stackTraces = l.stackTraces by rw [X.admits.platform]).trans hl
  have Y := vx_rebase X (R' := { frames := R.frames, locals := R.locals, cells := 1, slots := 6 }) (Nat.le_refl _) (Nat.le_refl _) hRcells hRslots
  obtain ⟨s', hA⟩ : ∃ z, z = (T.setVm s.vm).setFrames (.invoking m args :: below) := ⟨_, rfl⟩
  rw [← hA] at Y
  have hvm : s'.vm = s.vm := by rw [hA]; rfl
  have hhp : s'.heap = H := by rw [hA]; exact hT
  have hW0 : s.WarmedH s'.vm := by rw [hvm]; exact State.WarmedH.refl s
  have hat' : ∀ w ∈ vx_at0 own ic cls names, w.before args s' = true := fun w hw => vx_ot_at hW0 hvm.symm (hgood w (List.mem_cons_of_mem _ (List.mem_cons_of_mem _ hw))) (hat w hw)
  have hk' : (Cond.classLink own ik cls).before args s' = true := vx_ot_at hW0 hvm.symm (hgood _ List.mem_cons_self) hk
  have hini' : (Cond.initialized cls).before args s' = true := vx_ot_at hW0 hvm.symm (hgood _ (List.mem_cons_of_mem _ List.mem_cons_self)) hini
  have hU' : vx_Zq Bundle.tN "UNASSIGNED_STACK" Bundle.steD A s' s'.heap := by rw [hhp]; exact vx_Zq.moved hW0.alike (hU.kept hS.2.1)
  have hN' : vx_Zq Bundle.tN "SUPPRESSED_SENTINEL" Bundle.listD A s' s'.heap := by rw [hhp]; exact vx_Zq.moved hW0.alike (hN.kept hS.2.1)
  have h : ∀ w ∈ Bundle.ownAtoms0 own ic cls names, w.before args s' = true := vx_own hat' (vx_isRefq hU'.1) (vx_isRefq hN'.1) hU'.2.word hN'.2.word
  have hown' : s'.vm.findClass own = some m.cls := by rw [hvm]; exact hown
  have hins : (Cond.instantiable cls 6).before args s' = true := h _ (by simp [Bundle.ownAtoms0])
  obtain ⟨vm₁, cX, kX, hfX, hkX, -, -, X₁, st1⟩ := Y.newCold hexec (own := own) (C := cls) (index := ik) (n := 6) hown' hk' hins hini'
    (g := F0 m pc ls rest) rfl (by rw [hb]; exact d0) (Nat.le_refl _) (Nat.le_refl _)
  generalize hT1 : (T.setVm vm₁).pushCell { cls := cX, slots := kX.instanceTypes.map defaultValue, vm := .none } = T1 at X₁ st1
  have hcat : (Value.ref T.heap.size).category = 1 := rfl
  have hcellA : T1.heap[T.heap.size]? = some (freshCell cX kX) := by rw [← hT1]; exact State.heap_pushCell_size _ _
  have d3' : decode c.code (pc + 3) = .ok (.dup, 1) := by rw [hb]; exact d3
  obtain ⟨U, hsteps, hrun, hend, hW, hsame, ce, hce, hO⟩ := X₁.ctorThrow0 hexec htr (own := own) (cls := cls) (names := names) (ic := ic) hown' hcls hnames h (fun x hx => nomatch hx) hfX hkX hcellA (by rw [hhp, hT]; exact Nat.le_refl _)
    (g := { method := m, pc := pc + 4, locals := ls, stack := .ref T.heap.size :: .ref T.heap.size :: rest, locked := none }) rfl hsize rfl rfl (rest := rest) rfl
    (by rw [hb]; exact d4) (by rw [hb]; exact d7) hout hRframes (by simp only [List.map_cons, List.sum_cons, hcat]; omega) hlocks
  obtain ⟨f1, f2⟩ := vx_frame hsame
  rw [hhp] at f1 f2
  have hWs : s.WarmedH U.vm := State.WarmedH.trans hW0 hW
  have hcl : s.vm.findClass cls = some ce.cls := by
    have h9 := hO.cls
    rw [hvm] at h9
    exact h9
  have hall : s.sameButNew ({ U with vm := s.vm } : State) locs mc ms := by
    subst hA
    obtain ⟨e1, e2⟩ := hsame
    rw [State.setFrames_setFrames] at e1
    have h2 : (T.setVm s.vm).sameButNew ({ U with vm := s.vm } : State) [] (0 + 1) (0 + 6) := ⟨e1, e2⟩
    have h3 := X.same.trans h2
    rw [List.append_nil] at h3
    exact h3.mono hc hs
  refine ⟨U, ?_, .threw T.heap.size, hrun, hend, Or.inr ⟨T.heap.size, rfl, cls, ce, locs, hx U hWs.alike f1 (fun q hq => f2 q hq (fun z hz => nomatch hz)), hce, hO.vm, hcl, hWs, hall, hf⟩⟩
  refine st1 _ ?_
  show Steps p.tables e below (T1.setTop { method := m, pc := pc + 3, locals := ls, stack := .ref T.heap.size :: rest, locked := none }) _
  jvm_step X₁.here [X₁.here.top, hexec, d3', Value.category]
  exact hsteps
/-- 'throw new E("text")': new; dup; ldc; invokespecial; athrow -/
theorem vx_throwS {cc : ByteArray} {pc : Nat} (hexec : p.tables.exec = Jvm.exec) (hb : c.code = cc) (hl : l.stackTraces = false) {own cls text : String} {names : List String} {ik is ic mc ms sa : Nat} {A : Nat → Prop}
    (hown : s.vm.findClass own = some m.cls) (hcls : Bundle.fit cls = true) (hnames : ∀ n ∈ names, Bundle.fit n = true)
    (hk : (Cond.classLink own ik cls).before args s = true) (hini : (Cond.initialized cls).before args s = true) (hstr : vk_R own is text sa s) (hat : ∀ w ∈ vx_atS own ic cls names, w.before args s = true)
    (hgood : ∀ w ∈ Cond.classLink own ik cls :: Cond.initialized cls :: vx_atS own ic cls names, vx_ot w = true)
    (hU : vx_Zq Bundle.tN "UNASSIGNED_STACK" Bundle.steD A s s.heap) (hN : vx_Zq Bundle.tN "SUPPRESSED_SENTINEL" Bundle.listD A s s.heap) (hS : va_S A s.heap H locs) (hsize : ls.size = c.maxLocals)
    (d0 : decode cc pc = .ok (.new ik, 3)) (d3 : decode cc (pc + 3) = .ok (.dup, 1)) (d4 : decode cc (pc + 4) = .ok (.ldc is, 2)) (d6 : decode cc (pc + 6) = .ok (.invokespecial ic, 3)) (d9 : decode cc (pc + 9) = .ok (.athrow, 1))
    (hout : ∀ x ∈ c.exceptionTable.toList, covers x (pc + 9) = false)
    (hRframes : names.length + 3 < R.frames) (hRlocals : (rest.map fun v => v.category).sum + (13 * (names.length + 1) + 43) ≤ R.locals) (hRcells : cells + 1 ≤ R.cells) (hRslots : slots + 6 ≤ R.slots) (hlocks : meth.locks = false)
    (hx : ∀ t : State, s.vm.Alike t.vm → H.size ≤ t.heap.size → (∀ q : Nat, q < H.size → t.heap[q]? = H[q]?) → XC cls s t)
    (hf : ∀ z ∈ locs, free z.base) (hc : cells + 1 ≤ mc) (hs : slots + 6 ≤ ms) :
    W p l e R s m args below meth c H locs cells slots (vx_MQ below Qc XC args s mc ms free) (F0 m pc ls rest) := by
  intro T hT X
  have htr : e.platform.stackTraces = false := (show e.platform.stackTraces = l.stackTraces by rw [X.admits.platform]).trans hl
  have Y := vx_rebase X (R' := { frames := R.frames, locals := R.locals, cells := 1, slots := 6 }) (Nat.le_refl _) (Nat.le_refl _) hRcells hRslots
  obtain ⟨s', hA⟩ : ∃ z, z = (T.setVm s.vm).setFrames (.invoking m args :: below) := ⟨_, rfl⟩
  rw [← hA] at Y
  have hvm : s'.vm = s.vm := by rw [hA]; rfl
  have hhp : s'.heap = H := by rw [hA]; exact hT
  have hW0 : s.WarmedH s'.vm := by rw [hvm]; exact State.WarmedH.refl s
  have hat' : ∀ w ∈ vx_atS own ic cls names, w.before args s' = true := fun w hw => vx_ot_at hW0 hvm.symm (hgood w (List.mem_cons_of_mem _ (List.mem_cons_of_mem _ hw))) (hat w hw)
  have hk' : (Cond.classLink own ik cls).before args s' = true := vx_ot_at hW0 hvm.symm (hgood _ List.mem_cons_self) hk
  have hini' : (Cond.initialized cls).before args s' = true := vx_ot_at hW0 hvm.symm (hgood _ (List.mem_cons_of_mem _ List.mem_cons_self)) hini
  have hU' : vx_Zq Bundle.tN "UNASSIGNED_STACK" Bundle.steD A s' s'.heap := by rw [hhp]; exact vx_Zq.moved hW0.alike (hU.kept hS.2.1)
  have hN' : vx_Zq Bundle.tN "SUPPRESSED_SENTINEL" Bundle.listD A s' s'.heap := by rw [hhp]; exact vx_Zq.moved hW0.alike (hN.kept hS.2.1)
  have h : ∀ w ∈ Bundle.ownAtoms own ic cls names, w.before args s' = true := vx_own hat' (vx_isRefq hU'.1) (vx_isRefq hN'.1) hU'.2.word hN'.2.word
  have hown' : s'.vm.findClass own = some m.cls := by rw [hvm]; exact hown
  have hins : (Cond.instantiable cls 6).before args s' = true := h _ (by simp [Bundle.ownAtoms])
  obtain ⟨vm₁, cX, kX, hfX, hkX, -, -, X₁, st1⟩ := Y.newCold hexec (own := own) (C := cls) (index := ik) (n := 6) hown' hk' hins hini'
    (g := F0 m pc ls rest) rfl (by rw [hb]; exact d0) (Nat.le_refl _) (Nat.le_refl _)
  generalize hT1 : (T.setVm vm₁).pushCell { cls := cX, slots := kX.instanceTypes.map defaultValue, vm := .none } = T1 at X₁ st1
  have hcat : (Value.ref T.heap.size).category = 1 := rfl
  have hcellA : T1.heap[T.heap.size]? = some (freshCell cX kX) := by rw [← hT1]; exact State.heap_pushCell_size _ _
  have d3' : decode c.code (pc + 3) = .ok (.dup, 1) := by rw [hb]; exact d3
  have d4' : decode c.code (pc + 4) = .ok (.ldc is, 2) := by rw [hb]; exact d4
  have hstr' : vk_R own is text sa s' := vk_R.warm hW0 hstr
  obtain ⟨U, hsteps, hrun, hend, hW, hsame, ce, hce, hO⟩ := X₁.ctorThrowS hexec htr (own := own) (cls := cls) (names := names) (ic := ic) hown' hcls hnames h (fun x hx => nomatch hx) hfX hkX hcellA (by rw [hhp, hT]; exact Nat.le_refl _) (msg := .ref sa) rfl
    (g := { method := m, pc := pc + 6, locals := ls, stack := .ref sa :: .ref T.heap.size :: .ref T.heap.size :: rest, locked := none }) rfl hsize rfl rfl (rest := rest) rfl
    (by rw [hb]; exact d6) (by rw [hb]; exact d9) hout hRframes (by simp only [List.map_cons, List.sum_cons, hcat]; omega) hlocks
  obtain ⟨f1, f2⟩ := vx_frame hsame
  rw [hhp] at f1 f2
  have hWs : s.WarmedH U.vm := State.WarmedH.trans hW0 hW
  have hcl : s.vm.findClass cls = some ce.cls := by
    have h9 := hO.cls
    rw [hvm] at h9
    exact h9
  have hall : s.sameButNew ({ U with vm := s.vm } : State) locs mc ms := by
    subst hA
    obtain ⟨e1, e2⟩ := hsame
    rw [State.setFrames_setFrames] at e1
    have h2 : (T.setVm s.vm).sameButNew ({ U with vm := s.vm } : State) [] (0 + 1) (0 + 6) := ⟨e1, e2⟩
    have h3 := X.same.trans h2
    rw [List.append_nil] at h3
    exact h3.mono hc hs
  refine ⟨U, ?_, .threw T.heap.size, hrun, hend, Or.inr ⟨T.heap.size, rfl, cls, ce, locs, hx U hWs.alike f1 (fun q hq => f2 q hq (fun z hz => nomatch hz)), hce, hO.vm, hcl, hWs, hall, hf⟩⟩
  refine st1 _ ?_
  show Steps p.tables e below (T1.setTop { method := m, pc := pc + 3, locals := ls, stack := .ref T.heap.size :: rest, locked := none }) _
  jvm_step X₁.here [X₁.here.top, hexec, d3', Value.category]
  exact X₁.ldcString hexec (own := own) (text := text) (index := is) (a := sa) hown' hstr'.1 hstr'.2
    (g := { method := m, pc := pc + 4, locals := ls, stack := .ref T.heap.size :: .ref T.heap.size :: rest, locked := none }) rfl d4' _ hsteps
/-- 'throw new E("text")', the text by a wide index -/
theorem vx_throwSW {cc : ByteArray} {pc : Nat} (hexec : p.tables.exec = Jvm.exec) (hb : c.code = cc) (hl : l.stackTraces = false) {own cls text : String} {names : List String} {ik is ic mc ms sa : Nat} {A : Nat → Prop}
    (hown : s.vm.findClass own = some m.cls) (hcls : Bundle.fit cls = true) (hnames : ∀ n ∈ names, Bundle.fit n = true)
    (hk : (Cond.classLink own ik cls).before args s = true) (hini : (Cond.initialized cls).before args s = true) (hstr : vk_R own is text sa s) (hat : ∀ w ∈ vx_atS own ic cls names, w.before args s = true)
    (hgood : ∀ w ∈ Cond.classLink own ik cls :: Cond.initialized cls :: vx_atS own ic cls names, vx_ot w = true)
    (hU : vx_Zq Bundle.tN "UNASSIGNED_STACK" Bundle.steD A s s.heap) (hN : vx_Zq Bundle.tN "SUPPRESSED_SENTINEL" Bundle.listD A s s.heap) (hS : va_S A s.heap H locs) (hsize : ls.size = c.maxLocals)
    (d0 : decode cc pc = .ok (.new ik, 3)) (d3 : decode cc (pc + 3) = .ok (.dup, 1)) (d4 : decode cc (pc + 4) = .ok (.ldc_w is, 3)) (d7 : decode cc (pc + 7) = .ok (.invokespecial ic, 3)) (d10 : decode cc (pc + 10) = .ok (.athrow, 1))
    (hout : ∀ x ∈ c.exceptionTable.toList, covers x (pc + 10) = false)
    (hRframes : names.length + 3 < R.frames) (hRlocals : (rest.map fun v => v.category).sum + (13 * (names.length + 1) + 43) ≤ R.locals) (hRcells : cells + 1 ≤ R.cells) (hRslots : slots + 6 ≤ R.slots) (hlocks : meth.locks = false)
    (hx : ∀ t : State, s.vm.Alike t.vm → H.size ≤ t.heap.size → (∀ q : Nat, q < H.size → t.heap[q]? = H[q]?) → XC cls s t)
    (hf : ∀ z ∈ locs, free z.base) (hc : cells + 1 ≤ mc) (hs : slots + 6 ≤ ms) :
    W p l e R s m args below meth c H locs cells slots (vx_MQ below Qc XC args s mc ms free) (F0 m pc ls rest) := by
  intro T hT X
  have htr : e.platform.stackTraces = false := (show e.platform.stackTraces = l.stackTraces by rw [X.admits.platform]).trans hl
  have Y := vx_rebase X (R' := { frames := R.frames, locals := R.locals, cells := 1, slots := 6 }) (Nat.le_refl _) (Nat.le_refl _) hRcells hRslots
  obtain ⟨s', hA⟩ : ∃ z, z = (T.setVm s.vm).setFrames (.invoking m args :: below) := ⟨_, rfl⟩
  rw [← hA] at Y
  have hvm : s'.vm = s.vm := by rw [hA]; rfl
  have hhp : s'.heap = H := by rw [hA]; exact hT
  have hW0 : s.WarmedH s'.vm := by rw [hvm]; exact State.WarmedH.refl s
  have hat' : ∀ w ∈ vx_atS own ic cls names, w.before args s' = true := fun w hw => vx_ot_at hW0 hvm.symm (hgood w (List.mem_cons_of_mem _ (List.mem_cons_of_mem _ hw))) (hat w hw)
  have hk' : (Cond.classLink own ik cls).before args s' = true := vx_ot_at hW0 hvm.symm (hgood _ List.mem_cons_self) hk
  have hini' : (Cond.initialized cls).before args s' = true := vx_ot_at hW0 hvm.symm (hgood _ (List.mem_cons_of_mem _ List.mem_cons_self)) hini
  have hU' : vx_Zq Bundle.tN "UNASSIGNED_STACK" Bundle.steD A s' s'.heap := by rw [hhp]; exact vx_Zq.moved hW0.alike (hU.kept hS.2.1)
  have hN' : vx_Zq Bundle.tN "SUPPRESSED_SENTINEL" Bundle.listD A s' s'.heap := by rw [hhp]; exact vx_Zq.moved hW0.alike (hN.kept hS.2.1)
  have h : ∀ w ∈ Bundle.ownAtoms own ic cls names, w.before args s' = true := vx_own hat' (vx_isRefq hU'.1) (vx_isRefq hN'.1) hU'.2.word hN'.2.word
  have hown' : s'.vm.findClass own = some m.cls := by rw [hvm]; exact hown
  have hins : (Cond.instantiable cls 6).before args s' = true := h _ (by simp [Bundle.ownAtoms])
  obtain ⟨vm₁, cX, kX, hfX, hkX, -, -, X₁, st1⟩ := Y.newCold hexec (own := own) (C := cls) (index := ik) (n := 6) hown' hk' hins hini'
    (g := F0 m pc ls rest) rfl (by rw [hb]; exact d0) (Nat.le_refl _) (Nat.le_refl _)
  generalize hT1 : (T.setVm vm₁).pushCell { cls := cX, slots := kX.instanceTypes.map defaultValue, vm := .none } = T1 at X₁ st1
  have hcat : (Value.ref T.heap.size).category = 1 := rfl
  have hcellA : T1.heap[T.heap.size]? = some (freshCell cX kX) := by rw [← hT1]; exact State.heap_pushCell_size _ _
  have d3' : decode c.code (pc + 3) = .ok (.dup, 1) := by rw [hb]; exact d3
  have d4' : decode c.code (pc + 4) = .ok (.ldc_w is, 3) := by rw [hb]; exact d4
  have hstr' : vk_R own is text sa s' := vk_R.warm hW0 hstr
  obtain ⟨U, hsteps, hrun, hend, hW, hsame, ce, hce, hO⟩ := X₁.ctorThrowS hexec htr (own := own) (cls := cls) (names := names) (ic := ic) hown' hcls hnames h (fun x hx => nomatch hx) hfX hkX hcellA (by rw [hhp, hT]; exact Nat.le_refl _) (msg := .ref sa) rfl
    (g := { method := m, pc := pc + 7, locals := ls, stack := .ref sa :: .ref T.heap.size :: .ref T.heap.size :: rest, locked := none }) rfl hsize rfl rfl (rest := rest) rfl
    (by rw [hb]; exact d7) (by rw [hb]; exact d10) hout hRframes (by simp only [List.map_cons, List.sum_cons, hcat]; omega) hlocks
  obtain ⟨f1, f2⟩ := vx_frame hsame
  rw [hhp] at f1 f2
  have hWs : s.WarmedH U.vm := State.WarmedH.trans hW0 hW
  have hcl : s.vm.findClass cls = some ce.cls := by
    have h9 := hO.cls
    rw [hvm] at h9
    exact h9
  have hall : s.sameButNew ({ U with vm := s.vm } : State) locs mc ms := by
    subst hA
    obtain ⟨e1, e2⟩ := hsame
    rw [State.setFrames_setFrames] at e1
    have h2 : (T.setVm s.vm).sameButNew ({ U with vm := s.vm } : State) [] (0 + 1) (0 + 6) := ⟨e1, e2⟩
    have h3 := X.same.trans h2
    rw [List.append_nil] at h3
    exact h3.mono hc hs
  refine ⟨U, ?_, .threw T.heap.size, hrun, hend, Or.inr ⟨T.heap.size, rfl, cls, ce, locs, hx U hWs.alike f1 (fun q hq => f2 q hq (fun z hz => nomatch hz)), hce, hO.vm, hcl, hWs, hall, hf⟩⟩
  refine st1 _ ?_
  show Steps p.tables e below (T1.setTop { method := m, pc := pc + 3, locals := ls, stack := .ref T.heap.size :: rest, locked := none }) _
  jvm_step X₁.here [X₁.here.top, hexec, d3', Value.category]
  exact X₁.ldcStringW hexec (own := own) (text := text) (index := is) (a := sa) hown' hstr'.1 hstr'.2
    (g := { method := m, pc := pc + 4, locals := ls, stack := .ref T.heap.size :: .ref T.heap.size :: rest, locked := none }) rfl d4' _ hsteps
end Ends
section Bodies
variable {l : Launch}
theorem vx_ofW {y : MethodName} {ws ws' : List Cond} {rm : Room} {Pc : Array Value → State → Prop} {Qc : Array Value → State → Outcome → State → Prop} {XC : String → State → State → Prop} {mc ms : Nat} {free : Addr → Prop} {cc : ByteArray} {maxL : Nat} {ret : Option FieldType}
    (hy : plainName y.cls = true) (hw : ws = Cond.code y cc maxL ret :: ws')
    (body : ∀ p e s m args below meth c s₁, BodyLoose p l y (headSpec ws rm) cc maxL ret e s m args below meth c s₁ → c.maxLocals = maxL → (∀ x ∈ c.exceptionTable.toList, False) → Pc args s →
      W p l e (headSpec ws rm).room s m args below meth c s.heap [] 0 0 (vx_MQ below Qc XC args s mc ms free) (entryFrame m args maxL)) : vx_Met l y ws rm Pc Qc XC mc ms free := by
  refine MetFree.of_bodyS (code := cc) (maxLocals := maxL) (ret := ret) hy ?_ ?_
  · intro args s m h hn
    obtain ⟨meth, c, h1, h2, h3, h4, h5, h6, -, -⟩ := Cond.code_spec hn (atoms_spec (ws := ws) h _ (by rw [hw]; exact List.mem_cons_self))
    exact ⟨meth, c, h1, h2, h3, h4, h5, h6⟩
  · intro p e s m args below meth c s₁ B hml hP _
    have hh0 : s₁.heap = s.heap := by rw [B.state]; rfl
    have ht : ∀ x ∈ c.exceptionTable.toList, False := by
      obtain ⟨meth9, c9, h1, h2, -, -, -, -, h7, -⟩ := Cond.code_spec B.named (atoms_spec (ws := ws) B.pre _ (by rw [hw]; exact List.mem_cons_self))
      cases Option.some.inj (h1.symm.trans B.method)
      cases Option.some.inj (h2.symm.trans (Stand.of_body B).code)
      intro x hx
      rw [Array.isEmpty_iff.mp h7] at hx
      cases hx
    obtain ⟨t, a1, o, b1, b2, b3⟩ := body p e s m args below meth c s₁ B hml ht hP s₁ hh0 (Stand.of_body B)
    exact ⟨t, o, a1, b1, b2, b3⟩
/-- the table of a body with handlers -/
theorem vx_table {p : Program} {x y : MethodName} {S : Spec} {cc bytes : ByteArray} {maxL maxL' : Nat} {ret ret' : Option FieldType} {e : Env} {s s₁ : State} {m : MethodId} {args : Array Value} {below : List Frame} {meth : Method} {c : Code} {hh : List (Nat × Nat × Nat × Nat)}
    (B : BodyLoose p l y S cc maxL ret e s m args below meth c s₁) (h : (Cond.codeWith y bytes maxL' ret' hh).before args s = true) : c.exceptionTable.toList = tableOf hh := by
  obtain ⟨m9, meth9, c9, hn9, h1, h2, -, -, h6, -⟩ := Cond.codeWith_spec h
  cases Option.some.inj (hn9.symm.trans B.named)
  cases Option.some.inj (h1.symm.trans B.method)
  cases Option.some.inj (h2.symm.trans (Stand.of_body B).code)
  rw [← h6, table_eq]
end Bodies
end VXA
/-! ===== END ===== -/
/-! ===== BEGIN a static call of a method with an exception table ===== -/
section VXS
variable {p : Program} {l : Launch} {e : Env} {R : Room} {s : State} {m : MethodId} {args : Array Value} {below : List Frame} {meth : Method} {c : Code} {T : State} {H : Heap} {locs : List Loc} {cells slots : Nat}
abbrev vx_CSW (R : Room) (s : State) (args : Array Value) (own : String) (index : Nat) (y : MethodName) (bytes : ByteArray) (maxL : Nat) (ret : Option FieldType) (hh : List (Nat × Nat × Nat × Nat)) (ws : List Cond) (rm : Room) (mc ms n : Nat) : Prop :=
  (rm.cells = mc ∧ rm.slots = ms ∧ rm.frames + 1 ≤ R.frames ∧ 8 + (maxL + 11) + rm.locals ≤ R.locals ∧ (∀ w ∈ ws, ∀ (a' : Array Value) (U : State), s.WarmedH U.vm → w.before a' U = true) ∧ Cond.codeWith y bytes maxL ret hh ∈ ws) ∧
  (Cond.codeWith y bytes maxL ret hh).before args s = true ∧ (Cond.initialized y.cls).before args s = true ∧ (y.cls ≠ "java/lang/invoke/MethodHandle" ∧ y.cls ≠ "java/lang/invoke/VarHandle") ∧
  (∀ sig, parseMethodDescriptor y.desc = some sig → n = sig.parameters.length) ∧ (Cond.methodLink own index y).before args s = true ∧ (Cond.static y).before args s = true
theorem vx_cwSW {own : String} {index maxL mc ms : Nat} {y : MethodName} {bytes : ByteArray} {ret : Option FieldType} {hh : List (Nat × Nat × Nat × Nat)} {Ts ws ws' : List Cond} {rm : Room} (n : Nat) (ht : ∀ w ∈ Ts, w.before args s = true) (hT : GoodIn Ts (va_wsS own index y ws)) (hw : ws = Cond.codeWith y bytes maxL ret hh :: ws') (hrc : rm.cells = mc) (hrs : rm.slots = ms)
    (hd : y.cls ≠ "java/lang/invoke/MethodHandle" ∧ y.cls ≠ "java/lang/invoke/VarHandle" ∧ (parseMethodDescriptor y.desc).map (fun d => d.parameters.length) = some n) (hR : rm.frames + 1 ≤ R.frames ∧ 8 + (maxL + 11) + rm.locals ≤ R.locals) :
    vx_CSW R s args own index y bytes maxL ret hh ws rm mc ms n := by
  have ok : ∀ w ∈ va_wsS own index y ws, w.before args s = true := fun w h => ht w (hT w h).1
  have hG : GoodIn Ts ws := fun w h => hT w (by unfold va_wsS; exact List.mem_append_right _ h)
  have hc : Cond.codeWith y bytes maxL ret hh ∈ ws := by rw [hw]; exact List.mem_cons_self
  refine ⟨⟨hrc, hrs, hR.1, hR.2, pay_in ht hG, hc⟩, ht _ (hG _ hc).1, ok _ (by simp [va_wsS]), ⟨hd.1, hd.2.1⟩, fun sig h => ?_, ok _ (by simp [va_wsS]), ok _ (by simp [va_wsS])⟩
  have h2 := hd.2.2
  rw [h] at h2
  exact (Option.some.inj h2).symm
theorem vx_callSW (X : Stand p l e R s m args below meth c T locs cells slots) (hexec : p.tables.exec = Jvm.exec) {own : String} {index : Nat} {y : MethodName} {bytes : ByteArray} {maxL : Nat} {ret : Option FieldType} {hh : List (Nat × Nat × Nat × Nat)}
    (hown : s.vm.findClass own = some m.cls) (hlink : (Cond.methodLink own index y).before args s = true) (hstat : (Cond.static y).before args s = true) (hinit : (Cond.initialized y.cls).before args s = true)
    (hcode : (Cond.codeWith y bytes maxL ret hh).before args s = true) (hy : y.cls ≠ "java/lang/invoke/MethodHandle" ∧ y.cls ≠ "java/lang/invoke/VarHandle")
    {W9 : Nat} {Pre : Pt → Array Value → Prop} {Post : Pt → Array Value → Option Value → Pt → Prop} (hK : Back l R p e below s args y 3 W9 Pre Post)
    {g : JFrame} (hg : g.method = m) (hsize : g.locals.size = c.maxLocals) {argsL rest : List Value} (hlen : ∀ sig, parseMethodDescriptor y.desc = some sig → argsL.length = sig.parameters.length)
    (hstack : g.stack = argsL.reverse ++ rest) (hW : 2 * g.monitorRoom + (rest.map fun v => v.category).sum ≤ W9) (hdg : decode c.code g.pc = .ok (.invokestatic index, 3))
    (hpre : ∀ vm₁, s.WarmedH vm₁ → Pre ⟨T.setVm vm₁, locs, cells, slots⟩ argsL.toArray) :
    ∃ (v : Option Value) (vm₁ : Vm) (B : Pt), s.WarmedH vm₁ ∧ Stand p l e R s m args below meth c B.U B.locs B.cells B.slots ∧ Post ⟨T.setVm vm₁, locs, cells, slots⟩ argsL.toArray v B ∧
      ∀ target, Steps p.tables e below (B.U.setTop { g with pc := g.pc + 3, stack := v.toList ++ rest }) target → Steps p.tables e below (T.setTop g) target := by
  obtain ⟨mk, methM, cM, hnamed, hmethM, -, -, -, -, -, -, hsigM⟩ := Cond.codeWith_spec hcode
  have hstatic : methM.isStatic = true := Cond.static_spec hnamed hmethM hstat
  obtain ⟨kP, hkP, -⟩ := className_of_methodNamed hnamed
  have hinitP : kP.init = .initialized := Cond.initialized_spec (findClass_of_methodNamed hnamed) hkP hinit
  obtain ⟨vm₁, X₁, hstep₁⟩ := X.invokestatic hexec hown hlink hnamed hmethM hstatic hkP hinitP hy (g := g) hg (argsL := argsL) (rest := rest) (hlen _ hsigM) hstack hdg
  obtain ⟨v, B, X', hpost, hsteps⟩ := hK m meth c ⟨T.setVm vm₁, locs, cells, slots⟩ { g with stack := rest } (.invokestatic index) mk argsL.toArray X₁ hg hsize hdg hW (X₁.named hnamed) (hpre vm₁ X₁.warmed)
  exact ⟨v, vm₁, B, X₁.warmed, X', hpost, fun target h => hstep₁ _ fun acts => by rw [doInvoke_state]; exact hsteps.trans h⟩
theorem vx_runSW {y : MethodName} {bytes cc : ByteArray} {maxL nL mc ms n index : Nat} {ret : Option FieldType} {hh : List (Nat × Nat × Nat × Nat)} {ws : List Cond} {rm : Room} {Pc : Array Value → State → Prop} {Qc : Array Value → State → Outcome → State → Prop} {free : Addr → Prop} {Ts : List Cond} {own : String} {As rest : List Value} {g : JFrame}
    (S : CallFix p m c cc nL s args Ts own) (hM : Met l y ws rm Pc Qc mc ms free) (cw : vx_CSW R s args own index y bytes maxL ret hh ws rm mc ms n) (hp : PreS s H Pc As)
    (hg : g.method = m) (hn : As.length = n) (hsize : g.locals.size = nL) (hstack : g.stack = As.reverse ++ rest) (hW : 2 * g.monitorRoom + (rest.map fun v => v.category).sum ≤ 8) (hdg : decode cc g.pc = .ok (.invokestatic index, 3)) (hf : cells + mc ≤ R.cells ∧ slots + ms ≤ R.slots) :
    va_Run p l e R s m args below meth c H locs cells slots mc ms g rest (Qc As.toArray) (free) := by
  obtain ⟨⟨hrc, hrs, hfr, hlo, hws, hcw⟩, hcode, hini, hy, hlen, hl, hstt⟩ := cw
  have hK : Back l R p e below s args y 3 8 (PreOf R mc ms Pc) (PostOf Qc mc ms free) := va_backW (hh := hh) (bytes := bytes) (maxL := maxL) (ret := ret) hM hp.1 hrc hrs hfr hlo hws hcw (fun a' U hW => word_at hW (Or.inl (by first | rfl | simp [Cond.onTables, Cond.keeps, Cond.steady])) hini)
  obtain ⟨hx, hb, hml, ho, -⟩ := S
  intro T hT X
  obtain ⟨v, vm₁, ⟨U', l2, c2, s2⟩, hW₁, X', ⟨g', mk, t, L, e1, e2, hq, h1, hL, h2, h3⟩, st⟩ := vx_callSW X hx (hh := hh) (bytes := bytes) (maxL := maxL) (ret := ret) ho hl hstt hini hcode hy hK hg (hsize.trans hml.symm) (argsL := As) (rest := rest) (fun sig h => hn.trans (hlen sig h)) hstack hW (by rw [hb]; exact hdg)
    (fun vm₁ hW₁ => ⟨hf.1, hf.2, hp.2 (T.setVm vm₁) hT hW₁⟩)
  dsimp only [Pt.U, Pt.locs, Pt.cells, Pt.slots] at X' e1 e2 h1 h2 h3 st
  subst h1; subst h2; subst h3
  exact ⟨v, (T.setVm vm₁).calling g' mk As.toArray, t, U', L, hT, X', hL, e1, e2, hq, st⟩
/-- not caught here, past rows that name other classes: it goes on to the caller -/
theorem vx_outP {p : Program} {l : Launch} {e : Env} {R : Room} {s : State} {m : MethodId} {args : Array Value} {below : List Frame} {meth : Method} {c : Code} {H : Heap} {locs : List Loc} {cells slots : Nat} {free : Addr → Prop} {ls : Array Slot} {rest : List Value} {Qc : Array Value → State → Outcome → State → Prop} {XC : String → State → State → Prop}
    {pc : Nat} {own E : String} {ce : Cell} {q : Addr} {mc ms : Nat} (hown : s.vm.findClass own = some m.cls) (hlocks : meth.locks = false)
    (hpass : ∀ z ∈ c.exceptionTable.toList, covers z pc = false ∨ (z.catchType ≠ 0 ∧ ∃ nm : String, (Cond.classLink own z.catchType nm).before args s = true ∧ va_Nc E nm s)) (hcell : H[q]? = some ce) (hv : ce.vm = .none) (hcl : s.vm.findClass E = some ce.cls)
    (hx : ∀ t : State, t.heap = H → s.vm.Alike t.vm → XC E s t) (hf : ∀ z ∈ locs, free z.base) (hc : cells ≤ mc) (hs : slots ≤ ms) :
    vx_W p l e R s m args below meth c H locs cells slots (vx_MQ below Qc XC args s mc ms free) (F0 m pc ls rest) q := by
  intro T hT X
  have hpl : e.platform.magicAccessors = ({} : Platform).magicAccessors := by rw [X.admits.platform]
  obtain ⟨vm', hW', X', st⟩ := X.outThrough hlocks q (g := F0 m pc ls rest) rfl rfl rfl (cell := ce) (by rw [hT]; exact hcell) (by rw [hv]; rfl)
    (by obtain ⟨k9, h9, -⟩ := Vm.findClass_spec hcl; exact ⟨k9, h9⟩) (fun z hz => by
      rcases hpass z hz with h | ⟨hz0, nm, hl1, hn1⟩
      · exact Or.inl h
      · obtain ⟨c6, hc6, hcl6⟩ := Cond.classLink_spec hown hl1 e.platform hpl
        obtain ⟨a8, b8, h1, h2, h3⟩ := hn1
        cases Option.some.inj (h1.symm.trans hcl)
        cases Option.some.inj (h2.symm.trans hc6)
        exact Or.inr ⟨hz0, _, hcl6, h3⟩)
  obtain ⟨g₀, hfr⟩ := X'.frames_eq
  have hcell9 : ((T.setVm vm').setFrames (.throwing q :: below)).heap[q]? = some ce := by
    show T.heap[q]? = some ce
    rw [hT]; exact hcell
  have hend : Ended ((T.setVm vm').setFrames (.throwing q :: below)) below (.threw q) := State.frames_setFrames _ (State.cur_lt_of_frames hfr)
  refine ⟨(T.setVm vm').setFrames (.throwing q :: below), ?_, .threw q, X'.here.running, hend, Or.inr ⟨q, rfl, E, ce, locs, hx _ hT (X'.ends _).1.alike, hcell9, hv, hcl, (X'.ends _).1, (X'.ends _).2.mono hc hs, hf⟩⟩
  rw [X.pushThrowing_eq]
  exact st
/-- a thing of a world lies in the heap -/
theorem vx_lt {D : va_G} {cl : List vw_C} {ws : va_W} {H1 : Heap} (h : va_P D cl ws H1) {k : Nat} {q : Nat × va_E} (hk : ws[k]? = some q) : q.1 < H1.size := (h k q hk).lt
end VXS
/-! ===== END ===== -/
/-! ===== BEGIN methods with a table of their own: called by a name, returning or throwing ===== -/
section VXH
/-! vx_backW, vx_callVX, vx_callSX, vx_callVW, vx_runVW, vx_runVX, vx_runSX, vx_ofWH follow the same proofs as their sisters above (Free/Laws.lean, Shelf42/LK1.lean); vx_outP calls Shelf42/NT130.lean (outThrough). -/
section
variable {l : Launch} {R : Room} {p : Program} {e : Env} {below : List Frame} {s : State} {sargs : Array Value} {y : MethodName} {len W9 : Nat}
theorem vx_backW {ws : List Cond} {rm : Room} {Pc : Array Value → State → Prop} {Qc : Array Value → State → Outcome → State → Prop} {XC : String → State → State → Prop} {mc ms : Nat} {free : Addr → Prop} {bytes : ByteArray} {maxL : Nat} {ret : Option FieldType} {hh : List (Nat × Nat × Nat × Nat)}
    (hM : vx_Met l y ws rm Pc Qc XC mc ms free) (hblind : FrameBlind Pc) (hrc : rm.cells = mc) (hrs : rm.slots = ms)
    (hframes : rm.frames + 1 ≤ R.frames) (hlocals : W9 + (maxL + 11) + rm.locals ≤ R.locals)
    (hws : ∀ w ∈ ws, ∀ a' U, s.WarmedH U.vm → w.before a' U = true) (hcode : Cond.codeWith y bytes maxL ret hh ∈ ws) (hinit : ∀ a' U, s.WarmedH U.vm → (Cond.initialized y.cls).before a' U = true) :
    vx_Back l R p e below s sargs y len W9 (PreOf R mc ms Pc) (PostOf Qc mc ms free) (vx_Post XC mc ms free) := by
  intro m meth c A g ig mk a X hg hsize hdg hW hn hp
  have h1 : (headSpec ws rm).pre.before a A.U = true := atoms_intro fun w hw => hws w hw _ _ X.warmed
  have h2 : (Cond.codeWith y bytes maxL ret hh).before a A.U = true := hws _ hcode _ _ X.warmed
  have h3 : (Cond.initialized y.cls).before a A.U = true := hinit _ _ X.warmed
  have h4 : A.cells + (headSpec ws rm).room.cells ≤ R.cells := by rw [show (headSpec ws rm).room.cells = mc from hrc]; exact hp.1
  have h5 : A.slots + (headSpec ws rm).room.slots ≤ R.slots := by rw [show (headSpec ws rm).room.slots = ms from hrs]; exact hp.2.1
  have hPc : Pc a (A.U.calling g mk a) := hblind _ _ _ _ hp.2.2
  obtain ⟨U, Ls, c0, s0⟩ := A
  dsimp only [Pt.U, Pt.locs, Pt.cells, Pt.slots] at h1 h2 h3 h4 h5 X hn hPc ⊢
  obtain ⟨m9, methY, cY, hn9, hmY, hcY, -, hlY, -⟩ := Cond.codeWith_spec h2
  cases Option.some.inj (hn9.symm.trans hn)
  obtain ⟨kY, hkY, -⟩ := className_of_methodNamed hn
  have hinitY : kY.init = .initialized := Cond.initialized_spec (findClass_of_methodNamed hn) hkY h3
  have h : At U g.method c below := by rw [hg]; exact X.here
  have hlocals9 : W9 + (maxL + 11) + (headSpec ws rm).room.locals ≤ R.locals := hlocals
  have happ : (headSpec ws rm).appliesLoose y e.platform (U.calling g mk a) = true :=
    Spec.appliesLoose_calling (g := g) h hdg hn hkY hinitY
      (X.room_calling (g := g) (R' := (headSpec ws rm).room) hsize hmY hcY hframes (by rw [hlY]; omega) h4 h5) h1
  obtain ⟨mid, hmid⟩ := h.above
  have hfr : (U.setTop g).frames = (.java g :: mid) ++ below := by rw [State.frames_setTop' g h.top, hmid]; rfl
  obtain ⟨o, s₂, hsteps, -, hend, hq⟩ := Steps.callFree hM p X.admits X.cas X.clock (acts := []) hfr happ hPc trivial
  have hq' : vx_Q Qc XC mc ms free a (U.calling g mk a) o s₂ := hq
  rw [State.frames_setTop' g h.top] at hend
  obtain ⟨g₀, hg0⟩ := Option.isSome_iff_exists.mp h.top
  obtain ⟨r, hr⟩ := State.topJava?_eq_some.mp hg0
  have hr' : (({ U with heap := s₂.heap, slotsUsed := s₂.slotsUsed } : State).setVm s₂.vm).frames = .java g₀ :: r := hr
  rcases hq' with ⟨hqc, L, hfe, hL⟩ | ⟨q, rfl, E, ce, L, hx, hce, hcv, hcl, hW₂, hsm, hL⟩
  · obtain ⟨⟨v, rfl⟩, hW₂, e2, q2, q3, q4, q5, q6⟩ := id hfe
    have e3 : s₂ = ({ (U.calling g mk a).setFrames s₂.frames with heap := s₂.heap, slotsUsed := s₂.slotsUsed } : State).setVm s₂.vm := by
      have : s₂ = ({ s₂ with vm := (U.calling g mk a).vm } : State).setVm s₂.vm := rfl
      rw [e2] at this
      exact this
    obtain ⟨c₂, i₂, len₂, hc₂, hd₂, hf₂⟩ := hend
    have hW' : U.WarmedH s₂.vm := hW₂
    have hcc : c₂ = c := by
      have h1 : s₂.code? g.method = U.code? g.method := by
        rw [State.code?_eq, State.code?_eq, hW'.alike.method?]
      exact Option.some.inj (hc₂.symm.trans (h1.trans h.code))
    subst hcc
    have hlen : len₂ = len := by rw [hdg] at hd₂; cases hd₂; rfl
    subst hlen
    have hs₂ : s₂ = (({ U with heap := s₂.heap, slotsUsed := s₂.slotsUsed } : State).setVm s₂.vm).setTop { g with pc := g.pc + len₂, stack := v.toList ++ g.stack } := by
      refine e3.trans ?_
      rw [hf₂, State.calling_eq h.top, State.setFrames_setFrames, State.setTop_of_frames _ hr', hr]
      rfl
    have hsame : U.sameButNew ({ U with heap := s₂.heap, slotsUsed := s₂.slotsUsed } : State) L mc ms := by
      refine ⟨?_, q2, q3, q4, q5, q6⟩
      obtain ⟨t, ht, -⟩ := State.frames_cons hr
      show ({ U with heap := s₂.heap, slotsUsed := s₂.slotsUsed } : State) = { U.setFrames U.frames with heap := s₂.heap, slotsUsed := s₂.slotsUsed }
      rw [State.setFrames_self ht]
    subst hg
    refine Or.inl ⟨v, ⟨(({ U with heap := s₂.heap, slotsUsed := s₂.slotsUsed } : State).setVm s₂.vm), Ls ++ L, c0 + mc, s0 + ms⟩,
      ⟨X.admits, X.cas, X.clock, X.frames, X.room, X.hears, X.method, X.code, (X.here.setHeapUsed s₂.heap s₂.slotsUsed).setVm hW'.alike, X.tail, State.WarmedH.trans X.warmed hW', X.limits, X.bytes, X.same.trans (hsame.setVm s.vm)⟩,
      ⟨g, mk, s₂, L, rfl, rfl, hqc, rfl, hL, rfl, rfl⟩, ?_⟩
    show Steps p.tables e below _ ((({ U with heap := s₂.heap, slotsUsed := s₂.slotsUsed } : State).setVm s₂.vm).setTop { g with pc := g.pc + len₂, stack := v.toList ++ g.stack })
    rw [← hs₂]
    exact hsteps
  · obtain ⟨e2, q2, q3, q4, q5, q6⟩ := id hsm
    have e3 : s₂ = ({ (U.calling g mk a).setFrames s₂.frames with heap := s₂.heap, slotsUsed := s₂.slotsUsed } : State).setVm s₂.vm := by
      have : s₂ = ({ s₂ with vm := (U.calling g mk a).vm } : State).setVm s₂.vm := rfl
      rw [e2] at this
      exact this
    have hf₂ : s₂.frames = .throwing q :: .java g :: U.frames.tail := hend
    have hW' : U.WarmedH s₂.vm := hW₂
    have hs₂ : s₂ = ((({ U with heap := s₂.heap, slotsUsed := s₂.slotsUsed } : State).setVm s₂.vm).setTop g).pushFrame (.throwing q) := by
      refine e3.trans ?_
      rw [hf₂, State.calling_eq h.top, State.setFrames_setFrames, State.pushFrame, State.frames_setTop _ hr', State.setTop_of_frames _ hr', State.setFrames_setFrames, hr]
      rfl
    have hsame : U.sameButNew ({ U with heap := s₂.heap, slotsUsed := s₂.slotsUsed } : State) L mc ms := by
      refine ⟨?_, q2, q3, q4, q5, q6⟩
      obtain ⟨t, ht, -⟩ := State.frames_cons hr
      show ({ U with heap := s₂.heap, slotsUsed := s₂.slotsUsed } : State) = { U.setFrames U.frames with heap := s₂.heap, slotsUsed := s₂.slotsUsed }
      rw [State.setFrames_self ht]
    subst hg
    refine Or.inr ⟨q, ⟨(({ U with heap := s₂.heap, slotsUsed := s₂.slotsUsed } : State).setVm s₂.vm), Ls ++ L, c0 + mc, s0 + ms⟩,
      ⟨X.admits, X.cas, X.clock, X.frames, X.room, X.hears, X.method, X.code, (X.here.setHeapUsed s₂.heap s₂.slotsUsed).setVm hW'.alike, X.tail, State.WarmedH.trans X.warmed hW', X.limits, X.bytes, X.same.trans (hsame.setVm s.vm)⟩,
      ⟨g, mk, s₂, L, E, ce, rfl, rfl, hx, hce, hcv, hcl, rfl, hL, rfl, rfl⟩, ?_⟩
    show Steps p.tables e below _ (((({ U with heap := s₂.heap, slotsUsed := s₂.slotsUsed } : State).setVm s₂.vm).setTop g).pushFrame (.throwing q))
    rw [← hs₂]
    exact hsteps
end
variable {p : Program} {l : Launch} {e : Env} {R : Room} {s : State} {m : MethodId} {args : Array Value} {below : List Frame} {meth : Method} {c : Code} {T : State} {H : Heap} {locs : List Loc} {cells slots : Nat}
theorem vx_callVX (X : Stand p l e R s m args below meth c T locs cells slots) (hexec : p.tables.exec = Jvm.exec) {own C : String} {index : Nat} {y : MethodName} {bytes : ByteArray} {maxL : Nat} {ret : Option FieldType} {hh : List (Nat × Nat × Nat × Nat)}
    (hown : s.vm.findClass own = some m.cls) (hlink : (Cond.methodLink own index y).before args s = true) (hinst : (Cond.instanceMethod y).before args s = true) (hsel : (Cond.selects C y y).before args s = true)
    (hcode : (Cond.codeWith y bytes maxL ret hh).before args s = true) (hy : y.cls ≠ "java/lang/invoke/MethodHandle" ∧ y.cls ≠ "java/lang/invoke/VarHandle")
    {W9 : Nat} {Pre : Pt → Array Value → Prop} {Post : Pt → Array Value → Option Value → Pt → Prop} {PostX : Pt → Array Value → Addr → Pt → Prop} (hK : vx_Back l R p e below s args y 3 W9 Pre Post PostX)
    {b : Addr} {cellB : Cell} (hcell : T.heap[b]? = some cellB) (hobj : cellB.vm.isStatics = false) (hcls : s.vm.findClass C = some cellB.cls)
    {g : JFrame} (hg : g.method = m) (hsize : g.locals.size = c.maxLocals) {argsL rest : List Value} (hlen : ∀ sig, parseMethodDescriptor y.desc = some sig → argsL.length = sig.parameters.length)
    (hstack : g.stack = argsL.reverse ++ .ref b :: rest) (hW : 2 * g.monitorRoom + (rest.map fun v => v.category).sum ≤ W9) (hdg : decode c.code g.pc = .ok (.invokevirtual index, 3))
    (hpre : ∀ vm₁, s.WarmedH vm₁ → Pre ⟨T.setVm vm₁, locs, cells, slots⟩ (Value.ref b :: argsL).toArray) :
    (∃ (v : Option Value) (vm₁ : Vm) (B : Pt), s.WarmedH vm₁ ∧ Stand p l e R s m args below meth c B.U B.locs B.cells B.slots ∧ Post ⟨T.setVm vm₁, locs, cells, slots⟩ (Value.ref b :: argsL).toArray v B ∧
      ∀ target, Steps p.tables e below (B.U.setTop { g with pc := g.pc + 3, stack := v.toList ++ rest }) target → Steps p.tables e below (T.setTop g) target) ∨
    (∃ (q : Addr) (vm₁ : Vm) (B : Pt), s.WarmedH vm₁ ∧ Stand p l e R s m args below meth c B.U B.locs B.cells B.slots ∧ PostX ⟨T.setVm vm₁, locs, cells, slots⟩ (Value.ref b :: argsL).toArray q B ∧
      Steps p.tables e below (T.setTop g) ((B.U.setTop { g with stack := rest }).pushFrame (.throwing q))) := by
  obtain ⟨mk, methM, hnamed, hmethM, hstM, habM⟩ := Cond.instanceMethod_spec hinst
  obtain ⟨m8, methM', cM, hn8, hmethM', -, -, -, -, -, -, hsigM⟩ := Cond.codeWith_spec hcode
  cases Option.some.inj (hn8.symm.trans hnamed)
  cases hmethM.symm.trans hmethM'
  obtain ⟨c2, r2, m2, q1, q2, q3, q4, kP, hkP, hkPi⟩ := Cond.selects_spec hsel
  cases hcls.symm.trans q1
  cases (State.methodFound?_of_named hnamed hy).symm.trans q2
  cases hnamed.symm.trans q3
  have hselP : selectMethod e.platform s.vm cellB.cls mk = .method mk := by rw [Launch.admits_selectMethod X.admits]; exact q4
  obtain ⟨vm₁, X₁, hstep₁⟩ := X.invokevirtual hexec hown hlink hnamed hmethM hstM hkP hkPi hy (a := b) (cell := cellB) hcell
    (fun z h => by rw [h] at hobj; cases hobj) hselP hmethM habM hkP hkPi (g := g) hg (argsL := argsL) (rest := rest) (hlen _ hsigM) hstack hdg
  rcases hK m meth c ⟨T.setVm vm₁, locs, cells, slots⟩ { g with stack := rest } (.invokevirtual index) mk (Value.ref b :: argsL).toArray X₁ hg hsize hdg hW (X₁.named hnamed) (hpre vm₁ X₁.warmed) with ⟨v, B, X', hpost, hsteps⟩ | ⟨q, B, X', hpost, hsteps⟩
  · exact Or.inl ⟨v, vm₁, B, X₁.warmed, X', hpost, fun target h => hstep₁ _ fun acts => by rw [doInvoke_state]; exact hsteps.trans h⟩
  · exact Or.inr ⟨q, vm₁, B, X₁.warmed, X', hpost, hstep₁ _ fun acts => by rw [doInvoke_state]; exact hsteps⟩
theorem vx_callSX (X : Stand p l e R s m args below meth c T locs cells slots) (hexec : p.tables.exec = Jvm.exec) {own : String} {index : Nat} {y : MethodName} {bytes : ByteArray} {maxL : Nat} {ret : Option FieldType} {hh : List (Nat × Nat × Nat × Nat)}
    (hown : s.vm.findClass own = some m.cls) (hlink : (Cond.methodLink own index y).before args s = true) (hstat : (Cond.static y).before args s = true) (hinit : (Cond.initialized y.cls).before args s = true)
    (hcode : (Cond.codeWith y bytes maxL ret hh).before args s = true) (hy : y.cls ≠ "java/lang/invoke/MethodHandle" ∧ y.cls ≠ "java/lang/invoke/VarHandle")
    {W9 : Nat} {Pre : Pt → Array Value → Prop} {Post : Pt → Array Value → Option Value → Pt → Prop} {PostX : Pt → Array Value → Addr → Pt → Prop} (hK : vx_Back l R p e below s args y 3 W9 Pre Post PostX)
    {g : JFrame} (hg : g.method = m) (hsize : g.locals.size = c.maxLocals) {argsL rest : List Value} (hlen : ∀ sig, parseMethodDescriptor y.desc = some sig → argsL.length = sig.parameters.length)
    (hstack : g.stack = argsL.reverse ++ rest) (hW : 2 * g.monitorRoom + (rest.map fun v => v.category).sum ≤ W9) (hdg : decode c.code g.pc = .ok (.invokestatic index, 3))
    (hpre : ∀ vm₁, s.WarmedH vm₁ → Pre ⟨T.setVm vm₁, locs, cells, slots⟩ argsL.toArray) :
    (∃ (v : Option Value) (vm₁ : Vm) (B : Pt), s.WarmedH vm₁ ∧ Stand p l e R s m args below meth c B.U B.locs B.cells B.slots ∧ Post ⟨T.setVm vm₁, locs, cells, slots⟩ argsL.toArray v B ∧
      ∀ target, Steps p.tables e below (B.U.setTop { g with pc := g.pc + 3, stack := v.toList ++ rest }) target → Steps p.tables e below (T.setTop g) target) ∨
    (∃ (q : Addr) (vm₁ : Vm) (B : Pt), s.WarmedH vm₁ ∧ Stand p l e R s m args below meth c B.U B.locs B.cells B.slots ∧ PostX ⟨T.setVm vm₁, locs, cells, slots⟩ argsL.toArray q B ∧
      Steps p.tables e below (T.setTop g) ((B.U.setTop { g with stack := rest }).pushFrame (.throwing q))) := by
  obtain ⟨mk, methM, cM, hnamed, hmethM, -, -, -, -, -, -, hsigM⟩ := Cond.codeWith_spec hcode
  have hstatic : methM.isStatic = true := Cond.static_spec hnamed hmethM hstat
  obtain ⟨kP, hkP, -⟩ := className_of_methodNamed hnamed
  have hinitP : kP.init = .initialized := Cond.initialized_spec (findClass_of_methodNamed hnamed) hkP hinit
  obtain ⟨vm₁, X₁, hstep₁⟩ := X.invokestatic hexec hown hlink hnamed hmethM hstatic hkP hinitP hy (g := g) hg (argsL := argsL) (rest := rest) (hlen _ hsigM) hstack hdg
  rcases hK m meth c ⟨T.setVm vm₁, locs, cells, slots⟩ { g with stack := rest } (.invokestatic index) mk argsL.toArray X₁ hg hsize hdg hW (X₁.named hnamed) (hpre vm₁ X₁.warmed) with ⟨v, B, X', hpost, hsteps⟩ | ⟨q, B, X', hpost, hsteps⟩
  · exact Or.inl ⟨v, vm₁, B, X₁.warmed, X', hpost, fun target h => hstep₁ _ fun acts => by rw [doInvoke_state]; exact hsteps.trans h⟩
  · exact Or.inr ⟨q, vm₁, B, X₁.warmed, X', hpost, hstep₁ _ fun acts => by rw [doInvoke_state]; exact hsteps⟩
theorem vx_callVW (X : Stand p l e R s m args below meth c T locs cells slots) (hexec : p.tables.exec = Jvm.exec) {own C : String} {index : Nat} {y : MethodName} {bytes : ByteArray} {maxL : Nat} {ret : Option FieldType} {hh : List (Nat × Nat × Nat × Nat)}
    (hown : s.vm.findClass own = some m.cls) (hlink : (Cond.methodLink own index y).before args s = true) (hinst : (Cond.instanceMethod y).before args s = true) (hsel : (Cond.selects C y y).before args s = true)
    (hcode : (Cond.codeWith y bytes maxL ret hh).before args s = true) (hy : y.cls ≠ "java/lang/invoke/MethodHandle" ∧ y.cls ≠ "java/lang/invoke/VarHandle")
    {W9 : Nat} {Pre : Pt → Array Value → Prop} {Post : Pt → Array Value → Option Value → Pt → Prop} (hK : Back l R p e below s args y 3 W9 Pre Post)
    {b : Addr} {cellB : Cell} (hcell : T.heap[b]? = some cellB) (hobj : cellB.vm.isStatics = false) (hcls : s.vm.findClass C = some cellB.cls)
    {g : JFrame} (hg : g.method = m) (hsize : g.locals.size = c.maxLocals) {argsL rest : List Value} (hlen : ∀ sig, parseMethodDescriptor y.desc = some sig → argsL.length = sig.parameters.length)
    (hstack : g.stack = argsL.reverse ++ .ref b :: rest) (hW : 2 * g.monitorRoom + (rest.map fun v => v.category).sum ≤ W9) (hdg : decode c.code g.pc = .ok (.invokevirtual index, 3))
    (hpre : ∀ vm₁, s.WarmedH vm₁ → Pre ⟨T.setVm vm₁, locs, cells, slots⟩ (Value.ref b :: argsL).toArray) :
    ∃ (v : Option Value) (vm₁ : Vm) (B : Pt), s.WarmedH vm₁ ∧ Stand p l e R s m args below meth c B.U B.locs B.cells B.slots ∧ Post ⟨T.setVm vm₁, locs, cells, slots⟩ (Value.ref b :: argsL).toArray v B ∧
      ∀ target, Steps p.tables e below (B.U.setTop { g with pc := g.pc + 3, stack := v.toList ++ rest }) target → Steps p.tables e below (T.setTop g) target := by
  obtain ⟨mk, methM, hnamed, hmethM, hstM, habM⟩ := Cond.instanceMethod_spec hinst
  obtain ⟨m8, methM', cM, hn8, hmethM', -, -, -, -, -, -, hsigM⟩ := Cond.codeWith_spec hcode
  cases Option.some.inj (hn8.symm.trans hnamed)
  cases hmethM.symm.trans hmethM'
  obtain ⟨c2, r2, m2, q1, q2, q3, q4, kP, hkP, hkPi⟩ := Cond.selects_spec hsel
  cases hcls.symm.trans q1
  cases (State.methodFound?_of_named hnamed hy).symm.trans q2
  cases hnamed.symm.trans q3
  have hselP : selectMethod e.platform s.vm cellB.cls mk = .method mk := by rw [Launch.admits_selectMethod X.admits]; exact q4
  obtain ⟨vm₁, X₁, hstep₁⟩ := X.invokevirtual hexec hown hlink hnamed hmethM hstM hkP hkPi hy (a := b) (cell := cellB) hcell
    (fun z h => by rw [h] at hobj; cases hobj) hselP hmethM habM hkP hkPi (g := g) hg (argsL := argsL) (rest := rest) (hlen _ hsigM) hstack hdg
  obtain ⟨v, B, X', hpost, hsteps⟩ := hK m meth c ⟨T.setVm vm₁, locs, cells, slots⟩ { g with stack := rest } (.invokevirtual index) mk (Value.ref b :: argsL).toArray X₁ hg hsize hdg hW (X₁.named hnamed) (hpre vm₁ X₁.warmed)
  exact ⟨v, vm₁, B, X₁.warmed, X', hpost, fun target h => hstep₁ _ fun acts => by rw [doInvoke_state]; exact hsteps.trans h⟩
abbrev vx_CVW (R : Room) (s : State) (args : Array Value) (own C : String) (index : Nat) (y : MethodName) (bytes : ByteArray) (maxL : Nat) (ret : Option FieldType) (hh : List (Nat × Nat × Nat × Nat)) (ws : List Cond) (rm : Room) (mc ms n : Nat) : Prop :=
  (rm.cells = mc ∧ rm.slots = ms ∧ rm.frames + 1 ≤ R.frames ∧ 8 + (maxL + 11) + rm.locals ≤ R.locals ∧ (∀ w ∈ ws, ∀ (a' : Array Value) (U : State), s.WarmedH U.vm → w.before a' U = true) ∧ Cond.codeWith y bytes maxL ret hh ∈ ws) ∧
  (Cond.codeWith y bytes maxL ret hh).before args s = true ∧ (Cond.initialized y.cls).before args s = true ∧ (y.cls ≠ "java/lang/invoke/MethodHandle" ∧ y.cls ≠ "java/lang/invoke/VarHandle") ∧
  (∀ sig, parseMethodDescriptor y.desc = some sig → n = sig.parameters.length) ∧ (Cond.methodLink own index y).before args s = true ∧ (Cond.instanceMethod y).before args s = true ∧ (Cond.selects C y y).before args s = true
theorem vx_cwVW {own C : String} {index maxL mc ms : Nat} {y : MethodName} {bytes : ByteArray} {ret : Option FieldType} {hh : List (Nat × Nat × Nat × Nat)} {Ts ws ws' : List Cond} {rm : Room} (n : Nat) (ht : ∀ w ∈ Ts, w.before args s = true) (hT : GoodIn Ts (wsV own index C y ws)) (hw : ws = Cond.codeWith y bytes maxL ret hh :: ws') (hrc : rm.cells = mc) (hrs : rm.slots = ms)
    (hd : y.cls = C ∧ y.cls ≠ "java/lang/invoke/MethodHandle" ∧ y.cls ≠ "java/lang/invoke/VarHandle" ∧ (parseMethodDescriptor y.desc).map (fun d => d.parameters.length) = some n) (hR : rm.frames + 1 ≤ R.frames ∧ 8 + (maxL + 11) + rm.locals ≤ R.locals) :
    vx_CVW R s args own C index y bytes maxL ret hh ws rm mc ms n := by
  obtain ⟨hC, hd⟩ := hd
  subst hC
  have ok : ∀ w ∈ wsV own index y.cls y ws, w.before args s = true := fun w h => ht w (hT w h).1
  have hG : GoodIn Ts ws := fun w h => hT w (by unfold wsV; exact List.mem_append_right _ h)
  have hc : Cond.codeWith y bytes maxL ret hh ∈ ws := by rw [hw]; exact List.mem_cons_self
  refine ⟨⟨hrc, hrs, hR.1, hR.2, pay_in ht hG, hc⟩, ht _ (hG _ hc).1, ok _ (by simp [wsV]), ⟨hd.1, hd.2.1⟩, fun sig h => ?_, ok _ (by simp [wsV]), ok _ (by simp [wsV]), ok _ (by simp [wsV])⟩
  have h2 := hd.2.2
  rw [h] at h2
  exact (Option.some.inj h2).symm
theorem vx_runVW {y : MethodName} {bytes cc : ByteArray} {maxL nL mc ms n index : Nat} {ret : Option FieldType} {hh : List (Nat × Nat × Nat × Nat)} {ws : List Cond} {rm : Room} {Pc : Array Value → State → Prop} {Qc : Array Value → State → Outcome → State → Prop} {free : Addr → Prop} {Ts : List Cond} {own C : String} {b : Addr} {As rest : List Value} {g : JFrame}
    (S : CallFix p m c cc nL s args Ts own) (hM : Met l y ws rm Pc Qc mc ms free) (cw : vx_CVW R s args own C index y bytes maxL ret hh ws rm mc ms n) (hp : PreV s H C b Pc As)
    (hg : g.method = m) (hn : As.length = n) (hsize : g.locals.size = nL) (hstack : g.stack = As.reverse ++ .ref b :: rest) (hW : 2 * g.monitorRoom + (rest.map fun v => v.category).sum ≤ 8) (hdg : decode cc g.pc = .ok (.invokevirtual index, 3)) (hf : cells + mc ≤ R.cells ∧ slots + ms ≤ R.slots) :
    va_Run p l e R s m args below meth c H locs cells slots mc ms g rest (Qc (Value.ref b :: As).toArray) free := by
  obtain ⟨⟨hrc, hrs, hfr, hlo, hws, hcw⟩, hcode, hini, hy, hlen, hl, hin, hse⟩ := cw
  have hK : Back l R p e below s args y 3 8 (PreOf R mc ms Pc) (PostOf Qc mc ms free) := va_backW (hh := hh) (bytes := bytes) (maxL := maxL) (ret := ret) hM hp.1 hrc hrs hfr hlo hws hcw (fun a' U hW => word_at hW (Or.inl (by first | rfl | simp [Cond.onTables, Cond.keeps, Cond.steady])) hini)
  obtain ⟨hx, hb, hml, ho, -⟩ := S
  obtain ⟨-, ⟨cellB, hcB, hoB, hclB⟩, hPc⟩ := hp
  intro T hT X
  obtain ⟨v, vm₁, ⟨U', l2, c2, s2⟩, hW₁, X', ⟨g', mk, t, L, e1, e2, hq, h1, hL, h2, h3⟩, st⟩ := vx_callVW X hx (C := C) (hh := hh) (bytes := bytes) (maxL := maxL) (ret := ret) ho hl hin hse hcode hy hK (by rw [hT]; exact hcB) hoB hclB hg (hsize.trans hml.symm) (argsL := As) (rest := rest) (fun sig h => hn.trans (hlen sig h)) hstack hW (by rw [hb]; exact hdg)
    (fun vm₁ hW₁ => ⟨hf.1, hf.2, hPc (T.setVm vm₁) hT hW₁⟩)
  dsimp only [Pt.U, Pt.locs, Pt.cells, Pt.slots] at X' e1 e2 h1 h2 h3 st
  subst h1; subst h2; subst h3
  exact ⟨v, (T.setVm vm₁).calling g' mk (Value.ref b :: As).toArray, t, U', L, hT, X', hL, e1, e2, hq, st⟩
section
variable {y : MethodName} {bytes cc : ByteArray} {maxL nL mc ms n index : Nat} {ret : Option FieldType} {ws : List Cond} {rm : Room} {Pc : Array Value → State → Prop} {Qc : Array Value → State → Outcome → State → Prop} {XC : String → State → State → Prop} {free : Addr → Prop} {Ts : List Cond} {own C : String} {b : Addr} {As rest : List Value} {g : JFrame}
theorem vx_runVX {hh : List (Nat × Nat × Nat × Nat)} (S : CallFix p m c cc nL s args Ts own) (hM : vx_Met l y ws rm Pc Qc XC mc ms free) (cw : vx_CVW R s args own C index y bytes maxL ret hh ws rm mc ms n) (hp : PreV s H C b Pc As)
    (hg : g.method = m) (hn : As.length = n) (hsize : g.locals.size = nL) (hstack : g.stack = As.reverse ++ .ref b :: rest) (hW : 2 * g.monitorRoom + (rest.map fun v => v.category).sum ≤ 8) (hdg : decode cc g.pc = .ok (.invokevirtual index, 3)) (hf : cells + mc ≤ R.cells ∧ slots + ms ≤ R.slots) :
    vx_Run p l e R s m args below meth c H locs cells slots mc ms g rest (Qc (Value.ref b :: As).toArray) XC free := by
  obtain ⟨⟨hrc, hrs, hfr, hlo, hws, hcw⟩, hcode, hini, hy, hlen, hl, hin, hse⟩ := cw
  have hK : vx_Back l R p e below s args y 3 8 (PreOf R mc ms Pc) (PostOf Qc mc ms free) (vx_Post XC mc ms free) := vx_backW (hh := hh) (bytes := bytes) (maxL := maxL) (ret := ret) hM hp.1 hrc hrs hfr hlo hws hcw (fun a' U hW => word_at hW (Or.inl (by first | rfl | simp [Cond.onTables, Cond.keeps, Cond.steady])) hini)
  obtain ⟨hx, hb, hml, ho, -⟩ := S
  obtain ⟨-, ⟨cellB, hcB, hoB, hclB⟩, hPc⟩ := hp
  intro T hT X
  rcases vx_callVX X hx (C := C) (hh := hh) (bytes := bytes) (maxL := maxL) (ret := ret) ho hl hin hse hcode hy hK (by rw [hT]; exact hcB) hoB hclB hg (hsize.trans hml.symm) (argsL := As) (rest := rest) (fun sig h => hn.trans (hlen sig h)) hstack hW (by rw [hb]; exact hdg)
    (fun vm₁ hW₁ => ⟨hf.1, hf.2, hPc (T.setVm vm₁) hT hW₁⟩) with ⟨v, vm₁, ⟨U', l2, c2, s2⟩, hW₁, X', ⟨g', mk, t, L, e1, e2, hq, h1, hL, h2, h3⟩, st⟩ | ⟨q, vm₁, ⟨U', l2, c2, s2⟩, hW₁, X', ⟨g', mk, t, L, E, ce, e1, e2, hq, hce, hcv, hcl, h1, hL, h2, h3⟩, st⟩
  · dsimp only [Pt.U, Pt.locs, Pt.cells, Pt.slots] at X' e1 e2 h1 h2 h3 st
    subst h1; subst h2; subst h3
    exact Or.inl ⟨v, (T.setVm vm₁).calling g' mk (Value.ref b :: As).toArray, t, U', L, hT, X', hL, e1, e2, hq, st⟩
  · dsimp only [Pt.U, Pt.locs, Pt.cells, Pt.slots] at X' e1 e2 h1 h2 h3 st hcl
    subst h1; subst h2; subst h3
    exact Or.inr ⟨q, (T.setVm vm₁).calling g' mk (Value.ref b :: As).toArray, t, U', L, E, ce, hT, X', hL, e1, e2, hq, hce, hcv, vx_cls hW₁ hcl, st⟩
theorem vx_runSX {hh : List (Nat × Nat × Nat × Nat)} (S : CallFix p m c cc nL s args Ts own) (hM : vx_Met l y ws rm Pc Qc XC mc ms free) (cw : vx_CSW R s args own index y bytes maxL ret hh ws rm mc ms n) (hp : PreS s H Pc As)
    (hg : g.method = m) (hn : As.length = n) (hsize : g.locals.size = nL) (hstack : g.stack = As.reverse ++ rest) (hW : 2 * g.monitorRoom + (rest.map fun v => v.category).sum ≤ 8) (hdg : decode cc g.pc = .ok (.invokestatic index, 3)) (hf : cells + mc ≤ R.cells ∧ slots + ms ≤ R.slots) :
    vx_Run p l e R s m args below meth c H locs cells slots mc ms g rest (Qc As.toArray) XC free := by
  obtain ⟨⟨hrc, hrs, hfr, hlo, hws, hcw⟩, hcode, hini, hy, hlen, hl, hstt⟩ := cw
  have hK : vx_Back l R p e below s args y 3 8 (PreOf R mc ms Pc) (PostOf Qc mc ms free) (vx_Post XC mc ms free) := vx_backW (hh := hh) (bytes := bytes) (maxL := maxL) (ret := ret) hM hp.1 hrc hrs hfr hlo hws hcw (fun a' U hW => word_at hW (Or.inl (by first | rfl | simp [Cond.onTables, Cond.keeps, Cond.steady])) hini)
  obtain ⟨hx, hb, hml, ho, -⟩ := S
  intro T hT X
  rcases vx_callSX X hx (hh := hh) (bytes := bytes) (maxL := maxL) (ret := ret) ho hl hstt hini hcode hy hK hg (hsize.trans hml.symm) (argsL := As) (rest := rest) (fun sig h => hn.trans (hlen sig h)) hstack hW (by rw [hb]; exact hdg)
    (fun vm₁ hW₁ => ⟨hf.1, hf.2, hp.2 (T.setVm vm₁) hT hW₁⟩) with ⟨v, vm₁, ⟨U', l2, c2, s2⟩, hW₁, X', ⟨g', mk, t, L, e1, e2, hq, h1, hL, h2, h3⟩, st⟩ | ⟨q, vm₁, ⟨U', l2, c2, s2⟩, hW₁, X', ⟨g', mk, t, L, E, ce, e1, e2, hq, hce, hcv, hcl, h1, hL, h2, h3⟩, st⟩
  · dsimp only [Pt.U, Pt.locs, Pt.cells, Pt.slots] at X' e1 e2 h1 h2 h3 st
    subst h1; subst h2; subst h3
    exact Or.inl ⟨v, (T.setVm vm₁).calling g' mk As.toArray, t, U', L, hT, X', hL, e1, e2, hq, st⟩
  · dsimp only [Pt.U, Pt.locs, Pt.cells, Pt.slots] at X' e1 e2 h1 h2 h3 st hcl
    subst h1; subst h2; subst h3
    exact Or.inr ⟨q, (T.setVm vm₁).calling g' mk As.toArray, t, U', L, E, ce, hT, X', hL, e1, e2, hq, hce, hcv, vx_cls hW₁ hcl, st⟩
end
end VXH
theorem vx_ofWH {l : Launch} {y : MethodName} {ws ws' : List Cond} {rm : Room} {Pc : Array Value → State → Prop} {Qc : Array Value → State → Outcome → State → Prop} {XC : String → State → State → Prop} {mc ms : Nat} {free : Addr → Prop} {cc : ByteArray} {maxL : Nat} {ret : Option FieldType} {hh : List (Nat × Nat × Nat × Nat)}
    (hy : plainName y.cls = true) (hw : ws = Cond.codeWith y cc maxL ret hh :: ws')
    (body : ∀ p e s m args below meth c s₁, BodyLoose p l y (headSpec ws rm) cc maxL ret e s m args below meth c s₁ → c.maxLocals = maxL → Pc args s →
      W p l e (headSpec ws rm).room s m args below meth c s.heap [] 0 0 (vx_MQ below Qc XC args s mc ms free) (entryFrame m args maxL)) : vx_Met l y ws rm Pc Qc XC mc ms free := by
  refine MetFree.of_bodyS (code := cc) (maxLocals := maxL) (ret := ret) hy ?_ ?_
  · intro args s m h hn
    obtain ⟨m9, meth, c, hn9, h1, h2, h3, h4, -, h5, h6, -⟩ := Cond.codeWith_spec (atoms_spec (ws := ws) h _ (by rw [hw]; exact List.mem_cons_self))
    cases hn.symm.trans hn9
    exact ⟨meth, c, h1, h2, h3, h4, h5, h6⟩
  · intro p e s m args below meth c s₁ B hml hP _
    have hh0 : s₁.heap = s.heap := by rw [B.state]; rfl
    obtain ⟨t, a1, o, b1, b2, b3⟩ := body p e s m args below meth c s₁ B hml hP s₁ hh0 (Stand.of_body B)
    exact ⟨t, o, a1, b1, b2, b3⟩
/-! ===== END ===== -/
end
section
def RJx4a65c : String := "java/util/ArrayList"
def TJx4a65c : u_T := fun k => match k with
  | 0 => ("java/util/AbstractList", "modCount", "I", false)
  | 1 => ("java/util/ArrayList", "elementData", "[Ljava/lang/Object;", false)
  | _ => ("java/util/ArrayList", "size", "I", false)
def tyJx4a65c : Nat → FieldType := fun k => match k with
  | 0 => .int
  | 1 => .array (.object "java/lang/Object")
  | _ => .int
theorem nmJx4a65c : ∀ a, a < 3 → ∀ b, b < 3 → a ≠ b → (TJx4a65c a).2.1 ≠ (TJx4a65c b).2.1 := by decide +kernel
theorem tyJx4a65c_ok : ∀ k, k < 3 → parseFieldDescriptor (TJx4a65c k).2.2.1 = some (tyJx4a65c k) := by decide +kernel
def RJxc12de : String := "java/util/AbstractList"
def RJxa1e45 : String := "java/util/AbstractCollection"
def RJ7 : String := "java/util/Arrays"
def RJ15 : String := "java/util/Objects"
def RJ3 : String := "jdk/internal/util/Preconditions"
def RJ8 : String := "jdk/internal/util/ArraysSupport"
def RX0 : String := "TimberList$Board"
def TX0 : u_T := fun k => match k with
  | 0 => ("TimberList$Board", "length", "I", true)
  | 1 => ("TimberList$Board", "width", "I", true)
  | 2 => ("TimberList$Board", "grade", "I", true)
  | 3 => ("TimberList$Board", "defects", "Ljava/util/ArrayList;", true)
  | _ => ("TimberList$Board", "cutPieces", "Ljava/util/ArrayList;", true)
def tyX0 : Nat → FieldType := fun k => match k with
  | 0 => .int
  | 1 => .int
  | 2 => .int
  | 3 => .object "java/util/ArrayList"
  | _ => .object "java/util/ArrayList"
theorem nmX0 : ∀ a, a < 5 → ∀ b, b < 5 → a ≠ b → (TX0 a).2.1 ≠ (TX0 b).2.1 := by decide +kernel
theorem tyX0_ok : ∀ k, k < 5 → parseFieldDescriptor (TX0 k).2.2.1 = some (tyX0 k) := by decide +kernel
def RX1 : String := "TimberList$Cutting"
def TX1 : u_T := fun k => match k with
  | 0 => ("TimberList$Cutting", "part", "LTimberList$Part;", true)
  | 1 => ("TimberList$Cutting", "first", "LTimberList$Piece;", true)
  | _ => ("TimberList$Cutting", "second", "LTimberList$Piece;", true)
def tyX1 : Nat → FieldType := fun k => match k with
  | 0 => .object "TimberList$Part"
  | 1 => .object "TimberList$Piece"
  | _ => .object "TimberList$Piece"
theorem nmX1 : ∀ a, a < 3 → ∀ b, b < 3 → a ≠ b → (TX1 a).2.1 ≠ (TX1 b).2.1 := by decide +kernel
theorem tyX1_ok : ∀ k, k < 3 → parseFieldDescriptor (TX1 k).2.2.1 = some (tyX1 k) := by decide +kernel
def RX2 : String := "TimberList$Defect"
def TX2 : u_T := fun k => match k with
  | 0 => ("TimberList$Defect", "from", "I", true)
  | 1 => ("TimberList$Defect", "to", "I", true)
  | _ => ("TimberList$Defect", "grade", "I", true)
def tyX2 : Nat → FieldType := fun k => match k with
  | 0 => .int
  | 1 => .int
  | _ => .int
theorem nmX2 : ∀ a, a < 3 → ∀ b, b < 3 → a ≠ b → (TX2 a).2.1 ≠ (TX2 b).2.1 := by decide +kernel
theorem tyX2_ok : ∀ k, k < 3 → parseFieldDescriptor (TX2 k).2.2.1 = some (tyX2 k) := by decide +kernel
def RX3 : String := "TimberList$Part"
def TX3 : u_T := fun k => match k with
  | 0 => ("TimberList$Part", "number", "I", true)
  | 1 => ("TimberList$Part", "length", "I", true)
  | 2 => ("TimberList$Part", "width", "I", true)
  | 3 => ("TimberList$Part", "grade", "I", true)
  | 4 => ("TimberList$Part", "canBeJoined", "Z", true)
  | _ => ("TimberList$Part", "left", "I", false)
def tyX3 : Nat → FieldType := fun k => match k with
  | 0 => .int
  | 1 => .int
  | 2 => .int
  | 3 => .int
  | 4 => .boolean
  | _ => .int
theorem nmX3 : ∀ a, a < 6 → ∀ b, b < 6 → a ≠ b → (TX3 a).2.1 ≠ (TX3 b).2.1 := by decide +kernel
theorem tyX3_ok : ∀ k, k < 6 → parseFieldDescriptor (TX3 k).2.2.1 = some (tyX3 k) := by decide +kernel
def RX4 : String := "TimberList$Piece"
def TX4 : u_T := fun k => match k with
  | 0 => ("TimberList$Piece", "part", "LTimberList$Part;", true)
  | 1 => ("TimberList$Piece", "board", "LTimberList$Board;", true)
  | 2 => ("TimberList$Piece", "from", "I", true)
  | 3 => ("TimberList$Piece", "to", "I", true)
  | _ => ("TimberList$Piece", "isJoined", "Z", true)
def tyX4 : Nat → FieldType := fun k => match k with
  | 0 => .object "TimberList$Part"
  | 1 => .object "TimberList$Board"
  | 2 => .int
  | 3 => .int
  | _ => .boolean
theorem nmX4 : ∀ a, a < 5 → ∀ b, b < 5 → a ≠ b → (TX4 a).2.1 ≠ (TX4 b).2.1 := by decide +kernel
theorem tyX4_ok : ∀ k, k < 5 → parseFieldDescriptor (TX4 k).2.2.1 = some (tyX4 k) := by decide +kernel
def RX5 : String := "TimberList"
def TX5 : u_T := fun k => match k with
  | 0 => ("TimberList", "boards", "Ljava/util/ArrayList;", true)
  | 1 => ("TimberList", "parts", "Ljava/util/ArrayList;", true)
  | 2 => ("TimberList", "planningOrder", "Ljava/util/ArrayList;", true)
  | 3 => ("TimberList", "cuttings", "Ljava/util/ArrayList;", true)
  | 4 => ("TimberList", "bestSums", "[I", true)
  | 5 => ("TimberList", "defectCount", "I", false)
  | 6 => ("TimberList", "saw", "I", false)
  | _ => ("TimberList", "joint", "I", false)
def tyX5 : Nat → FieldType := fun k => match k with
  | 0 => .object "java/util/ArrayList"
  | 1 => .object "java/util/ArrayList"
  | 2 => .object "java/util/ArrayList"
  | 3 => .object "java/util/ArrayList"
  | 4 => .array .int
  | 5 => .int
  | 6 => .int
  | _ => .int
theorem nmX5 : ∀ a, a < 8 → ∀ b, b < 8 → a ≠ b → (TX5 a).2.1 ≠ (TX5 b).2.1 := by decide +kernel
theorem tyX5_ok : ∀ k, k < 8 → parseFieldDescriptor (TX5 k).2.2.1 = some (tyX5 k) := by decide +kernel
def RX6 : String := "TimberListModel"
def TX6 : u_T := fun k => match k with
  | 0 => ("TimberListModel", "thrown", "I", false)
  | 1 => ("TimberListModel", "boards", "I", false)
  | 2 => ("TimberListModel", "wood", "[I", true)
  | 3 => ("TimberListModel", "defects", "I", false)
  | 4 => ("TimberListModel", "flaws", "[I", true)
  | 5 => ("TimberListModel", "parts", "I", false)
  | 6 => ("TimberListModel", "wants", "[I", true)
  | 7 => ("TimberListModel", "mayBeJoined", "[Z", true)
  | 8 => ("TimberListModel", "saw", "I", false)
  | 9 => ("TimberListModel", "joint", "I", false)
  | 10 => ("TimberListModel", "made", "I", false)
  | 11 => ("TimberListModel", "cuts", "[I", true)
  | 12 => ("TimberListModel", "areJoined", "[Z", true)
  | 13 => ("TimberListModel", "stretchFrom", "I", false)
  | _ => ("TimberListModel", "stretchTo", "I", false)
def tyX6 : Nat → FieldType := fun k => match k with
  | 0 => .int
  | 1 => .int
  | 2 => .array .int
  | 3 => .int
  | 4 => .array .int
  | 5 => .int
  | 6 => .array .int
  | 7 => .array .boolean
  | 8 => .int
  | 9 => .int
  | 10 => .int
  | 11 => .array .int
  | 12 => .array .boolean
  | 13 => .int
  | _ => .int
theorem nmX6 : ∀ a, a < 15 → ∀ b, b < 15 → a ≠ b → (TX6 a).2.1 ≠ (TX6 b).2.1 := by decide +kernel
theorem tyX6_ok : ∀ k, k < 15 → parseFieldDescriptor (TX6 k).2.2.1 = some (tyX6 k) := by decide +kernel
def RL : String := "TimberListLaw"
abbrev cJx4a65c_init_da8c8 : ByteArray := prog_34_method_2_code
def yJx4a65c_init_da8c8 : MethodName := ⟨RJx4a65c, "<init>", "()V"⟩
abbrev cJx4a65c_grow_92f84 : ByteArray := prog_34_method_6_code
def yJx4a65c_grow_92f84 : MethodName := ⟨RJx4a65c, "grow", "(I)[Ljava/lang/Object;"⟩
abbrev cJx4a65c_grow_d5877 : ByteArray := prog_34_method_7_code
def yJx4a65c_grow_d5877 : MethodName := ⟨RJx4a65c, "grow", "()[Ljava/lang/Object;"⟩
abbrev cJx4a65c_size_8abf5 : ByteArray := prog_34_method_8_code
def yJx4a65c_size_8abf5 : MethodName := ⟨RJx4a65c, "size", "()I"⟩
abbrev cJx4a65c_isEmpty_aae02 : ByteArray := prog_34_method_9_code
def yJx4a65c_isEmpty_aae02 : MethodName := ⟨RJx4a65c, "isEmpty", "()Z"⟩
abbrev cJx4a65c_elementData_915e3 : ByteArray := prog_34_method_18_code
def yJx4a65c_elementData_915e3 : MethodName := ⟨RJx4a65c, "elementData", "(I)Ljava/lang/Object;"⟩
abbrev cJx4a65c_get_915e3 : ByteArray := prog_34_method_20_code
def yJx4a65c_get_915e3 : MethodName := ⟨RJx4a65c, "get", "(I)Ljava/lang/Object;"⟩
abbrev cJx4a65c_add_72be8 : ByteArray := prog_34_method_24_code
def yJx4a65c_add_72be8 : MethodName := ⟨RJx4a65c, "add", "(Ljava/lang/Object;[Ljava/lang/Object;I)V"⟩
abbrev cJx4a65c_add_9ea2d : ByteArray := prog_34_method_25_code
def yJx4a65c_add_9ea2d : MethodName := ⟨RJx4a65c, "add", "(Ljava/lang/Object;)Z"⟩
abbrev cJx4a65c_add_7a177 : ByteArray := prog_34_method_26_code
def yJx4a65c_add_7a177 : MethodName := ⟨RJx4a65c, "add", "(ILjava/lang/Object;)V"⟩
abbrev cJx4a65c_remove_915e3 : ByteArray := prog_34_method_29_code
def yJx4a65c_remove_915e3 : MethodName := ⟨RJx4a65c, "remove", "(I)Ljava/lang/Object;"⟩
abbrev cJx4a65c_fastRemove_b59b0 : ByteArray := prog_34_method_39_code
def yJx4a65c_fastRemove_b59b0 : MethodName := ⟨RJx4a65c, "fastRemove", "([Ljava/lang/Object;I)V"⟩
abbrev cJx4a65c_rangeCheckForAdd_d00df : ByteArray := prog_34_method_45_code
def yJx4a65c_rangeCheckForAdd_d00df : MethodName := ⟨RJx4a65c, "rangeCheckForAdd", "(I)V"⟩
abbrev cJxc12de_init_da8c8 : ByteArray := prog_33_method_1_code
def yJxc12de_init_da8c8 : MethodName := ⟨RJxc12de, "<init>", "()V"⟩
abbrev cJxa1e45_init_da8c8 : ByteArray := prog_32_method_1_code
def yJxa1e45_init_da8c8 : MethodName := ⟨RJxa1e45, "<init>", "()V"⟩
abbrev cJ7_copyOf_1904c : ByteArray := prog_35_method_119_code
def yJ7_copyOf_1904c : MethodName := ⟨RJ7, "copyOf", "([Ljava/lang/Object;I)[Ljava/lang/Object;"⟩
abbrev cJ7_copyOf_6403c : ByteArray := prog_35_method_120_code
def yJ7_copyOf_6403c : MethodName := ⟨RJ7, "copyOf", "([Ljava/lang/Object;ILjava/lang/Class;)[Ljava/lang/Object;"⟩
abbrev cJ15_checkIndex_7cf53 : ByteArray := prog_38_method_17_code
def yJ15_checkIndex_7cf53 : MethodName := ⟨RJ15, "checkIndex", "(II)I"⟩
abbrev cJ3_checkIndex_8e157 : ByteArray := prog_42_method_11_code
def yJ3_checkIndex_8e157 : MethodName := ⟨RJ3, "checkIndex", "(IILjava/util/function/BiFunction;)I"⟩
abbrev cJ8_newLength_cabcc : ByteArray := prog_41_method_27_code
def yJ8_newLength_cabcc : MethodName := ⟨RJ8, "newLength", "(III)I"⟩
abbrev cX0_init : ByteArray := prog_2_method_1_code
def yX0_init : MethodName := ⟨RX0, "<init>", "(III)V"⟩
abbrev cX0_insertDefect : ByteArray := prog_2_method_2_code
def yX0_insertDefect : MethodName := ⟨RX0, "insertDefect", "(LTimberList$Defect;)V"⟩
abbrev cX0_insertPiece : ByteArray := prog_2_method_3_code
def yX0_insertPiece : MethodName := ⟨RX0, "insertPiece", "(LTimberList$Piece;)V"⟩
abbrev cX0_removePiece : ByteArray := prog_2_method_4_code
def yX0_removePiece : MethodName := ⟨RX0, "removePiece", "(LTimberList$Piece;)V"⟩
abbrev cX0_hasPieceSpoiledBy : ByteArray := prog_2_method_5_code
def yX0_hasPieceSpoiledBy : MethodName := ⟨RX0, "hasPieceSpoiledBy", "(III)Z"⟩
abbrev cX0_gradeAt : ByteArray := prog_2_method_6_code
def yX0_gradeAt : MethodName := ⟨RX0, "gradeAt", "(I)I"⟩
abbrev cX0_firstWorse : ByteArray := prog_2_method_7_code
def yX0_firstWorse : MethodName := ⟨RX0, "firstWorse", "(II)I"⟩
abbrev cX0_firstGood : ByteArray := prog_2_method_8_code
def yX0_firstGood : MethodName := ⟨RX0, "firstGood", "(II)I"⟩
abbrev cX0_nextStretchStart : ByteArray := prog_2_method_9_code
def yX0_nextStretchStart : MethodName := ⟨RX0, "nextStretchStart", "(II)I"⟩
abbrev cX0_countStretches : ByteArray := prog_2_method_10_code
def yX0_countStretches : MethodName := ⟨RX0, "countStretches", "(I)I"⟩
abbrev cX0_stretchStart : ByteArray := prog_2_method_11_code
def yX0_stretchStart : MethodName := ⟨RX0, "stretchStart", "(II)I"⟩
abbrev cX0_canGive : ByteArray := prog_2_method_12_code
def yX0_canGive : MethodName := ⟨RX0, "canGive", "(LTimberList$Part;III)Z"⟩
abbrev cX0_isClearOfPieces : ByteArray := prog_2_method_13_code
def yX0_isClearOfPieces : MethodName := ⟨RX0, "isClearOfPieces", "(III)Z"⟩
abbrev cX0_earliestPlace : ByteArray := prog_2_method_14_code
def yX0_earliestPlace : MethodName := ⟨RX0, "earliestPlace", "(LTimberList$Part;I)I"⟩
abbrev cX0_earliestWithin : ByteArray := prog_2_method_15_code
def yX0_earliestWithin : MethodName := ⟨RX0, "earliestWithin", "(IILTimberList$Part;)I"⟩
abbrev cX0_roomStart : ByteArray := prog_2_method_16_code
def yX0_roomStart : MethodName := ⟨RX0, "roomStart", "(II)I"⟩
abbrev cX0_roomEnd : ByteArray := prog_2_method_17_code
def yX0_roomEnd : MethodName := ⟨RX0, "roomEnd", "(II)I"⟩
abbrev cX0_roomLengthAround : ByteArray := prog_2_method_18_code
def yX0_roomLengthAround : MethodName := ⟨RX0, "roomLengthAround", "(II)I"⟩
abbrev cX0_longestRoomLength : ByteArray := prog_2_method_19_code
def yX0_longestRoomLength : MethodName := ⟨RX0, "longestRoomLength", "(I)I"⟩
abbrev cX0_countCuts : ByteArray := prog_2_method_20_code
def yX0_countCuts : MethodName := ⟨RX0, "countCuts", "(I)I"⟩
abbrev cX0_areaOfPieces : ByteArray := prog_2_method_21_code
def yX0_areaOfPieces : MethodName := ⟨RX0, "areaOfPieces", "()I"⟩
abbrev cX1_init : ByteArray := prog_3_method_1_code
def yX1_init : MethodName := ⟨RX1, "<init>", "(LTimberList$Part;LTimberList$Piece;LTimberList$Piece;)V"⟩
abbrev cX2_init : ByteArray := prog_4_method_1_code
def yX2_init : MethodName := ⟨RX2, "<init>", "(III)V"⟩
abbrev cX3_init : ByteArray := prog_5_method_1_code
def yX3_init : MethodName := ⟨RX3, "<init>", "(IIIIIZ)V"⟩
abbrev cX3_isPlannedAhead : ByteArray := prog_5_method_2_code
def yX3_isPlannedAhead : MethodName := ⟨RX3, "isPlannedAhead", "(LTimberList$Part;)Z"⟩
abbrev cX4_init : ByteArray := prog_6_method_1_code
def yX4_init : MethodName := ⟨RX4, "<init>", "(LTimberList$Part;LTimberList$Board;IIZ)V"⟩
abbrev cX4_isClearOf : ByteArray := prog_6_method_2_code
def yX4_isClearOf : MethodName := ⟨RX4, "isClearOf", "(III)Z"⟩
abbrev cX4_tell : ByteArray := prog_6_method_3_code
def yX4_tell : MethodName := ⟨RX4, "tell", "(I)I"⟩
abbrev cX5_init : ByteArray := prog_1_method_1_code
def yX5_init : MethodName := ⟨RX5, "<init>", "()V"⟩
abbrev cX5_addBoard : ByteArray := prog_1_method_2_code
def yX5_addBoard : MethodName := ⟨RX5, "addBoard", "(III)I"⟩
abbrev cX5_addDefect : ByteArray := prog_1_method_3_code
def yX5_addDefect : MethodName := ⟨RX5, "addDefect", "(IIII)I"⟩
abbrev cX5_addPart : ByteArray := prog_1_method_4_code
def yX5_addPart : MethodName := ⟨RX5, "addPart", "(IIIIZ)I"⟩
abbrev cX5_setSaw : ByteArray := prog_1_method_5_code
def yX5_setSaw : MethodName := ⟨RX5, "setSaw", "(I)I"⟩
abbrev cX5_setJoint : ByteArray := prog_1_method_6_code
def yX5_setJoint : MethodName := ⟨RX5, "setJoint", "(I)I"⟩
abbrev cX5_grade : ByteArray := prog_1_method_7_code
def yX5_grade : MethodName := ⟨RX5, "grade", "(II)I"⟩
abbrev cX5_stretches : ByteArray := prog_1_method_8_code
def yX5_stretches : MethodName := ⟨RX5, "stretches", "(II)I"⟩
abbrev cX5_stretch : ByteArray := prog_1_method_9_code
def yX5_stretch : MethodName := ⟨RX5, "stretch", "(IIIZ)I"⟩
abbrev cX5_fits : ByteArray := prog_1_method_10_code
def yX5_fits : MethodName := ⟨RX5, "fits", "(III)Z"⟩
abbrev cX5_earliest : ByteArray := prog_1_method_11_code
def yX5_earliest : MethodName := ⟨RX5, "earliest", "(II)I"⟩
abbrev cX5_cut : ByteArray := prog_1_method_12_code
def yX5_cut : MethodName := ⟨RX5, "cut", "(III)I"⟩
abbrev cX5_join : ByteArray := prog_1_method_13_code
def yX5_join : MethodName := ⟨RX5, "join", "(IIIIII)I"⟩
abbrev cX5_undo : ByteArray := prog_1_method_14_code
def yX5_undo : MethodName := ⟨RX5, "undo", "()I"⟩
abbrev cX5_plan : ByteArray := prog_1_method_15_code
def yX5_plan : MethodName := ⟨RX5, "plan", "()I"⟩
abbrev cX5_left : ByteArray := prog_1_method_16_code
def yX5_left : MethodName := ⟨RX5, "left", "(I)I"⟩
abbrev cX5_pieces : ByteArray := prog_1_method_17_code
def yX5_pieces : MethodName := ⟨RX5, "pieces", "(I)I"⟩
abbrev cX5_piece : ByteArray := prog_1_method_18_code
def yX5_piece : MethodName := ⟨RX5, "piece", "(III)I"⟩
abbrev cX5_cuts : ByteArray := prog_1_method_19_code
def yX5_cuts : MethodName := ⟨RX5, "cuts", "(I)I"⟩
abbrev cX5_longestRoom : ByteArray := prog_1_method_20_code
def yX5_longestRoom : MethodName := ⟨RX5, "longestRoom", "(I)I"⟩
abbrev cX5_bestUse : ByteArray := prog_1_method_21_code
def yX5_bestUse : MethodName := ⟨RX5, "bestUse", "(III)I"⟩
abbrev cX5_used : ByteArray := prog_1_method_22_code
def yX5_used : MethodName := ⟨RX5, "used", "()D"⟩
abbrev cX5_digest : ByteArray := prog_1_method_23_code
def yX5_digest : MethodName := ⟨RX5, "digest", "()J"⟩
abbrev cX5_isWithin : ByteArray := prog_1_method_24_code
def yX5_isWithin : MethodName := ⟨RX5, "isWithin", "(III)Z"⟩
abbrev cX5_isGrade : ByteArray := prog_1_method_25_code
def yX5_isGrade : MethodName := ⟨RX5, "isGrade", "(I)Z"⟩
abbrev cX5_checkGrade : ByteArray := prog_1_method_26_code
def yX5_checkGrade : MethodName := ⟨RX5, "checkGrade", "(I)V"⟩
abbrev cX5_boardNumbered : ByteArray := prog_1_method_27_code
def yX5_boardNumbered : MethodName := ⟨RX5, "boardNumbered", "(I)LTimberList$Board;"⟩
abbrev cX5_partNumbered : ByteArray := prog_1_method_28_code
def yX5_partNumbered : MethodName := ⟨RX5, "partNumbered", "(I)LTimberList$Part;"⟩
abbrev cX5_insertIntoPlanningOrder : ByteArray := prog_1_method_29_code
def yX5_insertIntoPlanningOrder : MethodName := ⟨RX5, "insertIntoPlanningOrder", "(LTimberList$Part;)V"⟩
abbrev cX5_cutWhilePossible : ByteArray := prog_1_method_30_code
def yX5_cutWhilePossible : MethodName := ⟨RX5, "cutWhilePossible", "(LTimberList$Part;)I"⟩
abbrev cX5_tightestBoard : ByteArray := prog_1_method_31_code
def yX5_tightestBoard : MethodName := ⟨RX5, "tightestBoard", "(LTimberList$Part;)LTimberList$Board;"⟩
abbrev cX5_cutSingle : ByteArray := prog_1_method_32_code
def yX5_cutSingle : MethodName := ⟨RX5, "cutSingle", "(LTimberList$Part;LTimberList$Board;I)V"⟩
abbrev cX5_takeFromBoards : ByteArray := prog_1_method_33_code
def yX5_takeFromBoards : MethodName := ⟨RX5, "takeFromBoards", "(LTimberList$Cutting;)V"⟩
abbrev cX5_clearBestSums : ByteArray := prog_1_method_34_code
def yX5_clearBestSums : MethodName := ⟨RX5, "clearBestSums", "()V"⟩
abbrev cX5_addToBestSums : ByteArray := prog_1_method_35_code
def yX5_addToBestSums : MethodName := ⟨RX5, "addToBestSums", "(LTimberList$Part;I)V"⟩
abbrev cX5_withNext : ByteArray := prog_1_method_36_code
def yX5_withNext : MethodName := ⟨RX5, "withNext", "(JJ)J"⟩
abbrev cX5_withPieces : ByteArray := prog_1_method_37_code
def yX5_withPieces : MethodName := ⟨RX5, "withPieces", "(JLjava/util/ArrayList;)J"⟩
abbrev cX6_init : ByteArray := prog_8_method_1_code
def yX6_init : MethodName := ⟨RX6, "<init>", "()V"⟩
abbrev cX6_thrown : ByteArray := prog_8_method_2_code
def yX6_thrown : MethodName := ⟨RX6, "thrown", "()I"⟩
abbrev cX6_fail : ByteArray := prog_8_method_3_code
def yX6_fail : MethodName := ⟨RX6, "fail", "(I)I"⟩
abbrev cX6_isIn : ByteArray := prog_8_method_4_code
def yX6_isIn : MethodName := ⟨RX6, "isIn", "(III)Z"⟩
abbrev cX6_isBoard : ByteArray := prog_8_method_5_code
def yX6_isBoard : MethodName := ⟨RX6, "isBoard", "(I)Z"⟩
abbrev cX6_isPart : ByteArray := prog_8_method_6_code
def yX6_isPart : MethodName := ⟨RX6, "isPart", "(I)Z"⟩
abbrev cX6_length : ByteArray := prog_8_method_7_code
def yX6_length : MethodName := ⟨RX6, "length", "(I)I"⟩
abbrev cX6_width : ByteArray := prog_8_method_8_code
def yX6_width : MethodName := ⟨RX6, "width", "(I)I"⟩
abbrev cX6_want : ByteArray := prog_8_method_9_code
def yX6_want : MethodName := ⟨RX6, "want", "(II)I"⟩
abbrev cX6_addBoard : ByteArray := prog_8_method_10_code
def yX6_addBoard : MethodName := ⟨RX6, "addBoard", "(III)I"⟩
abbrev cX6_isOn : ByteArray := prog_8_method_11_code
def yX6_isOn : MethodName := ⟨RX6, "isOn", "(II)Z"⟩
abbrev cX6_from : ByteArray := prog_8_method_12_code
def yX6_from : MethodName := ⟨RX6, "from", "(I)I"⟩
abbrev cX6_to : ByteArray := prog_8_method_13_code
def yX6_to : MethodName := ⟨RX6, "to", "(I)I"⟩
abbrev cX6_partOf : ByteArray := prog_8_method_14_code
def yX6_partOf : MethodName := ⟨RX6, "partOf", "(I)I"⟩
abbrev cX6_addDefect : ByteArray := prog_8_method_15_code
def yX6_addDefect : MethodName := ⟨RX6, "addDefect", "(IIII)I"⟩
abbrev cX6_addPart : ByteArray := prog_8_method_16_code
def yX6_addPart : MethodName := ⟨RX6, "addPart", "(IIIIZ)I"⟩
abbrev cX6_setSaw : ByteArray := prog_8_method_17_code
def yX6_setSaw : MethodName := ⟨RX6, "setSaw", "(I)I"⟩
abbrev cX6_setJoint : ByteArray := prog_8_method_18_code
def yX6_setJoint : MethodName := ⟨RX6, "setJoint", "(I)I"⟩
abbrev cX6_gradeAt : ByteArray := prog_8_method_19_code
def yX6_gradeAt : MethodName := ⟨RX6, "gradeAt", "(II)I"⟩
abbrev cX6_grade : ByteArray := prog_8_method_20_code
def yX6_grade : MethodName := ⟨RX6, "grade", "(II)I"⟩
abbrev cX6_nextChange : ByteArray := prog_8_method_21_code
def yX6_nextChange : MethodName := ⟨RX6, "nextChange", "(II)I"⟩
abbrev cX6_goOver : ByteArray := prog_8_method_22_code
def yX6_goOver : MethodName := ⟨RX6, "goOver", "(III)I"⟩
abbrev cX6_stretches : ByteArray := prog_8_method_23_code
def yX6_stretches : MethodName := ⟨RX6, "stretches", "(II)I"⟩
abbrev cX6_stretch : ByteArray := prog_8_method_24_code
def yX6_stretch : MethodName := ⟨RX6, "stretch", "(IIIZ)I"⟩
abbrev cX6_onward : ByteArray := prog_8_method_25_code
def yX6_onward : MethodName := ⟨RX6, "onward", "(IIII)I"⟩
abbrev cX6_isPossible : ByteArray := prog_8_method_26_code
def yX6_isPossible : MethodName := ⟨RX6, "isPossible", "(IIII)Z"⟩
abbrev cX6_earliestOn : ByteArray := prog_8_method_27_code
def yX6_earliestOn : MethodName := ⟨RX6, "earliestOn", "(II)I"⟩
abbrev cX6_fits : ByteArray := prog_8_method_28_code
def yX6_fits : MethodName := ⟨RX6, "fits", "(III)Z"⟩
abbrev cX6_earliest : ByteArray := prog_8_method_29_code
def yX6_earliest : MethodName := ⟨RX6, "earliest", "(II)I"⟩
abbrev cX6_add : ByteArray := prog_8_method_30_code
def yX6_add : MethodName := ⟨RX6, "add", "(IIIIZ)V"⟩
abbrev cX6_lessLeft : ByteArray := prog_8_method_31_code
def yX6_lessLeft : MethodName := ⟨RX6, "lessLeft", "(I)I"⟩
abbrev cX6_cut : ByteArray := prog_8_method_32_code
def yX6_cut : MethodName := ⟨RX6, "cut", "(III)I"⟩
abbrev cX6_join : ByteArray := prog_8_method_33_code
def yX6_join : MethodName := ⟨RX6, "join", "(IIIIII)I"⟩
abbrev cX6_undo : ByteArray := prog_8_method_34_code
def yX6_undo : MethodName := ⟨RX6, "undo", "()I"⟩
abbrev cX6_roomFrom : ByteArray := prog_8_method_35_code
def yX6_roomFrom : MethodName := ⟨RX6, "roomFrom", "(II)I"⟩
abbrev cX6_roomTo : ByteArray := prog_8_method_36_code
def yX6_roomTo : MethodName := ⟨RX6, "roomTo", "(II)I"⟩
abbrev cX6_isAhead : ByteArray := prog_8_method_37_code
def yX6_isAhead : MethodName := ⟨RX6, "isAhead", "(II)Z"⟩
abbrev cX6_planOne : ByteArray := prog_8_method_38_code
def yX6_planOne : MethodName := ⟨RX6, "planOne", "()Z"⟩
abbrev cX6_plan : ByteArray := prog_8_method_39_code
def yX6_plan : MethodName := ⟨RX6, "plan", "()I"⟩
abbrev cX6_left : ByteArray := prog_8_method_40_code
def yX6_left : MethodName := ⟨RX6, "left", "(I)I"⟩
abbrev cX6_piecesOf : ByteArray := prog_8_method_41_code
def yX6_piecesOf : MethodName := ⟨RX6, "piecesOf", "(I)I"⟩
abbrev cX6_pieces : ByteArray := prog_8_method_42_code
def yX6_pieces : MethodName := ⟨RX6, "pieces", "(I)I"⟩
abbrev cX6_pieceFrom : ByteArray := prog_8_method_43_code
def yX6_pieceFrom : MethodName := ⟨RX6, "pieceFrom", "(II)I"⟩
abbrev cX6_told : ByteArray := prog_8_method_44_code
def yX6_told : MethodName := ⟨RX6, "told", "(II)I"⟩
abbrev cX6_piece : ByteArray := prog_8_method_45_code
def yX6_piece : MethodName := ⟨RX6, "piece", "(III)I"⟩
abbrev cX6_cuts : ByteArray := prog_8_method_46_code
def yX6_cuts : MethodName := ⟨RX6, "cuts", "(I)I"⟩
abbrev cX6_longestRoom : ByteArray := prog_8_method_47_code
def yX6_longestRoom : MethodName := ⟨RX6, "longestRoom", "(I)I"⟩
abbrev cX6_bestUse : ByteArray := prog_8_method_48_code
def yX6_bestUse : MethodName := ⟨RX6, "bestUse", "(III)I"⟩
abbrev cX6_used : ByteArray := prog_8_method_49_code
def yX6_used : MethodName := ⟨RX6, "used", "()D"⟩
abbrev cX6_digest : ByteArray := prog_8_method_50_code
def yX6_digest : MethodName := ⟨RX6, "digest", "()J"⟩
abbrev cL_addBoard : ByteArray := method_3_code
def yL_addBoard : MethodName := ⟨RL, "addBoard", "(LTimberList;III[J)I"⟩
abbrev cL_addDefect : ByteArray := method_4_code
def yL_addDefect : MethodName := ⟨RL, "addDefect", "(LTimberList;IIII[J)I"⟩
abbrev cL_addPart : ByteArray := method_5_code
def yL_addPart : MethodName := ⟨RL, "addPart", "(LTimberList;IIIIZ[J)I"⟩
abbrev cL_setSaw : ByteArray := method_6_code
def yL_setSaw : MethodName := ⟨RL, "setSaw", "(LTimberList;I[J)I"⟩
abbrev cL_setJoint : ByteArray := method_7_code
def yL_setJoint : MethodName := ⟨RL, "setJoint", "(LTimberList;I[J)I"⟩
abbrev cL_grade : ByteArray := method_8_code
def yL_grade : MethodName := ⟨RL, "grade", "(LTimberList;II[J)I"⟩
abbrev cL_stretches : ByteArray := method_9_code
def yL_stretches : MethodName := ⟨RL, "stretches", "(LTimberList;II[J)I"⟩
abbrev cL_stretch : ByteArray := method_10_code
def yL_stretch : MethodName := ⟨RL, "stretch", "(LTimberList;IIIZ[J)I"⟩
abbrev cL_fits : ByteArray := method_11_code
def yL_fits : MethodName := ⟨RL, "fits", "(LTimberList;III[J)I"⟩
abbrev cL_earliest : ByteArray := method_12_code
def yL_earliest : MethodName := ⟨RL, "earliest", "(LTimberList;II[J)I"⟩
abbrev cL_cut : ByteArray := method_13_code
def yL_cut : MethodName := ⟨RL, "cut", "(LTimberList;III[J)I"⟩
abbrev cL_join : ByteArray := method_14_code
def yL_join : MethodName := ⟨RL, "join", "(LTimberList;IIIIII[J)I"⟩
abbrev cL_undo : ByteArray := method_15_code
def yL_undo : MethodName := ⟨RL, "undo", "(LTimberList;[J)I"⟩
abbrev cL_left : ByteArray := method_16_code
def yL_left : MethodName := ⟨RL, "left", "(LTimberList;I[J)I"⟩
abbrev cL_pieces : ByteArray := method_17_code
def yL_pieces : MethodName := ⟨RL, "pieces", "(LTimberList;I[J)I"⟩
abbrev cL_piece : ByteArray := method_18_code
def yL_piece : MethodName := ⟨RL, "piece", "(LTimberList;III[J)I"⟩
abbrev cL_cuts : ByteArray := method_19_code
def yL_cuts : MethodName := ⟨RL, "cuts", "(LTimberList;I[J)I"⟩
abbrev cL_longestRoom : ByteArray := method_20_code
def yL_longestRoom : MethodName := ⟨RL, "longestRoom", "(LTimberList;I[J)I"⟩
abbrev cL_bestUse : ByteArray := method_21_code
def yL_bestUse : MethodName := ⟨RL, "bestUse", "(LTimberList;III[J)I"⟩
abbrev cL_law : ByteArray := code
def yL_law : MethodName := ⟨RL, "law", "([I)Z"⟩
abbrev classes : List vw_C := [(RJx4a65c, TJx4a65c, 3), (RX0, TX0, 5), (RX1, TX1, 3), (RX2, TX2, 3), (RX3, TX3, 6), (RX4, TX4, 5), (RX5, TX5, 8), (RX6, TX6, 15)]
/-- the tables' words that any state keeps -/
def ALL : List Cond := lw_tbl.filter goodWord
/-- words of nest mates and casts: kept in another way -/
def tm_nw : Cond → Bool
  | .fieldLinkNest .. => true
  | .methodLinkNest .. => true
  | .castable .. => true
  | .declares .. => true
  | _ => false
def NW : List Cond := lw_tbl.filter tm_nw
theorem tm_in1 {w : Cond} (i : Nat) (h : tables_1_1[i]? = some w) (g : goodWord w = true) : w ∈ ALL := List.mem_filter.mpr ⟨List.mem_append_right _ (List.mem_append_left _ (List.mem_of_getElem? h)), g⟩
theorem tm_in2 {w : Cond} (i : Nat) (h : tables_1_2[i]? = some w) (g : goodWord w = true) : w ∈ ALL := List.mem_filter.mpr ⟨List.mem_append_right _ (List.mem_append_right _ (List.mem_append_left _ (List.mem_of_getElem? h))), g⟩
theorem tm_in3 {w : Cond} (i : Nat) (h : tables_1_3[i]? = some w) (g : goodWord w = true) : w ∈ ALL := List.mem_filter.mpr ⟨List.mem_append_right _ (List.mem_append_right _ (List.mem_append_right _ (List.mem_append_left _ (List.mem_of_getElem? h)))), g⟩
theorem tm_in4 {w : Cond} (i : Nat) (h : tables_1_4[i]? = some w) (g : goodWord w = true) : w ∈ ALL := List.mem_filter.mpr ⟨List.mem_append_right _ (List.mem_append_right _ (List.mem_append_right _ (List.mem_append_right _ (List.mem_append_left _ (List.mem_of_getElem? h))))), g⟩
theorem tm_in5 {w : Cond} (i : Nat) (h : tables_1_5[i]? = some w) (g : goodWord w = true) : w ∈ ALL := List.mem_filter.mpr ⟨List.mem_append_right _ (List.mem_append_right _ (List.mem_append_right _ (List.mem_append_right _ (List.mem_append_right _ (List.mem_append_left _ (List.mem_of_getElem? h)))))), g⟩
theorem tm_in6 {w : Cond} (i : Nat) (h : tables_1_6[i]? = some w) (g : goodWord w = true) : w ∈ ALL := List.mem_filter.mpr ⟨List.mem_append_right _ (List.mem_append_right _ (List.mem_append_right _ (List.mem_append_right _ (List.mem_append_right _ (List.mem_append_right _ (List.mem_of_getElem? h)))))), g⟩
theorem tm_nn1 {w : Cond} (i : Nat) (h : tables_1_1[i]? = some w) (g : tm_nw w = true) : w ∈ NW := List.mem_filter.mpr ⟨List.mem_append_right _ (List.mem_append_left _ (List.mem_of_getElem? h)), g⟩
theorem tm_nn2 {w : Cond} (i : Nat) (h : tables_1_2[i]? = some w) (g : tm_nw w = true) : w ∈ NW := List.mem_filter.mpr ⟨List.mem_append_right _ (List.mem_append_right _ (List.mem_append_left _ (List.mem_of_getElem? h))), g⟩
theorem tm_nn3 {w : Cond} (i : Nat) (h : tables_1_3[i]? = some w) (g : tm_nw w = true) : w ∈ NW := List.mem_filter.mpr ⟨List.mem_append_right _ (List.mem_append_right _ (List.mem_append_right _ (List.mem_append_left _ (List.mem_of_getElem? h)))), g⟩
theorem tm_nn4 {w : Cond} (i : Nat) (h : tables_1_4[i]? = some w) (g : tm_nw w = true) : w ∈ NW := List.mem_filter.mpr ⟨List.mem_append_right _ (List.mem_append_right _ (List.mem_append_right _ (List.mem_append_right _ (List.mem_append_left _ (List.mem_of_getElem? h))))), g⟩
theorem tm_nn5 {w : Cond} (i : Nat) (h : tables_1_5[i]? = some w) (g : tm_nw w = true) : w ∈ NW := List.mem_filter.mpr ⟨List.mem_append_right _ (List.mem_append_right _ (List.mem_append_right _ (List.mem_append_right _ (List.mem_append_right _ (List.mem_append_left _ (List.mem_of_getElem? h)))))), g⟩
theorem tm_nn6 {w : Cond} (i : Nat) (h : tables_1_6[i]? = some w) (g : tm_nw w = true) : w ∈ NW := List.mem_filter.mpr ⟨List.mem_append_right _ (List.mem_append_right _ (List.mem_append_right _ (List.mem_append_right _ (List.mem_append_right _ (List.mem_append_right _ (List.mem_of_getElem? h)))))), g⟩
theorem tm_inS {q : MethodName × Nat} (i : Nat) (h : lw_privs[i]? = some q) (g : goodWord (Cond.selects q.1.cls q.1 q.1) = true) : Cond.selects q.1.cls q.1 q.1 ∈ ALL := List.mem_filter.mpr ⟨List.mem_append_left _ (List.mem_map_of_mem (List.mem_of_getElem? h)), g⟩
end
section
theorem dJx4a65c_init_da8c8_0 : decode cJx4a65c_init_da8c8 0 = .ok (.aload_n 0, 1) := by decide +kernel
theorem dJx4a65c_init_da8c8_1 : decode cJx4a65c_init_da8c8 1 = .ok (.invokespecial 1, 3) := by decide +kernel
theorem dJx4a65c_init_da8c8_4 : decode cJx4a65c_init_da8c8 4 = .ok (.aload_n 0, 1) := by decide +kernel
theorem dJx4a65c_init_da8c8_5 : decode cJx4a65c_init_da8c8 5 = .ok (.getstatic 39, 3) := by decide +kernel
theorem dJx4a65c_init_da8c8_8 : decode cJx4a65c_init_da8c8 8 = .ok (.putfield 9, 3) := by decide +kernel
theorem dJx4a65c_init_da8c8_11 : decode cJx4a65c_init_da8c8 11 = .ok (.return_, 1) := by decide +kernel
theorem dJx4a65c_grow_92f84_0 : decode cJx4a65c_grow_92f84 0 = .ok (.aload_n 0, 1) := by decide +kernel
theorem dJx4a65c_grow_92f84_1 : decode cJx4a65c_grow_92f84 1 = .ok (.getfield 9, 3) := by decide +kernel
theorem dJx4a65c_grow_92f84_4 : decode cJx4a65c_grow_92f84 4 = .ok (.arraylength, 1) := by decide +kernel
theorem dJx4a65c_grow_92f84_5 : decode cJx4a65c_grow_92f84 5 = .ok (.istore_n 2, 1) := by decide +kernel
theorem dJx4a65c_grow_92f84_6 : decode cJx4a65c_grow_92f84 6 = .ok (.iload_n 2, 1) := by decide +kernel
theorem dJx4a65c_grow_92f84_7 : decode cJx4a65c_grow_92f84 7 = .ok (.ifCond .gt 13, 3) := by decide +kernel
theorem dJx4a65c_grow_92f84_10 : decode cJx4a65c_grow_92f84 10 = .ok (.aload_n 0, 1) := by decide +kernel
theorem dJx4a65c_grow_92f84_11 : decode cJx4a65c_grow_92f84 11 = .ok (.getfield 9, 3) := by decide +kernel
theorem dJx4a65c_grow_92f84_14 : decode cJx4a65c_grow_92f84 14 = .ok (.getstatic 39, 3) := by decide +kernel
theorem dJx4a65c_grow_92f84_17 : decode cJx4a65c_grow_92f84 17 = .ok (.if_acmp .eq 28, 3) := by decide +kernel
theorem dJx4a65c_grow_92f84_20 : decode cJx4a65c_grow_92f84 20 = .ok (.iload_n 2, 1) := by decide +kernel
theorem dJx4a65c_grow_92f84_21 : decode cJx4a65c_grow_92f84 21 = .ok (.iload_n 1, 1) := by decide +kernel
theorem dJx4a65c_grow_92f84_22 : decode cJx4a65c_grow_92f84 22 = .ok (.iload_n 2, 1) := by decide +kernel
theorem dJx4a65c_grow_92f84_23 : decode cJx4a65c_grow_92f84 23 = .ok (.isub, 1) := by decide +kernel
theorem dJx4a65c_grow_92f84_24 : decode cJx4a65c_grow_92f84 24 = .ok (.iload_n 2, 1) := by decide +kernel
theorem dJx4a65c_grow_92f84_25 : decode cJx4a65c_grow_92f84 25 = .ok (.iconst 1, 1) := by decide +kernel
theorem dJx4a65c_grow_92f84_26 : decode cJx4a65c_grow_92f84 26 = .ok (.ishr, 1) := by decide +kernel
theorem dJx4a65c_grow_92f84_27 : decode cJx4a65c_grow_92f84 27 = .ok (.invokestatic 73, 3) := by decide +kernel
theorem dJx4a65c_grow_92f84_30 : decode cJx4a65c_grow_92f84 30 = .ok (.istore_n 3, 1) := by decide +kernel
theorem dJx4a65c_grow_92f84_31 : decode cJx4a65c_grow_92f84 31 = .ok (.aload_n 0, 1) := by decide +kernel
theorem dJx4a65c_grow_92f84_32 : decode cJx4a65c_grow_92f84 32 = .ok (.aload_n 0, 1) := by decide +kernel
theorem dJx4a65c_grow_92f84_33 : decode cJx4a65c_grow_92f84 33 = .ok (.getfield 9, 3) := by decide +kernel
theorem dJx4a65c_grow_92f84_36 : decode cJx4a65c_grow_92f84 36 = .ok (.iload_n 3, 1) := by decide +kernel
theorem dJx4a65c_grow_92f84_37 : decode cJx4a65c_grow_92f84 37 = .ok (.invokestatic 66, 3) := by decide +kernel
theorem dJx4a65c_grow_92f84_40 : decode cJx4a65c_grow_92f84 40 = .ok (.dup_x1, 1) := by decide +kernel
theorem dJx4a65c_grow_92f84_41 : decode cJx4a65c_grow_92f84 41 = .ok (.putfield 9, 3) := by decide +kernel
theorem dJx4a65c_grow_92f84_44 : decode cJx4a65c_grow_92f84 44 = .ok (.areturn, 1) := by decide +kernel
theorem dJx4a65c_grow_92f84_45 : decode cJx4a65c_grow_92f84 45 = .ok (.aload_n 0, 1) := by decide +kernel
theorem dJx4a65c_grow_92f84_46 : decode cJx4a65c_grow_92f84 46 = .ok (.bipush 10, 2) := by decide +kernel
theorem dJx4a65c_grow_92f84_48 : decode cJx4a65c_grow_92f84 48 = .ok (.iload_n 1, 1) := by decide +kernel
theorem dJx4a65c_grow_92f84_49 : decode cJx4a65c_grow_92f84 49 = .ok (.invokestatic 79, 3) := by decide +kernel
theorem dJx4a65c_grow_92f84_52 : decode cJx4a65c_grow_92f84 52 = .ok (.anewarray 7, 3) := by decide +kernel
theorem dJx4a65c_grow_92f84_55 : decode cJx4a65c_grow_92f84 55 = .ok (.dup_x1, 1) := by decide +kernel
theorem dJx4a65c_grow_92f84_56 : decode cJx4a65c_grow_92f84 56 = .ok (.putfield 9, 3) := by decide +kernel
theorem dJx4a65c_grow_92f84_59 : decode cJx4a65c_grow_92f84 59 = .ok (.areturn, 1) := by decide +kernel
theorem dJx4a65c_grow_d5877_0 : decode cJx4a65c_grow_d5877 0 = .ok (.aload_n 0, 1) := by decide +kernel
theorem dJx4a65c_grow_d5877_1 : decode cJx4a65c_grow_d5877 1 = .ok (.aload_n 0, 1) := by decide +kernel
theorem dJx4a65c_grow_d5877_2 : decode cJx4a65c_grow_d5877 2 = .ok (.getfield 48, 3) := by decide +kernel
theorem dJx4a65c_grow_d5877_5 : decode cJx4a65c_grow_d5877 5 = .ok (.iconst 1, 1) := by decide +kernel
theorem dJx4a65c_grow_d5877_6 : decode cJx4a65c_grow_d5877 6 = .ok (.iadd, 1) := by decide +kernel
theorem dJx4a65c_grow_d5877_7 : decode cJx4a65c_grow_d5877 7 = .ok (.invokevirtual 69, 3) := by decide +kernel
theorem dJx4a65c_grow_d5877_10 : decode cJx4a65c_grow_d5877 10 = .ok (.areturn, 1) := by decide +kernel
theorem dJx4a65c_size_8abf5_0 : decode cJx4a65c_size_8abf5 0 = .ok (.aload_n 0, 1) := by decide +kernel
theorem dJx4a65c_size_8abf5_1 : decode cJx4a65c_size_8abf5 1 = .ok (.getfield 48, 3) := by decide +kernel
theorem dJx4a65c_size_8abf5_4 : decode cJx4a65c_size_8abf5 4 = .ok (.ireturn, 1) := by decide +kernel
theorem dJx4a65c_isEmpty_aae02_0 : decode cJx4a65c_isEmpty_aae02 0 = .ok (.aload_n 0, 1) := by decide +kernel
theorem dJx4a65c_isEmpty_aae02_1 : decode cJx4a65c_isEmpty_aae02 1 = .ok (.getfield 48, 3) := by decide +kernel
theorem dJx4a65c_isEmpty_aae02_4 : decode cJx4a65c_isEmpty_aae02 4 = .ok (.ifCond .ne 7, 3) := by decide +kernel
theorem dJx4a65c_isEmpty_aae02_7 : decode cJx4a65c_isEmpty_aae02 7 = .ok (.iconst 1, 1) := by decide +kernel
theorem dJx4a65c_isEmpty_aae02_8 : decode cJx4a65c_isEmpty_aae02 8 = .ok (.goto 4, 3) := by decide +kernel
theorem dJx4a65c_isEmpty_aae02_11 : decode cJx4a65c_isEmpty_aae02 11 = .ok (.iconst 0, 1) := by decide +kernel
theorem dJx4a65c_isEmpty_aae02_12 : decode cJx4a65c_isEmpty_aae02 12 = .ok (.ireturn, 1) := by decide +kernel
theorem dJx4a65c_elementData_915e3_0 : decode cJx4a65c_elementData_915e3 0 = .ok (.aload_n 0, 1) := by decide +kernel
theorem dJx4a65c_elementData_915e3_1 : decode cJx4a65c_elementData_915e3 1 = .ok (.getfield 9, 3) := by decide +kernel
theorem dJx4a65c_elementData_915e3_4 : decode cJx4a65c_elementData_915e3 4 = .ok (.iload_n 1, 1) := by decide +kernel
theorem dJx4a65c_elementData_915e3_5 : decode cJx4a65c_elementData_915e3 5 = .ok (.aaload, 1) := by decide +kernel
theorem dJx4a65c_elementData_915e3_6 : decode cJx4a65c_elementData_915e3 6 = .ok (.areturn, 1) := by decide +kernel
theorem dJx4a65c_get_915e3_0 : decode cJx4a65c_get_915e3 0 = .ok (.iload_n 1, 1) := by decide +kernel
theorem dJx4a65c_get_915e3_1 : decode cJx4a65c_get_915e3 1 = .ok (.aload_n 0, 1) := by decide +kernel
theorem dJx4a65c_get_915e3_2 : decode cJx4a65c_get_915e3 2 = .ok (.getfield 48, 3) := by decide +kernel
theorem dJx4a65c_get_915e3_5 : decode cJx4a65c_get_915e3 5 = .ok (.invokestatic 118, 3) := by decide +kernel
theorem dJx4a65c_get_915e3_8 : decode cJx4a65c_get_915e3 8 = .ok (.pop, 1) := by decide +kernel
theorem dJx4a65c_get_915e3_9 : decode cJx4a65c_get_915e3 9 = .ok (.aload_n 0, 1) := by decide +kernel
theorem dJx4a65c_get_915e3_10 : decode cJx4a65c_get_915e3 10 = .ok (.iload_n 1, 1) := by decide +kernel
theorem dJx4a65c_get_915e3_11 : decode cJx4a65c_get_915e3 11 = .ok (.invokevirtual 123, 3) := by decide +kernel
theorem dJx4a65c_get_915e3_14 : decode cJx4a65c_get_915e3 14 = .ok (.areturn, 1) := by decide +kernel
theorem dJx4a65c_add_72be8_0 : decode cJx4a65c_add_72be8 0 = .ok (.iload_n 3, 1) := by decide +kernel
theorem dJx4a65c_add_72be8_1 : decode cJx4a65c_add_72be8 1 = .ok (.aload_n 2, 1) := by decide +kernel
theorem dJx4a65c_add_72be8_2 : decode cJx4a65c_add_72be8 2 = .ok (.arraylength, 1) := by decide +kernel
theorem dJx4a65c_add_72be8_3 : decode cJx4a65c_add_72be8 3 = .ok (.if_icmp .ne 8, 3) := by decide +kernel
theorem dJx4a65c_add_72be8_6 : decode cJx4a65c_add_72be8 6 = .ok (.aload_n 0, 1) := by decide +kernel
theorem dJx4a65c_add_72be8_7 : decode cJx4a65c_add_72be8 7 = .ok (.invokevirtual 129, 3) := by decide +kernel
theorem dJx4a65c_add_72be8_10 : decode cJx4a65c_add_72be8 10 = .ok (.astore_n 2, 1) := by decide +kernel
theorem dJx4a65c_add_72be8_11 : decode cJx4a65c_add_72be8 11 = .ok (.aload_n 2, 1) := by decide +kernel
theorem dJx4a65c_add_72be8_12 : decode cJx4a65c_add_72be8 12 = .ok (.iload_n 3, 1) := by decide +kernel
theorem dJx4a65c_add_72be8_13 : decode cJx4a65c_add_72be8 13 = .ok (.aload_n 1, 1) := by decide +kernel
theorem dJx4a65c_add_72be8_14 : decode cJx4a65c_add_72be8 14 = .ok (.aastore, 1) := by decide +kernel
theorem dJx4a65c_add_72be8_15 : decode cJx4a65c_add_72be8 15 = .ok (.aload_n 0, 1) := by decide +kernel
theorem dJx4a65c_add_72be8_16 : decode cJx4a65c_add_72be8 16 = .ok (.iload_n 3, 1) := by decide +kernel
theorem dJx4a65c_add_72be8_17 : decode cJx4a65c_add_72be8 17 = .ok (.iconst 1, 1) := by decide +kernel
theorem dJx4a65c_add_72be8_18 : decode cJx4a65c_add_72be8 18 = .ok (.iadd, 1) := by decide +kernel
theorem dJx4a65c_add_72be8_19 : decode cJx4a65c_add_72be8 19 = .ok (.putfield 48, 3) := by decide +kernel
theorem dJx4a65c_add_72be8_22 : decode cJx4a65c_add_72be8 22 = .ok (.return_, 1) := by decide +kernel
theorem dJx4a65c_add_9ea2d_0 : decode cJx4a65c_add_9ea2d 0 = .ok (.aload_n 0, 1) := by decide +kernel
theorem dJx4a65c_add_9ea2d_1 : decode cJx4a65c_add_9ea2d 1 = .ok (.dup, 1) := by decide +kernel
theorem dJx4a65c_add_9ea2d_2 : decode cJx4a65c_add_9ea2d 2 = .ok (.getfield 63, 3) := by decide +kernel
theorem dJx4a65c_add_9ea2d_5 : decode cJx4a65c_add_9ea2d 5 = .ok (.iconst 1, 1) := by decide +kernel
theorem dJx4a65c_add_9ea2d_6 : decode cJx4a65c_add_9ea2d 6 = .ok (.iadd, 1) := by decide +kernel
theorem dJx4a65c_add_9ea2d_7 : decode cJx4a65c_add_9ea2d 7 = .ok (.putfield 63, 3) := by decide +kernel
theorem dJx4a65c_add_9ea2d_10 : decode cJx4a65c_add_9ea2d 10 = .ok (.aload_n 0, 1) := by decide +kernel
theorem dJx4a65c_add_9ea2d_11 : decode cJx4a65c_add_9ea2d 11 = .ok (.aload_n 1, 1) := by decide +kernel
theorem dJx4a65c_add_9ea2d_12 : decode cJx4a65c_add_9ea2d 12 = .ok (.aload_n 0, 1) := by decide +kernel
theorem dJx4a65c_add_9ea2d_13 : decode cJx4a65c_add_9ea2d 13 = .ok (.getfield 9, 3) := by decide +kernel
theorem dJx4a65c_add_9ea2d_16 : decode cJx4a65c_add_9ea2d 16 = .ok (.aload_n 0, 1) := by decide +kernel
theorem dJx4a65c_add_9ea2d_17 : decode cJx4a65c_add_9ea2d 17 = .ok (.getfield 48, 3) := by decide +kernel
theorem dJx4a65c_add_9ea2d_20 : decode cJx4a65c_add_9ea2d 20 = .ok (.invokevirtual 131, 3) := by decide +kernel
theorem dJx4a65c_add_9ea2d_23 : decode cJx4a65c_add_9ea2d 23 = .ok (.iconst 1, 1) := by decide +kernel
theorem dJx4a65c_add_9ea2d_24 : decode cJx4a65c_add_9ea2d 24 = .ok (.ireturn, 1) := by decide +kernel
theorem dJx4a65c_add_7a177_0 : decode cJx4a65c_add_7a177 0 = .ok (.aload_n 0, 1) := by decide +kernel
theorem dJx4a65c_add_7a177_1 : decode cJx4a65c_add_7a177 1 = .ok (.iload_n 1, 1) := by decide +kernel
theorem dJx4a65c_add_7a177_2 : decode cJx4a65c_add_7a177 2 = .ok (.invokevirtual 135, 3) := by decide +kernel
theorem dJx4a65c_add_7a177_5 : decode cJx4a65c_add_7a177 5 = .ok (.aload_n 0, 1) := by decide +kernel
theorem dJx4a65c_add_7a177_6 : decode cJx4a65c_add_7a177 6 = .ok (.dup, 1) := by decide +kernel
theorem dJx4a65c_add_7a177_7 : decode cJx4a65c_add_7a177 7 = .ok (.getfield 63, 3) := by decide +kernel
theorem dJx4a65c_add_7a177_10 : decode cJx4a65c_add_7a177 10 = .ok (.iconst 1, 1) := by decide +kernel
theorem dJx4a65c_add_7a177_11 : decode cJx4a65c_add_7a177 11 = .ok (.iadd, 1) := by decide +kernel
theorem dJx4a65c_add_7a177_12 : decode cJx4a65c_add_7a177 12 = .ok (.putfield 63, 3) := by decide +kernel
theorem dJx4a65c_add_7a177_15 : decode cJx4a65c_add_7a177 15 = .ok (.aload_n 0, 1) := by decide +kernel
theorem dJx4a65c_add_7a177_16 : decode cJx4a65c_add_7a177 16 = .ok (.getfield 48, 3) := by decide +kernel
theorem dJx4a65c_add_7a177_19 : decode cJx4a65c_add_7a177 19 = .ok (.dup, 1) := by decide +kernel
theorem dJx4a65c_add_7a177_20 : decode cJx4a65c_add_7a177 20 = .ok (.istore_n 3, 1) := by decide +kernel
theorem dJx4a65c_add_7a177_21 : decode cJx4a65c_add_7a177 21 = .ok (.aload_n 0, 1) := by decide +kernel
theorem dJx4a65c_add_7a177_22 : decode cJx4a65c_add_7a177 22 = .ok (.getfield 9, 3) := by decide +kernel
theorem dJx4a65c_add_7a177_25 : decode cJx4a65c_add_7a177 25 = .ok (.dup, 1) := by decide +kernel
theorem dJx4a65c_add_7a177_26 : decode cJx4a65c_add_7a177 26 = .ok (.astore 4, 2) := by decide +kernel
theorem dJx4a65c_add_7a177_28 : decode cJx4a65c_add_7a177 28 = .ok (.arraylength, 1) := by decide +kernel
theorem dJx4a65c_add_7a177_29 : decode cJx4a65c_add_7a177 29 = .ok (.if_icmp .ne 9, 3) := by decide +kernel
theorem dJx4a65c_add_7a177_32 : decode cJx4a65c_add_7a177 32 = .ok (.aload_n 0, 1) := by decide +kernel
theorem dJx4a65c_add_7a177_33 : decode cJx4a65c_add_7a177 33 = .ok (.invokevirtual 129, 3) := by decide +kernel
theorem dJx4a65c_add_7a177_36 : decode cJx4a65c_add_7a177 36 = .ok (.astore 4, 2) := by decide +kernel
theorem dJx4a65c_add_7a177_38 : decode cJx4a65c_add_7a177 38 = .ok (.aload 4, 2) := by decide +kernel
theorem dJx4a65c_add_7a177_40 : decode cJx4a65c_add_7a177 40 = .ok (.iload_n 1, 1) := by decide +kernel
theorem dJx4a65c_add_7a177_41 : decode cJx4a65c_add_7a177 41 = .ok (.aload 4, 2) := by decide +kernel
theorem dJx4a65c_add_7a177_43 : decode cJx4a65c_add_7a177 43 = .ok (.iload_n 1, 1) := by decide +kernel
theorem dJx4a65c_add_7a177_44 : decode cJx4a65c_add_7a177 44 = .ok (.iconst 1, 1) := by decide +kernel
theorem dJx4a65c_add_7a177_45 : decode cJx4a65c_add_7a177 45 = .ok (.iadd, 1) := by decide +kernel
theorem dJx4a65c_add_7a177_46 : decode cJx4a65c_add_7a177 46 = .ok (.iload_n 3, 1) := by decide +kernel
theorem dJx4a65c_add_7a177_47 : decode cJx4a65c_add_7a177 47 = .ok (.iload_n 1, 1) := by decide +kernel
theorem dJx4a65c_add_7a177_48 : decode cJx4a65c_add_7a177 48 = .ok (.isub, 1) := by decide +kernel
theorem dJx4a65c_add_7a177_49 : decode cJx4a65c_add_7a177 49 = .ok (.invokestatic 112, 3) := by decide +kernel
theorem dJx4a65c_add_7a177_52 : decode cJx4a65c_add_7a177 52 = .ok (.aload 4, 2) := by decide +kernel
theorem dJx4a65c_add_7a177_54 : decode cJx4a65c_add_7a177 54 = .ok (.iload_n 1, 1) := by decide +kernel
theorem dJx4a65c_add_7a177_55 : decode cJx4a65c_add_7a177 55 = .ok (.aload_n 2, 1) := by decide +kernel
theorem dJx4a65c_add_7a177_56 : decode cJx4a65c_add_7a177 56 = .ok (.aastore, 1) := by decide +kernel
theorem dJx4a65c_add_7a177_57 : decode cJx4a65c_add_7a177 57 = .ok (.aload_n 0, 1) := by decide +kernel
theorem dJx4a65c_add_7a177_58 : decode cJx4a65c_add_7a177 58 = .ok (.iload_n 3, 1) := by decide +kernel
theorem dJx4a65c_add_7a177_59 : decode cJx4a65c_add_7a177 59 = .ok (.iconst 1, 1) := by decide +kernel
theorem dJx4a65c_add_7a177_60 : decode cJx4a65c_add_7a177 60 = .ok (.iadd, 1) := by decide +kernel
theorem dJx4a65c_add_7a177_61 : decode cJx4a65c_add_7a177 61 = .ok (.putfield 48, 3) := by decide +kernel
theorem dJx4a65c_add_7a177_64 : decode cJx4a65c_add_7a177 64 = .ok (.return_, 1) := by decide +kernel
theorem dJx4a65c_remove_915e3_0 : decode cJx4a65c_remove_915e3 0 = .ok (.iload_n 1, 1) := by decide +kernel
theorem dJx4a65c_remove_915e3_1 : decode cJx4a65c_remove_915e3 1 = .ok (.aload_n 0, 1) := by decide +kernel
theorem dJx4a65c_remove_915e3_2 : decode cJx4a65c_remove_915e3 2 = .ok (.getfield 48, 3) := by decide +kernel
theorem dJx4a65c_remove_915e3_5 : decode cJx4a65c_remove_915e3 5 = .ok (.invokestatic 118, 3) := by decide +kernel
theorem dJx4a65c_remove_915e3_8 : decode cJx4a65c_remove_915e3 8 = .ok (.pop, 1) := by decide +kernel
theorem dJx4a65c_remove_915e3_9 : decode cJx4a65c_remove_915e3 9 = .ok (.aload_n 0, 1) := by decide +kernel
theorem dJx4a65c_remove_915e3_10 : decode cJx4a65c_remove_915e3 10 = .ok (.getfield 9, 3) := by decide +kernel
theorem dJx4a65c_remove_915e3_13 : decode cJx4a65c_remove_915e3 13 = .ok (.astore_n 2, 1) := by decide +kernel
theorem dJx4a65c_remove_915e3_14 : decode cJx4a65c_remove_915e3 14 = .ok (.aload_n 2, 1) := by decide +kernel
theorem dJx4a65c_remove_915e3_15 : decode cJx4a65c_remove_915e3 15 = .ok (.iload_n 1, 1) := by decide +kernel
theorem dJx4a65c_remove_915e3_16 : decode cJx4a65c_remove_915e3 16 = .ok (.aaload, 1) := by decide +kernel
theorem dJx4a65c_remove_915e3_17 : decode cJx4a65c_remove_915e3 17 = .ok (.astore_n 3, 1) := by decide +kernel
theorem dJx4a65c_remove_915e3_18 : decode cJx4a65c_remove_915e3 18 = .ok (.aload_n 0, 1) := by decide +kernel
theorem dJx4a65c_remove_915e3_19 : decode cJx4a65c_remove_915e3 19 = .ok (.aload_n 2, 1) := by decide +kernel
theorem dJx4a65c_remove_915e3_20 : decode cJx4a65c_remove_915e3 20 = .ok (.iload_n 1, 1) := by decide +kernel
theorem dJx4a65c_remove_915e3_21 : decode cJx4a65c_remove_915e3 21 = .ok (.invokevirtual 144, 3) := by decide +kernel
theorem dJx4a65c_remove_915e3_24 : decode cJx4a65c_remove_915e3 24 = .ok (.aload_n 3, 1) := by decide +kernel
theorem dJx4a65c_remove_915e3_25 : decode cJx4a65c_remove_915e3 25 = .ok (.areturn, 1) := by decide +kernel
theorem dJx4a65c_fastRemove_b59b0_0 : decode cJx4a65c_fastRemove_b59b0 0 = .ok (.aload_n 0, 1) := by decide +kernel
theorem dJx4a65c_fastRemove_b59b0_1 : decode cJx4a65c_fastRemove_b59b0 1 = .ok (.dup, 1) := by decide +kernel
theorem dJx4a65c_fastRemove_b59b0_2 : decode cJx4a65c_fastRemove_b59b0 2 = .ok (.getfield 63, 3) := by decide +kernel
theorem dJx4a65c_fastRemove_b59b0_5 : decode cJx4a65c_fastRemove_b59b0 5 = .ok (.iconst 1, 1) := by decide +kernel
theorem dJx4a65c_fastRemove_b59b0_6 : decode cJx4a65c_fastRemove_b59b0 6 = .ok (.iadd, 1) := by decide +kernel
theorem dJx4a65c_fastRemove_b59b0_7 : decode cJx4a65c_fastRemove_b59b0 7 = .ok (.putfield 63, 3) := by decide +kernel
theorem dJx4a65c_fastRemove_b59b0_10 : decode cJx4a65c_fastRemove_b59b0 10 = .ok (.aload_n 0, 1) := by decide +kernel
theorem dJx4a65c_fastRemove_b59b0_11 : decode cJx4a65c_fastRemove_b59b0 11 = .ok (.getfield 48, 3) := by decide +kernel
theorem dJx4a65c_fastRemove_b59b0_14 : decode cJx4a65c_fastRemove_b59b0 14 = .ok (.iconst 1, 1) := by decide +kernel
theorem dJx4a65c_fastRemove_b59b0_15 : decode cJx4a65c_fastRemove_b59b0 15 = .ok (.isub, 1) := by decide +kernel
theorem dJx4a65c_fastRemove_b59b0_16 : decode cJx4a65c_fastRemove_b59b0 16 = .ok (.dup, 1) := by decide +kernel
theorem dJx4a65c_fastRemove_b59b0_17 : decode cJx4a65c_fastRemove_b59b0 17 = .ok (.istore_n 3, 1) := by decide +kernel
theorem dJx4a65c_fastRemove_b59b0_18 : decode cJx4a65c_fastRemove_b59b0 18 = .ok (.iload_n 2, 1) := by decide +kernel
theorem dJx4a65c_fastRemove_b59b0_19 : decode cJx4a65c_fastRemove_b59b0 19 = .ok (.if_icmp .le 15, 3) := by decide +kernel
theorem dJx4a65c_fastRemove_b59b0_22 : decode cJx4a65c_fastRemove_b59b0 22 = .ok (.aload_n 1, 1) := by decide +kernel
theorem dJx4a65c_fastRemove_b59b0_23 : decode cJx4a65c_fastRemove_b59b0 23 = .ok (.iload_n 2, 1) := by decide +kernel
theorem dJx4a65c_fastRemove_b59b0_24 : decode cJx4a65c_fastRemove_b59b0 24 = .ok (.iconst 1, 1) := by decide +kernel
theorem dJx4a65c_fastRemove_b59b0_25 : decode cJx4a65c_fastRemove_b59b0 25 = .ok (.iadd, 1) := by decide +kernel
theorem dJx4a65c_fastRemove_b59b0_26 : decode cJx4a65c_fastRemove_b59b0 26 = .ok (.aload_n 1, 1) := by decide +kernel
theorem dJx4a65c_fastRemove_b59b0_27 : decode cJx4a65c_fastRemove_b59b0 27 = .ok (.iload_n 2, 1) := by decide +kernel
theorem dJx4a65c_fastRemove_b59b0_28 : decode cJx4a65c_fastRemove_b59b0 28 = .ok (.iload_n 3, 1) := by decide +kernel
theorem dJx4a65c_fastRemove_b59b0_29 : decode cJx4a65c_fastRemove_b59b0 29 = .ok (.iload_n 2, 1) := by decide +kernel
theorem dJx4a65c_fastRemove_b59b0_30 : decode cJx4a65c_fastRemove_b59b0 30 = .ok (.isub, 1) := by decide +kernel
theorem dJx4a65c_fastRemove_b59b0_31 : decode cJx4a65c_fastRemove_b59b0 31 = .ok (.invokestatic 112, 3) := by decide +kernel
theorem dJx4a65c_fastRemove_b59b0_34 : decode cJx4a65c_fastRemove_b59b0 34 = .ok (.aload_n 1, 1) := by decide +kernel
theorem dJx4a65c_fastRemove_b59b0_35 : decode cJx4a65c_fastRemove_b59b0 35 = .ok (.aload_n 0, 1) := by decide +kernel
theorem dJx4a65c_fastRemove_b59b0_36 : decode cJx4a65c_fastRemove_b59b0 36 = .ok (.iload_n 3, 1) := by decide +kernel
theorem dJx4a65c_fastRemove_b59b0_37 : decode cJx4a65c_fastRemove_b59b0 37 = .ok (.dup_x1, 1) := by decide +kernel
theorem dJx4a65c_fastRemove_b59b0_38 : decode cJx4a65c_fastRemove_b59b0 38 = .ok (.putfield 48, 3) := by decide +kernel
theorem dJx4a65c_fastRemove_b59b0_41 : decode cJx4a65c_fastRemove_b59b0 41 = .ok (.aconst_null, 1) := by decide +kernel
theorem dJx4a65c_fastRemove_b59b0_42 : decode cJx4a65c_fastRemove_b59b0 42 = .ok (.aastore, 1) := by decide +kernel
theorem dJx4a65c_fastRemove_b59b0_43 : decode cJx4a65c_fastRemove_b59b0 43 = .ok (.return_, 1) := by decide +kernel
theorem dJx4a65c_rangeCheckForAdd_d00df_0 : decode cJx4a65c_rangeCheckForAdd_d00df 0 = .ok (.iload_n 1, 1) := by decide +kernel
theorem dJx4a65c_rangeCheckForAdd_d00df_1 : decode cJx4a65c_rangeCheckForAdd_d00df 1 = .ok (.aload_n 0, 1) := by decide +kernel
theorem dJx4a65c_rangeCheckForAdd_d00df_2 : decode cJx4a65c_rangeCheckForAdd_d00df 2 = .ok (.getfield 48, 3) := by decide +kernel
theorem dJx4a65c_rangeCheckForAdd_d00df_5 : decode cJx4a65c_rangeCheckForAdd_d00df 5 = .ok (.if_icmp .gt 7, 3) := by decide +kernel
theorem dJx4a65c_rangeCheckForAdd_d00df_8 : decode cJx4a65c_rangeCheckForAdd_d00df 8 = .ok (.iload_n 1, 1) := by decide +kernel
theorem dJx4a65c_rangeCheckForAdd_d00df_9 : decode cJx4a65c_rangeCheckForAdd_d00df 9 = .ok (.ifCond .ge 16, 3) := by decide +kernel
theorem dJx4a65c_rangeCheckForAdd_d00df_12 : decode cJx4a65c_rangeCheckForAdd_d00df 12 = .ok (.new 187, 3) := by decide +kernel
theorem dJx4a65c_rangeCheckForAdd_d00df_15 : decode cJx4a65c_rangeCheckForAdd_d00df 15 = .ok (.dup, 1) := by decide +kernel
theorem dJx4a65c_rangeCheckForAdd_d00df_16 : decode cJx4a65c_rangeCheckForAdd_d00df 16 = .ok (.aload_n 0, 1) := by decide +kernel
theorem dJx4a65c_rangeCheckForAdd_d00df_17 : decode cJx4a65c_rangeCheckForAdd_d00df 17 = .ok (.iload_n 1, 1) := by decide +kernel
theorem dJx4a65c_rangeCheckForAdd_d00df_18 : decode cJx4a65c_rangeCheckForAdd_d00df 18 = .ok (.invokevirtual 198, 3) := by decide +kernel
theorem dJx4a65c_rangeCheckForAdd_d00df_21 : decode cJx4a65c_rangeCheckForAdd_d00df 21 = .ok (.invokespecial 193, 3) := by decide +kernel
theorem dJx4a65c_rangeCheckForAdd_d00df_24 : decode cJx4a65c_rangeCheckForAdd_d00df 24 = .ok (.athrow, 1) := by decide +kernel
theorem dJx4a65c_rangeCheckForAdd_d00df_25 : decode cJx4a65c_rangeCheckForAdd_d00df 25 = .ok (.return_, 1) := by decide +kernel
theorem dJxc12de_init_da8c8_0 : decode cJxc12de_init_da8c8 0 = .ok (.aload_n 0, 1) := by decide +kernel
theorem dJxc12de_init_da8c8_1 : decode cJxc12de_init_da8c8 1 = .ok (.invokespecial 1, 3) := by decide +kernel
theorem dJxc12de_init_da8c8_4 : decode cJxc12de_init_da8c8 4 = .ok (.aload_n 0, 1) := by decide +kernel
theorem dJxc12de_init_da8c8_5 : decode cJxc12de_init_da8c8 5 = .ok (.iconst 0, 1) := by decide +kernel
theorem dJxc12de_init_da8c8_6 : decode cJxc12de_init_da8c8 6 = .ok (.putfield 7, 3) := by decide +kernel
theorem dJxc12de_init_da8c8_9 : decode cJxc12de_init_da8c8 9 = .ok (.return_, 1) := by decide +kernel
theorem dJxa1e45_init_da8c8_0 : decode cJxa1e45_init_da8c8 0 = .ok (.aload_n 0, 1) := by decide +kernel
theorem dJxa1e45_init_da8c8_1 : decode cJxa1e45_init_da8c8 1 = .ok (.invokespecial 1, 3) := by decide +kernel
theorem dJxa1e45_init_da8c8_4 : decode cJxa1e45_init_da8c8 4 = .ok (.return_, 1) := by decide +kernel
theorem dJ7_copyOf_1904c_0 : decode cJ7_copyOf_1904c 0 = .ok (.aload_n 0, 1) := by decide +kernel
theorem dJ7_copyOf_1904c_1 : decode cJ7_copyOf_1904c 1 = .ok (.iload_n 1, 1) := by decide +kernel
theorem dJ7_copyOf_1904c_2 : decode cJ7_copyOf_1904c 2 = .ok (.aload_n 0, 1) := by decide +kernel
theorem dJ7_copyOf_1904c_3 : decode cJ7_copyOf_1904c 3 = .ok (.invokevirtual 86, 3) := by decide +kernel
theorem dJ7_copyOf_1904c_6 : decode cJ7_copyOf_1904c 6 = .ok (.invokestatic 300, 3) := by decide +kernel
theorem dJ7_copyOf_1904c_9 : decode cJ7_copyOf_1904c 9 = .ok (.areturn, 1) := by decide +kernel
theorem dJ7_copyOf_6403c_0 : decode cJ7_copyOf_6403c 0 = .ok (.aload_n 2, 1) := by decide +kernel
theorem dJ7_copyOf_6403c_1 : decode cJ7_copyOf_6403c 1 = .ok (.ldc 110, 2) := by decide +kernel
theorem dJ7_copyOf_6403c_3 : decode cJ7_copyOf_6403c 3 = .ok (.if_acmp .ne 10, 3) := by decide +kernel
theorem dJ7_copyOf_6403c_6 : decode cJ7_copyOf_6403c 6 = .ok (.iload_n 1, 1) := by decide +kernel
theorem dJ7_copyOf_6403c_7 : decode cJ7_copyOf_6403c 7 = .ok (.anewarray 2, 3) := by decide +kernel
theorem dJ7_copyOf_6403c_10 : decode cJ7_copyOf_6403c 10 = .ok (.goto 14, 3) := by decide +kernel
theorem dJ7_copyOf_6403c_13 : decode cJ7_copyOf_6403c 13 = .ok (.aload_n 2, 1) := by decide +kernel
theorem dJ7_copyOf_6403c_14 : decode cJ7_copyOf_6403c 14 = .ok (.invokevirtual 90, 3) := by decide +kernel
theorem dJ7_copyOf_6403c_17 : decode cJ7_copyOf_6403c 17 = .ok (.iload_n 1, 1) := by decide +kernel
theorem dJ7_copyOf_6403c_18 : decode cJ7_copyOf_6403c 18 = .ok (.invokestatic 95, 3) := by decide +kernel
theorem dJ7_copyOf_6403c_21 : decode cJ7_copyOf_6403c 21 = .ok (.checkcast 110, 3) := by decide +kernel
theorem dJ7_copyOf_6403c_24 : decode cJ7_copyOf_6403c 24 = .ok (.astore_n 3, 1) := by decide +kernel
theorem dJ7_copyOf_6403c_25 : decode cJ7_copyOf_6403c 25 = .ok (.aload_n 0, 1) := by decide +kernel
theorem dJ7_copyOf_6403c_26 : decode cJ7_copyOf_6403c 26 = .ok (.iconst 0, 1) := by decide +kernel
theorem dJ7_copyOf_6403c_27 : decode cJ7_copyOf_6403c 27 = .ok (.aload_n 3, 1) := by decide +kernel
theorem dJ7_copyOf_6403c_28 : decode cJ7_copyOf_6403c 28 = .ok (.iconst 0, 1) := by decide +kernel
theorem dJ7_copyOf_6403c_29 : decode cJ7_copyOf_6403c 29 = .ok (.aload_n 0, 1) := by decide +kernel
theorem dJ7_copyOf_6403c_30 : decode cJ7_copyOf_6403c 30 = .ok (.arraylength, 1) := by decide +kernel
theorem dJ7_copyOf_6403c_31 : decode cJ7_copyOf_6403c 31 = .ok (.iload_n 1, 1) := by decide +kernel
theorem dJ7_copyOf_6403c_32 : decode cJ7_copyOf_6403c 32 = .ok (.invokestatic 304, 3) := by decide +kernel
theorem dJ7_copyOf_6403c_35 : decode cJ7_copyOf_6403c 35 = .ok (.invokestatic 150, 3) := by decide +kernel
theorem dJ7_copyOf_6403c_38 : decode cJ7_copyOf_6403c 38 = .ok (.aload_n 3, 1) := by decide +kernel
theorem dJ7_copyOf_6403c_39 : decode cJ7_copyOf_6403c 39 = .ok (.areturn, 1) := by decide +kernel
theorem dJ15_checkIndex_7cf53_0 : decode cJ15_checkIndex_7cf53 0 = .ok (.iload_n 0, 1) := by decide +kernel
theorem dJ15_checkIndex_7cf53_1 : decode cJ15_checkIndex_7cf53 1 = .ok (.iload_n 1, 1) := by decide +kernel
theorem dJ15_checkIndex_7cf53_2 : decode cJ15_checkIndex_7cf53 2 = .ok (.aconst_null, 1) := by decide +kernel
theorem dJ15_checkIndex_7cf53_3 : decode cJ15_checkIndex_7cf53 3 = .ok (.invokestatic 105, 3) := by decide +kernel
theorem dJ15_checkIndex_7cf53_6 : decode cJ15_checkIndex_7cf53 6 = .ok (.ireturn, 1) := by decide +kernel
theorem dJ3_checkIndex_8e157_0 : decode cJ3_checkIndex_8e157 0 = .ok (.iload_n 0, 1) := by decide +kernel
theorem dJ3_checkIndex_8e157_1 : decode cJ3_checkIndex_8e157 1 = .ok (.ifCond .lt 8, 3) := by decide +kernel
theorem dJ3_checkIndex_8e157_4 : decode cJ3_checkIndex_8e157 4 = .ok (.iload_n 0, 1) := by decide +kernel
theorem dJ3_checkIndex_8e157_5 : decode cJ3_checkIndex_8e157 5 = .ok (.iload_n 1, 1) := by decide +kernel
theorem dJ3_checkIndex_8e157_6 : decode cJ3_checkIndex_8e157 6 = .ok (.if_icmp .lt 10, 3) := by decide +kernel
theorem dJ3_checkIndex_8e157_9 : decode cJ3_checkIndex_8e157 9 = .ok (.aload_n 2, 1) := by decide +kernel
theorem dJ3_checkIndex_8e157_10 : decode cJ3_checkIndex_8e157 10 = .ok (.iload_n 0, 1) := by decide +kernel
theorem dJ3_checkIndex_8e157_11 : decode cJ3_checkIndex_8e157 11 = .ok (.iload_n 1, 1) := by decide +kernel
theorem dJ3_checkIndex_8e157_12 : decode cJ3_checkIndex_8e157 12 = .ok (.invokestatic 95, 3) := by decide +kernel
theorem dJ3_checkIndex_8e157_15 : decode cJ3_checkIndex_8e157 15 = .ok (.athrow, 1) := by decide +kernel
theorem dJ3_checkIndex_8e157_16 : decode cJ3_checkIndex_8e157 16 = .ok (.iload_n 0, 1) := by decide +kernel
theorem dJ3_checkIndex_8e157_17 : decode cJ3_checkIndex_8e157 17 = .ok (.ireturn, 1) := by decide +kernel
theorem dJ8_newLength_cabcc_0 : decode cJ8_newLength_cabcc 0 = .ok (.iload_n 0, 1) := by decide +kernel
theorem dJ8_newLength_cabcc_1 : decode cJ8_newLength_cabcc 1 = .ok (.iload_n 1, 1) := by decide +kernel
theorem dJ8_newLength_cabcc_2 : decode cJ8_newLength_cabcc 2 = .ok (.iload_n 2, 1) := by decide +kernel
theorem dJ8_newLength_cabcc_3 : decode cJ8_newLength_cabcc 3 = .ok (.invokestatic 194, 3) := by decide +kernel
theorem dJ8_newLength_cabcc_6 : decode cJ8_newLength_cabcc 6 = .ok (.iadd, 1) := by decide +kernel
theorem dJ8_newLength_cabcc_7 : decode cJ8_newLength_cabcc 7 = .ok (.istore_n 3, 1) := by decide +kernel
theorem dJ8_newLength_cabcc_8 : decode cJ8_newLength_cabcc 8 = .ok (.iconst 0, 1) := by decide +kernel
theorem dJ8_newLength_cabcc_9 : decode cJ8_newLength_cabcc 9 = .ok (.iload_n 3, 1) := by decide +kernel
theorem dJ8_newLength_cabcc_10 : decode cJ8_newLength_cabcc 10 = .ok (.if_icmp .ge 11, 3) := by decide +kernel
theorem dJ8_newLength_cabcc_13 : decode cJ8_newLength_cabcc 13 = .ok (.iload_n 3, 1) := by decide +kernel
theorem dJ8_newLength_cabcc_14 : decode cJ8_newLength_cabcc 14 = .ok (.ldc 200, 2) := by decide +kernel
theorem dJ8_newLength_cabcc_16 : decode cJ8_newLength_cabcc 16 = .ok (.if_icmp .gt 5, 3) := by decide +kernel
theorem dJ8_newLength_cabcc_19 : decode cJ8_newLength_cabcc 19 = .ok (.iload_n 3, 1) := by decide +kernel
theorem dJ8_newLength_cabcc_20 : decode cJ8_newLength_cabcc 20 = .ok (.ireturn, 1) := by decide +kernel
theorem dJ8_newLength_cabcc_21 : decode cJ8_newLength_cabcc 21 = .ok (.iload_n 0, 1) := by decide +kernel
theorem dJ8_newLength_cabcc_22 : decode cJ8_newLength_cabcc 22 = .ok (.iload_n 1, 1) := by decide +kernel
theorem dJ8_newLength_cabcc_23 : decode cJ8_newLength_cabcc 23 = .ok (.invokestatic 201, 3) := by decide +kernel
theorem dJ8_newLength_cabcc_26 : decode cJ8_newLength_cabcc 26 = .ok (.ireturn, 1) := by decide +kernel
end
section
theorem dX0_init_0 : decode cX0_init 0 = .ok (.aload_n 0, 1) := by decide +kernel
theorem dX0_init_1 : decode cX0_init 1 = .ok (.invokespecial 1, 3) := by decide +kernel
theorem dX0_init_4 : decode cX0_init 4 = .ok (.aload_n 0, 1) := by decide +kernel
theorem dX0_init_5 : decode cX0_init 5 = .ok (.new 7, 3) := by decide +kernel
theorem dX0_init_8 : decode cX0_init 8 = .ok (.dup, 1) := by decide +kernel
theorem dX0_init_9 : decode cX0_init 9 = .ok (.invokespecial 9, 3) := by decide +kernel
theorem dX0_init_12 : decode cX0_init 12 = .ok (.putfield 10, 3) := by decide +kernel
theorem dX0_init_15 : decode cX0_init 15 = .ok (.aload_n 0, 1) := by decide +kernel
theorem dX0_init_16 : decode cX0_init 16 = .ok (.new 7, 3) := by decide +kernel
theorem dX0_init_19 : decode cX0_init 19 = .ok (.dup, 1) := by decide +kernel
theorem dX0_init_20 : decode cX0_init 20 = .ok (.invokespecial 9, 3) := by decide +kernel
theorem dX0_init_23 : decode cX0_init 23 = .ok (.putfield 16, 3) := by decide +kernel
theorem dX0_init_26 : decode cX0_init 26 = .ok (.aload_n 0, 1) := by decide +kernel
theorem dX0_init_27 : decode cX0_init 27 = .ok (.iload_n 1, 1) := by decide +kernel
theorem dX0_init_28 : decode cX0_init 28 = .ok (.putfield 19, 3) := by decide +kernel
theorem dX0_init_31 : decode cX0_init 31 = .ok (.aload_n 0, 1) := by decide +kernel
theorem dX0_init_32 : decode cX0_init 32 = .ok (.iload_n 2, 1) := by decide +kernel
theorem dX0_init_33 : decode cX0_init 33 = .ok (.putfield 23, 3) := by decide +kernel
theorem dX0_init_36 : decode cX0_init 36 = .ok (.aload_n 0, 1) := by decide +kernel
theorem dX0_init_37 : decode cX0_init 37 = .ok (.iload_n 3, 1) := by decide +kernel
theorem dX0_init_38 : decode cX0_init 38 = .ok (.putfield 26, 3) := by decide +kernel
theorem dX0_init_41 : decode cX0_init 41 = .ok (.return_, 1) := by decide +kernel
theorem dX0_insertDefect_0 : decode cX0_insertDefect 0 = .ok (.iconst 0, 1) := by decide +kernel
theorem dX0_insertDefect_1 : decode cX0_insertDefect 1 = .ok (.istore_n 2, 1) := by decide +kernel
theorem dX0_insertDefect_2 : decode cX0_insertDefect 2 = .ok (.iload_n 2, 1) := by decide +kernel
theorem dX0_insertDefect_3 : decode cX0_insertDefect 3 = .ok (.aload_n 0, 1) := by decide +kernel
theorem dX0_insertDefect_4 : decode cX0_insertDefect 4 = .ok (.getfield 10, 3) := by decide +kernel
theorem dX0_insertDefect_7 : decode cX0_insertDefect 7 = .ok (.invokevirtual 29, 3) := by decide +kernel
theorem dX0_insertDefect_10 : decode cX0_insertDefect 10 = .ok (.if_icmp .ge 30, 3) := by decide +kernel
theorem dX0_insertDefect_13 : decode cX0_insertDefect 13 = .ok (.aload_n 0, 1) := by decide +kernel
theorem dX0_insertDefect_14 : decode cX0_insertDefect 14 = .ok (.getfield 10, 3) := by decide +kernel
theorem dX0_insertDefect_17 : decode cX0_insertDefect 17 = .ok (.iload_n 2, 1) := by decide +kernel
theorem dX0_insertDefect_18 : decode cX0_insertDefect 18 = .ok (.invokevirtual 33, 3) := by decide +kernel
theorem dX0_insertDefect_21 : decode cX0_insertDefect 21 = .ok (.checkcast 37, 3) := by decide +kernel
theorem dX0_insertDefect_24 : decode cX0_insertDefect 24 = .ok (.getfield 39, 3) := by decide +kernel
theorem dX0_insertDefect_27 : decode cX0_insertDefect 27 = .ok (.aload_n 1, 1) := by decide +kernel
theorem dX0_insertDefect_28 : decode cX0_insertDefect 28 = .ok (.getfield 39, 3) := by decide +kernel
theorem dX0_insertDefect_31 : decode cX0_insertDefect 31 = .ok (.if_icmp .gt 9, 3) := by decide +kernel
theorem dX0_insertDefect_34 : decode cX0_insertDefect 34 = .ok (.iinc 2 1, 3) := by decide +kernel
theorem dX0_insertDefect_37 : decode cX0_insertDefect 37 = .ok (.goto (-35), 3) := by decide +kernel
theorem dX0_insertDefect_40 : decode cX0_insertDefect 40 = .ok (.aload_n 0, 1) := by decide +kernel
theorem dX0_insertDefect_41 : decode cX0_insertDefect 41 = .ok (.getfield 10, 3) := by decide +kernel
theorem dX0_insertDefect_44 : decode cX0_insertDefect 44 = .ok (.iload_n 2, 1) := by decide +kernel
theorem dX0_insertDefect_45 : decode cX0_insertDefect 45 = .ok (.aload_n 1, 1) := by decide +kernel
theorem dX0_insertDefect_46 : decode cX0_insertDefect 46 = .ok (.invokevirtual 42, 3) := by decide +kernel
theorem dX0_insertDefect_49 : decode cX0_insertDefect 49 = .ok (.return_, 1) := by decide +kernel
theorem dX0_insertPiece_0 : decode cX0_insertPiece 0 = .ok (.iconst 0, 1) := by decide +kernel
theorem dX0_insertPiece_1 : decode cX0_insertPiece 1 = .ok (.istore_n 2, 1) := by decide +kernel
theorem dX0_insertPiece_2 : decode cX0_insertPiece 2 = .ok (.iload_n 2, 1) := by decide +kernel
theorem dX0_insertPiece_3 : decode cX0_insertPiece 3 = .ok (.aload_n 0, 1) := by decide +kernel
theorem dX0_insertPiece_4 : decode cX0_insertPiece 4 = .ok (.getfield 16, 3) := by decide +kernel
theorem dX0_insertPiece_7 : decode cX0_insertPiece 7 = .ok (.invokevirtual 29, 3) := by decide +kernel
theorem dX0_insertPiece_10 : decode cX0_insertPiece 10 = .ok (.if_icmp .ge 30, 3) := by decide +kernel
theorem dX0_insertPiece_13 : decode cX0_insertPiece 13 = .ok (.aload_n 0, 1) := by decide +kernel
theorem dX0_insertPiece_14 : decode cX0_insertPiece 14 = .ok (.getfield 16, 3) := by decide +kernel
theorem dX0_insertPiece_17 : decode cX0_insertPiece 17 = .ok (.iload_n 2, 1) := by decide +kernel
theorem dX0_insertPiece_18 : decode cX0_insertPiece 18 = .ok (.invokevirtual 33, 3) := by decide +kernel
theorem dX0_insertPiece_21 : decode cX0_insertPiece 21 = .ok (.checkcast 46, 3) := by decide +kernel
theorem dX0_insertPiece_24 : decode cX0_insertPiece 24 = .ok (.getfield 48, 3) := by decide +kernel
theorem dX0_insertPiece_27 : decode cX0_insertPiece 27 = .ok (.aload_n 1, 1) := by decide +kernel
theorem dX0_insertPiece_28 : decode cX0_insertPiece 28 = .ok (.getfield 48, 3) := by decide +kernel
theorem dX0_insertPiece_31 : decode cX0_insertPiece 31 = .ok (.if_icmp .ge 9, 3) := by decide +kernel
theorem dX0_insertPiece_34 : decode cX0_insertPiece 34 = .ok (.iinc 2 1, 3) := by decide +kernel
theorem dX0_insertPiece_37 : decode cX0_insertPiece 37 = .ok (.goto (-35), 3) := by decide +kernel
theorem dX0_insertPiece_40 : decode cX0_insertPiece 40 = .ok (.aload_n 0, 1) := by decide +kernel
theorem dX0_insertPiece_41 : decode cX0_insertPiece 41 = .ok (.getfield 16, 3) := by decide +kernel
theorem dX0_insertPiece_44 : decode cX0_insertPiece 44 = .ok (.iload_n 2, 1) := by decide +kernel
theorem dX0_insertPiece_45 : decode cX0_insertPiece 45 = .ok (.aload_n 1, 1) := by decide +kernel
theorem dX0_insertPiece_46 : decode cX0_insertPiece 46 = .ok (.invokevirtual 42, 3) := by decide +kernel
theorem dX0_insertPiece_49 : decode cX0_insertPiece 49 = .ok (.return_, 1) := by decide +kernel
theorem dX0_removePiece_0 : decode cX0_removePiece 0 = .ok (.iconst 0, 1) := by decide +kernel
theorem dX0_removePiece_1 : decode cX0_removePiece 1 = .ok (.istore_n 2, 1) := by decide +kernel
theorem dX0_removePiece_2 : decode cX0_removePiece 2 = .ok (.iload_n 2, 1) := by decide +kernel
theorem dX0_removePiece_3 : decode cX0_removePiece 3 = .ok (.aload_n 0, 1) := by decide +kernel
theorem dX0_removePiece_4 : decode cX0_removePiece 4 = .ok (.getfield 16, 3) := by decide +kernel
theorem dX0_removePiece_7 : decode cX0_removePiece 7 = .ok (.invokevirtual 29, 3) := by decide +kernel
theorem dX0_removePiece_10 : decode cX0_removePiece 10 = .ok (.if_icmp .ge 31, 3) := by decide +kernel
theorem dX0_removePiece_13 : decode cX0_removePiece 13 = .ok (.aload_n 0, 1) := by decide +kernel
theorem dX0_removePiece_14 : decode cX0_removePiece 14 = .ok (.getfield 16, 3) := by decide +kernel
theorem dX0_removePiece_17 : decode cX0_removePiece 17 = .ok (.iload_n 2, 1) := by decide +kernel
theorem dX0_removePiece_18 : decode cX0_removePiece 18 = .ok (.invokevirtual 33, 3) := by decide +kernel
theorem dX0_removePiece_21 : decode cX0_removePiece 21 = .ok (.aload_n 1, 1) := by decide +kernel
theorem dX0_removePiece_22 : decode cX0_removePiece 22 = .ok (.if_acmp .ne 13, 3) := by decide +kernel
theorem dX0_removePiece_25 : decode cX0_removePiece 25 = .ok (.aload_n 0, 1) := by decide +kernel
theorem dX0_removePiece_26 : decode cX0_removePiece 26 = .ok (.getfield 16, 3) := by decide +kernel
theorem dX0_removePiece_29 : decode cX0_removePiece 29 = .ok (.iload_n 2, 1) := by decide +kernel
theorem dX0_removePiece_30 : decode cX0_removePiece 30 = .ok (.invokevirtual 49, 3) := by decide +kernel
theorem dX0_removePiece_33 : decode cX0_removePiece 33 = .ok (.pop, 1) := by decide +kernel
theorem dX0_removePiece_34 : decode cX0_removePiece 34 = .ok (.return_, 1) := by decide +kernel
theorem dX0_removePiece_35 : decode cX0_removePiece 35 = .ok (.iinc 2 1, 3) := by decide +kernel
theorem dX0_removePiece_38 : decode cX0_removePiece 38 = .ok (.goto (-36), 3) := by decide +kernel
theorem dX0_removePiece_41 : decode cX0_removePiece 41 = .ok (.return_, 1) := by decide +kernel
theorem dX0_hasPieceSpoiledBy_0 : decode cX0_hasPieceSpoiledBy 0 = .ok (.iconst 0, 1) := by decide +kernel
theorem dX0_hasPieceSpoiledBy_1 : decode cX0_hasPieceSpoiledBy 1 = .ok (.istore 4, 2) := by decide +kernel
theorem dX0_hasPieceSpoiledBy_3 : decode cX0_hasPieceSpoiledBy 3 = .ok (.iload 4, 2) := by decide +kernel
theorem dX0_hasPieceSpoiledBy_5 : decode cX0_hasPieceSpoiledBy 5 = .ok (.aload_n 0, 1) := by decide +kernel
theorem dX0_hasPieceSpoiledBy_6 : decode cX0_hasPieceSpoiledBy 6 = .ok (.getfield 16, 3) := by decide +kernel
theorem dX0_hasPieceSpoiledBy_9 : decode cX0_hasPieceSpoiledBy 9 = .ok (.invokevirtual 29, 3) := by decide +kernel
theorem dX0_hasPieceSpoiledBy_12 : decode cX0_hasPieceSpoiledBy 12 = .ok (.if_icmp .ge 55, 3) := by decide +kernel
theorem dX0_hasPieceSpoiledBy_15 : decode cX0_hasPieceSpoiledBy 15 = .ok (.aload_n 0, 1) := by decide +kernel
theorem dX0_hasPieceSpoiledBy_16 : decode cX0_hasPieceSpoiledBy 16 = .ok (.getfield 16, 3) := by decide +kernel
theorem dX0_hasPieceSpoiledBy_19 : decode cX0_hasPieceSpoiledBy 19 = .ok (.iload 4, 2) := by decide +kernel
theorem dX0_hasPieceSpoiledBy_21 : decode cX0_hasPieceSpoiledBy 21 = .ok (.invokevirtual 33, 3) := by decide +kernel
theorem dX0_hasPieceSpoiledBy_24 : decode cX0_hasPieceSpoiledBy 24 = .ok (.checkcast 46, 3) := by decide +kernel
theorem dX0_hasPieceSpoiledBy_27 : decode cX0_hasPieceSpoiledBy 27 = .ok (.astore 5, 2) := by decide +kernel
theorem dX0_hasPieceSpoiledBy_29 : decode cX0_hasPieceSpoiledBy 29 = .ok (.aload 5, 2) := by decide +kernel
theorem dX0_hasPieceSpoiledBy_31 : decode cX0_hasPieceSpoiledBy 31 = .ok (.getfield 48, 3) := by decide +kernel
theorem dX0_hasPieceSpoiledBy_34 : decode cX0_hasPieceSpoiledBy 34 = .ok (.iload_n 2, 1) := by decide +kernel
theorem dX0_hasPieceSpoiledBy_35 : decode cX0_hasPieceSpoiledBy 35 = .ok (.if_icmp .ge 26, 3) := by decide +kernel
theorem dX0_hasPieceSpoiledBy_38 : decode cX0_hasPieceSpoiledBy 38 = .ok (.iload_n 1, 1) := by decide +kernel
theorem dX0_hasPieceSpoiledBy_39 : decode cX0_hasPieceSpoiledBy 39 = .ok (.aload 5, 2) := by decide +kernel
theorem dX0_hasPieceSpoiledBy_41 : decode cX0_hasPieceSpoiledBy 41 = .ok (.getfield 52, 3) := by decide +kernel
theorem dX0_hasPieceSpoiledBy_44 : decode cX0_hasPieceSpoiledBy 44 = .ok (.if_icmp .ge 17, 3) := by decide +kernel
theorem dX0_hasPieceSpoiledBy_47 : decode cX0_hasPieceSpoiledBy 47 = .ok (.iload_n 3, 1) := by decide +kernel
theorem dX0_hasPieceSpoiledBy_48 : decode cX0_hasPieceSpoiledBy 48 = .ok (.aload 5, 2) := by decide +kernel
theorem dX0_hasPieceSpoiledBy_50 : decode cX0_hasPieceSpoiledBy 50 = .ok (.getfield 55, 3) := by decide +kernel
theorem dX0_hasPieceSpoiledBy_53 : decode cX0_hasPieceSpoiledBy 53 = .ok (.getfield 59, 3) := by decide +kernel
theorem dX0_hasPieceSpoiledBy_56 : decode cX0_hasPieceSpoiledBy 56 = .ok (.if_icmp .le 5, 3) := by decide +kernel
theorem dX0_hasPieceSpoiledBy_59 : decode cX0_hasPieceSpoiledBy 59 = .ok (.iconst 1, 1) := by decide +kernel
theorem dX0_hasPieceSpoiledBy_60 : decode cX0_hasPieceSpoiledBy 60 = .ok (.ireturn, 1) := by decide +kernel
theorem dX0_hasPieceSpoiledBy_61 : decode cX0_hasPieceSpoiledBy 61 = .ok (.iinc 4 1, 3) := by decide +kernel
theorem dX0_hasPieceSpoiledBy_64 : decode cX0_hasPieceSpoiledBy 64 = .ok (.goto (-61), 3) := by decide +kernel
theorem dX0_hasPieceSpoiledBy_67 : decode cX0_hasPieceSpoiledBy 67 = .ok (.iconst 0, 1) := by decide +kernel
theorem dX0_hasPieceSpoiledBy_68 : decode cX0_hasPieceSpoiledBy 68 = .ok (.ireturn, 1) := by decide +kernel
theorem dX0_gradeAt_0 : decode cX0_gradeAt 0 = .ok (.aload_n 0, 1) := by decide +kernel
theorem dX0_gradeAt_1 : decode cX0_gradeAt 1 = .ok (.getfield 26, 3) := by decide +kernel
theorem dX0_gradeAt_4 : decode cX0_gradeAt 4 = .ok (.istore_n 2, 1) := by decide +kernel
theorem dX0_gradeAt_5 : decode cX0_gradeAt 5 = .ok (.iconst 0, 1) := by decide +kernel
theorem dX0_gradeAt_6 : decode cX0_gradeAt 6 = .ok (.istore_n 3, 1) := by decide +kernel
theorem dX0_gradeAt_7 : decode cX0_gradeAt 7 = .ok (.iload_n 3, 1) := by decide +kernel
theorem dX0_gradeAt_8 : decode cX0_gradeAt 8 = .ok (.aload_n 0, 1) := by decide +kernel
theorem dX0_gradeAt_9 : decode cX0_gradeAt 9 = .ok (.getfield 10, 3) := by decide +kernel
theorem dX0_gradeAt_12 : decode cX0_gradeAt 12 = .ok (.invokevirtual 29, 3) := by decide +kernel
theorem dX0_gradeAt_15 : decode cX0_gradeAt 15 = .ok (.if_icmp .ge 50, 3) := by decide +kernel
theorem dX0_gradeAt_18 : decode cX0_gradeAt 18 = .ok (.aload_n 0, 1) := by decide +kernel
theorem dX0_gradeAt_19 : decode cX0_gradeAt 19 = .ok (.getfield 10, 3) := by decide +kernel
theorem dX0_gradeAt_22 : decode cX0_gradeAt 22 = .ok (.iload_n 3, 1) := by decide +kernel
theorem dX0_gradeAt_23 : decode cX0_gradeAt 23 = .ok (.invokevirtual 33, 3) := by decide +kernel
theorem dX0_gradeAt_26 : decode cX0_gradeAt 26 = .ok (.checkcast 37, 3) := by decide +kernel
theorem dX0_gradeAt_29 : decode cX0_gradeAt 29 = .ok (.astore 4, 2) := by decide +kernel
theorem dX0_gradeAt_31 : decode cX0_gradeAt 31 = .ok (.aload 4, 2) := by decide +kernel
theorem dX0_gradeAt_33 : decode cX0_gradeAt 33 = .ok (.getfield 39, 3) := by decide +kernel
theorem dX0_gradeAt_36 : decode cX0_gradeAt 36 = .ok (.iload_n 1, 1) := by decide +kernel
theorem dX0_gradeAt_37 : decode cX0_gradeAt 37 = .ok (.if_icmp .gt 22, 3) := by decide +kernel
theorem dX0_gradeAt_40 : decode cX0_gradeAt 40 = .ok (.iload_n 1, 1) := by decide +kernel
theorem dX0_gradeAt_41 : decode cX0_gradeAt 41 = .ok (.aload 4, 2) := by decide +kernel
theorem dX0_gradeAt_43 : decode cX0_gradeAt 43 = .ok (.getfield 62, 3) := by decide +kernel
theorem dX0_gradeAt_46 : decode cX0_gradeAt 46 = .ok (.if_icmp .ge 13, 3) := by decide +kernel
theorem dX0_gradeAt_49 : decode cX0_gradeAt 49 = .ok (.iload_n 2, 1) := by decide +kernel
theorem dX0_gradeAt_50 : decode cX0_gradeAt 50 = .ok (.aload 4, 2) := by decide +kernel
theorem dX0_gradeAt_52 : decode cX0_gradeAt 52 = .ok (.getfield 63, 3) := by decide +kernel
theorem dX0_gradeAt_55 : decode cX0_gradeAt 55 = .ok (.invokestatic 64, 3) := by decide +kernel
theorem dX0_gradeAt_58 : decode cX0_gradeAt 58 = .ok (.istore_n 2, 1) := by decide +kernel
theorem dX0_gradeAt_59 : decode cX0_gradeAt 59 = .ok (.iinc 3 1, 3) := by decide +kernel
theorem dX0_gradeAt_62 : decode cX0_gradeAt 62 = .ok (.goto (-55), 3) := by decide +kernel
theorem dX0_gradeAt_65 : decode cX0_gradeAt 65 = .ok (.iload_n 2, 1) := by decide +kernel
theorem dX0_gradeAt_66 : decode cX0_gradeAt 66 = .ok (.ireturn, 1) := by decide +kernel
theorem dX0_firstWorse_0 : decode cX0_firstWorse 0 = .ok (.aload_n 0, 1) := by decide +kernel
theorem dX0_firstWorse_1 : decode cX0_firstWorse 1 = .ok (.getfield 26, 3) := by decide +kernel
theorem dX0_firstWorse_4 : decode cX0_firstWorse 4 = .ok (.iload_n 2, 1) := by decide +kernel
theorem dX0_firstWorse_5 : decode cX0_firstWorse 5 = .ok (.if_icmp .le 5, 3) := by decide +kernel
theorem dX0_firstWorse_8 : decode cX0_firstWorse 8 = .ok (.iload_n 1, 1) := by decide +kernel
theorem dX0_firstWorse_9 : decode cX0_firstWorse 9 = .ok (.ireturn, 1) := by decide +kernel
theorem dX0_firstWorse_10 : decode cX0_firstWorse 10 = .ok (.iconst 0, 1) := by decide +kernel
theorem dX0_firstWorse_11 : decode cX0_firstWorse 11 = .ok (.istore_n 3, 1) := by decide +kernel
theorem dX0_firstWorse_12 : decode cX0_firstWorse 12 = .ok (.iload_n 3, 1) := by decide +kernel
theorem dX0_firstWorse_13 : decode cX0_firstWorse 13 = .ok (.aload_n 0, 1) := by decide +kernel
theorem dX0_firstWorse_14 : decode cX0_firstWorse 14 = .ok (.getfield 10, 3) := by decide +kernel
theorem dX0_firstWorse_17 : decode cX0_firstWorse 17 = .ok (.invokevirtual 29, 3) := by decide +kernel
theorem dX0_firstWorse_20 : decode cX0_firstWorse 20 = .ok (.if_icmp .ge 50, 3) := by decide +kernel
theorem dX0_firstWorse_23 : decode cX0_firstWorse 23 = .ok (.aload_n 0, 1) := by decide +kernel
theorem dX0_firstWorse_24 : decode cX0_firstWorse 24 = .ok (.getfield 10, 3) := by decide +kernel
theorem dX0_firstWorse_27 : decode cX0_firstWorse 27 = .ok (.iload_n 3, 1) := by decide +kernel
theorem dX0_firstWorse_28 : decode cX0_firstWorse 28 = .ok (.invokevirtual 33, 3) := by decide +kernel
theorem dX0_firstWorse_31 : decode cX0_firstWorse 31 = .ok (.checkcast 37, 3) := by decide +kernel
theorem dX0_firstWorse_34 : decode cX0_firstWorse 34 = .ok (.astore 4, 2) := by decide +kernel
theorem dX0_firstWorse_36 : decode cX0_firstWorse 36 = .ok (.aload 4, 2) := by decide +kernel
theorem dX0_firstWorse_38 : decode cX0_firstWorse 38 = .ok (.getfield 63, 3) := by decide +kernel
theorem dX0_firstWorse_41 : decode cX0_firstWorse 41 = .ok (.iload_n 2, 1) := by decide +kernel
theorem dX0_firstWorse_42 : decode cX0_firstWorse 42 = .ok (.if_icmp .le 22, 3) := by decide +kernel
theorem dX0_firstWorse_45 : decode cX0_firstWorse 45 = .ok (.aload 4, 2) := by decide +kernel
theorem dX0_firstWorse_47 : decode cX0_firstWorse 47 = .ok (.getfield 62, 3) := by decide +kernel
theorem dX0_firstWorse_50 : decode cX0_firstWorse 50 = .ok (.iload_n 1, 1) := by decide +kernel
theorem dX0_firstWorse_51 : decode cX0_firstWorse 51 = .ok (.if_icmp .le 13, 3) := by decide +kernel
theorem dX0_firstWorse_54 : decode cX0_firstWorse 54 = .ok (.aload 4, 2) := by decide +kernel
theorem dX0_firstWorse_56 : decode cX0_firstWorse 56 = .ok (.getfield 39, 3) := by decide +kernel
theorem dX0_firstWorse_59 : decode cX0_firstWorse 59 = .ok (.iload_n 1, 1) := by decide +kernel
theorem dX0_firstWorse_60 : decode cX0_firstWorse 60 = .ok (.invokestatic 64, 3) := by decide +kernel
theorem dX0_firstWorse_63 : decode cX0_firstWorse 63 = .ok (.ireturn, 1) := by decide +kernel
theorem dX0_firstWorse_64 : decode cX0_firstWorse 64 = .ok (.iinc 3 1, 3) := by decide +kernel
theorem dX0_firstWorse_67 : decode cX0_firstWorse 67 = .ok (.goto (-55), 3) := by decide +kernel
theorem dX0_firstWorse_70 : decode cX0_firstWorse 70 = .ok (.aload_n 0, 1) := by decide +kernel
theorem dX0_firstWorse_71 : decode cX0_firstWorse 71 = .ok (.getfield 19, 3) := by decide +kernel
theorem dX0_firstWorse_74 : decode cX0_firstWorse 74 = .ok (.ireturn, 1) := by decide +kernel
theorem dX0_firstGood_0 : decode cX0_firstGood 0 = .ok (.aload_n 0, 1) := by decide +kernel
theorem dX0_firstGood_1 : decode cX0_firstGood 1 = .ok (.getfield 26, 3) := by decide +kernel
theorem dX0_firstGood_4 : decode cX0_firstGood 4 = .ok (.iload_n 2, 1) := by decide +kernel
theorem dX0_firstGood_5 : decode cX0_firstGood 5 = .ok (.if_icmp .le 8, 3) := by decide +kernel
theorem dX0_firstGood_8 : decode cX0_firstGood 8 = .ok (.aload_n 0, 1) := by decide +kernel
theorem dX0_firstGood_9 : decode cX0_firstGood 9 = .ok (.getfield 19, 3) := by decide +kernel
theorem dX0_firstGood_12 : decode cX0_firstGood 12 = .ok (.ireturn, 1) := by decide +kernel
theorem dX0_firstGood_13 : decode cX0_firstGood 13 = .ok (.iload_n 1, 1) := by decide +kernel
theorem dX0_firstGood_14 : decode cX0_firstGood 14 = .ok (.istore_n 3, 1) := by decide +kernel
theorem dX0_firstGood_15 : decode cX0_firstGood 15 = .ok (.iconst 0, 1) := by decide +kernel
theorem dX0_firstGood_16 : decode cX0_firstGood 16 = .ok (.istore 4, 2) := by decide +kernel
theorem dX0_firstGood_18 : decode cX0_firstGood 18 = .ok (.iload 4, 2) := by decide +kernel
theorem dX0_firstGood_20 : decode cX0_firstGood 20 = .ok (.aload_n 0, 1) := by decide +kernel
theorem dX0_firstGood_21 : decode cX0_firstGood 21 = .ok (.getfield 10, 3) := by decide +kernel
theorem dX0_firstGood_24 : decode cX0_firstGood 24 = .ok (.invokevirtual 29, 3) := by decide +kernel
theorem dX0_firstGood_27 : decode cX0_firstGood 27 = .ok (.if_icmp .ge 56, 3) := by decide +kernel
theorem dX0_firstGood_30 : decode cX0_firstGood 30 = .ok (.aload_n 0, 1) := by decide +kernel
theorem dX0_firstGood_31 : decode cX0_firstGood 31 = .ok (.getfield 10, 3) := by decide +kernel
theorem dX0_firstGood_34 : decode cX0_firstGood 34 = .ok (.iload 4, 2) := by decide +kernel
theorem dX0_firstGood_36 : decode cX0_firstGood 36 = .ok (.invokevirtual 33, 3) := by decide +kernel
theorem dX0_firstGood_39 : decode cX0_firstGood 39 = .ok (.checkcast 37, 3) := by decide +kernel
theorem dX0_firstGood_42 : decode cX0_firstGood 42 = .ok (.astore 5, 2) := by decide +kernel
theorem dX0_firstGood_44 : decode cX0_firstGood 44 = .ok (.aload 5, 2) := by decide +kernel
theorem dX0_firstGood_46 : decode cX0_firstGood 46 = .ok (.getfield 63, 3) := by decide +kernel
theorem dX0_firstGood_49 : decode cX0_firstGood 49 = .ok (.iload_n 2, 1) := by decide +kernel
theorem dX0_firstGood_50 : decode cX0_firstGood 50 = .ok (.if_icmp .le 27, 3) := by decide +kernel
theorem dX0_firstGood_53 : decode cX0_firstGood 53 = .ok (.aload 5, 2) := by decide +kernel
theorem dX0_firstGood_55 : decode cX0_firstGood 55 = .ok (.getfield 39, 3) := by decide +kernel
theorem dX0_firstGood_58 : decode cX0_firstGood 58 = .ok (.iload_n 3, 1) := by decide +kernel
theorem dX0_firstGood_59 : decode cX0_firstGood 59 = .ok (.if_icmp .gt 18, 3) := by decide +kernel
theorem dX0_firstGood_62 : decode cX0_firstGood 62 = .ok (.iload_n 3, 1) := by decide +kernel
theorem dX0_firstGood_63 : decode cX0_firstGood 63 = .ok (.aload 5, 2) := by decide +kernel
theorem dX0_firstGood_65 : decode cX0_firstGood 65 = .ok (.getfield 62, 3) := by decide +kernel
theorem dX0_firstGood_68 : decode cX0_firstGood 68 = .ok (.if_icmp .ge 9, 3) := by decide +kernel
theorem dX0_firstGood_71 : decode cX0_firstGood 71 = .ok (.aload 5, 2) := by decide +kernel
theorem dX0_firstGood_73 : decode cX0_firstGood 73 = .ok (.getfield 62, 3) := by decide +kernel
theorem dX0_firstGood_76 : decode cX0_firstGood 76 = .ok (.istore_n 3, 1) := by decide +kernel
theorem dX0_firstGood_77 : decode cX0_firstGood 77 = .ok (.iinc 4 1, 3) := by decide +kernel
theorem dX0_firstGood_80 : decode cX0_firstGood 80 = .ok (.goto (-62), 3) := by decide +kernel
theorem dX0_firstGood_83 : decode cX0_firstGood 83 = .ok (.iload_n 3, 1) := by decide +kernel
theorem dX0_firstGood_84 : decode cX0_firstGood 84 = .ok (.ireturn, 1) := by decide +kernel
theorem dX0_nextStretchStart_0 : decode cX0_nextStretchStart 0 = .ok (.aload_n 0, 1) := by decide +kernel
theorem dX0_nextStretchStart_1 : decode cX0_nextStretchStart 1 = .ok (.aload_n 0, 1) := by decide +kernel
theorem dX0_nextStretchStart_2 : decode cX0_nextStretchStart 2 = .ok (.iload_n 1, 1) := by decide +kernel
theorem dX0_nextStretchStart_3 : decode cX0_nextStretchStart 3 = .ok (.iload_n 2, 1) := by decide +kernel
theorem dX0_nextStretchStart_4 : decode cX0_nextStretchStart 4 = .ok (.invokevirtual 70, 3) := by decide +kernel
theorem dX0_nextStretchStart_7 : decode cX0_nextStretchStart 7 = .ok (.iload_n 2, 1) := by decide +kernel
theorem dX0_nextStretchStart_8 : decode cX0_nextStretchStart 8 = .ok (.invokevirtual 73, 3) := by decide +kernel
theorem dX0_nextStretchStart_11 : decode cX0_nextStretchStart 11 = .ok (.ireturn, 1) := by decide +kernel
theorem dX0_countStretches_0 : decode cX0_countStretches 0 = .ok (.iconst 0, 1) := by decide +kernel
theorem dX0_countStretches_1 : decode cX0_countStretches 1 = .ok (.istore_n 2, 1) := by decide +kernel
theorem dX0_countStretches_2 : decode cX0_countStretches 2 = .ok (.aload_n 0, 1) := by decide +kernel
theorem dX0_countStretches_3 : decode cX0_countStretches 3 = .ok (.iconst 0, 1) := by decide +kernel
theorem dX0_countStretches_4 : decode cX0_countStretches 4 = .ok (.iload_n 1, 1) := by decide +kernel
theorem dX0_countStretches_5 : decode cX0_countStretches 5 = .ok (.invokevirtual 73, 3) := by decide +kernel
theorem dX0_countStretches_8 : decode cX0_countStretches 8 = .ok (.istore_n 3, 1) := by decide +kernel
theorem dX0_countStretches_9 : decode cX0_countStretches 9 = .ok (.iload_n 3, 1) := by decide +kernel
theorem dX0_countStretches_10 : decode cX0_countStretches 10 = .ok (.aload_n 0, 1) := by decide +kernel
theorem dX0_countStretches_11 : decode cX0_countStretches 11 = .ok (.getfield 19, 3) := by decide +kernel
theorem dX0_countStretches_14 : decode cX0_countStretches 14 = .ok (.if_icmp .ge 27, 3) := by decide +kernel
theorem dX0_countStretches_17 : decode cX0_countStretches 17 = .ok (.iload_n 2, 1) := by decide +kernel
theorem dX0_countStretches_18 : decode cX0_countStretches 18 = .ok (.aload_n 0, 1) := by decide +kernel
theorem dX0_countStretches_19 : decode cX0_countStretches 19 = .ok (.getfield 10, 3) := by decide +kernel
theorem dX0_countStretches_22 : decode cX0_countStretches 22 = .ok (.invokevirtual 29, 3) := by decide +kernel
theorem dX0_countStretches_25 : decode cX0_countStretches 25 = .ok (.if_icmp .gt 16, 3) := by decide +kernel
theorem dX0_countStretches_28 : decode cX0_countStretches 28 = .ok (.iinc 2 1, 3) := by decide +kernel
theorem dX0_countStretches_31 : decode cX0_countStretches 31 = .ok (.aload_n 0, 1) := by decide +kernel
theorem dX0_countStretches_32 : decode cX0_countStretches 32 = .ok (.iload_n 3, 1) := by decide +kernel
theorem dX0_countStretches_33 : decode cX0_countStretches 33 = .ok (.iload_n 1, 1) := by decide +kernel
theorem dX0_countStretches_34 : decode cX0_countStretches 34 = .ok (.invokevirtual 76, 3) := by decide +kernel
theorem dX0_countStretches_37 : decode cX0_countStretches 37 = .ok (.istore_n 3, 1) := by decide +kernel
theorem dX0_countStretches_38 : decode cX0_countStretches 38 = .ok (.goto (-29), 3) := by decide +kernel
theorem dX0_countStretches_41 : decode cX0_countStretches 41 = .ok (.iload_n 2, 1) := by decide +kernel
theorem dX0_countStretches_42 : decode cX0_countStretches 42 = .ok (.ireturn, 1) := by decide +kernel
theorem dX0_stretchStart_0 : decode cX0_stretchStart 0 = .ok (.aload_n 0, 1) := by decide +kernel
theorem dX0_stretchStart_1 : decode cX0_stretchStart 1 = .ok (.iconst 0, 1) := by decide +kernel
theorem dX0_stretchStart_2 : decode cX0_stretchStart 2 = .ok (.iload_n 2, 1) := by decide +kernel
theorem dX0_stretchStart_3 : decode cX0_stretchStart 3 = .ok (.invokevirtual 73, 3) := by decide +kernel
theorem dX0_stretchStart_6 : decode cX0_stretchStart 6 = .ok (.istore_n 3, 1) := by decide +kernel
theorem dX0_stretchStart_7 : decode cX0_stretchStart 7 = .ok (.iconst 0, 1) := by decide +kernel
theorem dX0_stretchStart_8 : decode cX0_stretchStart 8 = .ok (.istore 4, 2) := by decide +kernel
theorem dX0_stretchStart_10 : decode cX0_stretchStart 10 = .ok (.iload 4, 2) := by decide +kernel
theorem dX0_stretchStart_12 : decode cX0_stretchStart 12 = .ok (.iload_n 1, 1) := by decide +kernel
theorem dX0_stretchStart_13 : decode cX0_stretchStart 13 = .ok (.if_icmp .ge 24, 3) := by decide +kernel
theorem dX0_stretchStart_16 : decode cX0_stretchStart 16 = .ok (.iload_n 3, 1) := by decide +kernel
theorem dX0_stretchStart_17 : decode cX0_stretchStart 17 = .ok (.aload_n 0, 1) := by decide +kernel
theorem dX0_stretchStart_18 : decode cX0_stretchStart 18 = .ok (.getfield 19, 3) := by decide +kernel
theorem dX0_stretchStart_21 : decode cX0_stretchStart 21 = .ok (.if_icmp .ge 16, 3) := by decide +kernel
theorem dX0_stretchStart_24 : decode cX0_stretchStart 24 = .ok (.aload_n 0, 1) := by decide +kernel
theorem dX0_stretchStart_25 : decode cX0_stretchStart 25 = .ok (.iload_n 3, 1) := by decide +kernel
theorem dX0_stretchStart_26 : decode cX0_stretchStart 26 = .ok (.iload_n 2, 1) := by decide +kernel
theorem dX0_stretchStart_27 : decode cX0_stretchStart 27 = .ok (.invokevirtual 76, 3) := by decide +kernel
theorem dX0_stretchStart_30 : decode cX0_stretchStart 30 = .ok (.istore_n 3, 1) := by decide +kernel
theorem dX0_stretchStart_31 : decode cX0_stretchStart 31 = .ok (.iinc 4 1, 3) := by decide +kernel
theorem dX0_stretchStart_34 : decode cX0_stretchStart 34 = .ok (.goto (-24), 3) := by decide +kernel
theorem dX0_stretchStart_37 : decode cX0_stretchStart 37 = .ok (.iload_n 3, 1) := by decide +kernel
theorem dX0_stretchStart_38 : decode cX0_stretchStart 38 = .ok (.ireturn, 1) := by decide +kernel
theorem dX0_canGive_0 : decode cX0_canGive 0 = .ok (.iload_n 2, 1) := by decide +kernel
theorem dX0_canGive_1 : decode cX0_canGive 1 = .ok (.ifCond .lt 56, 3) := by decide +kernel
theorem dX0_canGive_4 : decode cX0_canGive 4 = .ok (.iload_n 2, 1) := by decide +kernel
theorem dX0_canGive_5 : decode cX0_canGive 5 = .ok (.aload_n 0, 1) := by decide +kernel
theorem dX0_canGive_6 : decode cX0_canGive 6 = .ok (.getfield 19, 3) := by decide +kernel
theorem dX0_canGive_9 : decode cX0_canGive 9 = .ok (.iload_n 3, 1) := by decide +kernel
theorem dX0_canGive_10 : decode cX0_canGive 10 = .ok (.isub, 1) := by decide +kernel
theorem dX0_canGive_11 : decode cX0_canGive 11 = .ok (.if_icmp .gt 46, 3) := by decide +kernel
theorem dX0_canGive_14 : decode cX0_canGive 14 = .ok (.aload_n 1, 1) := by decide +kernel
theorem dX0_canGive_15 : decode cX0_canGive 15 = .ok (.getfield 79, 3) := by decide +kernel
theorem dX0_canGive_18 : decode cX0_canGive 18 = .ok (.aload_n 0, 1) := by decide +kernel
theorem dX0_canGive_19 : decode cX0_canGive 19 = .ok (.getfield 23, 3) := by decide +kernel
theorem dX0_canGive_22 : decode cX0_canGive 22 = .ok (.if_icmp .gt 35, 3) := by decide +kernel
theorem dX0_canGive_25 : decode cX0_canGive 25 = .ok (.aload_n 0, 1) := by decide +kernel
theorem dX0_canGive_26 : decode cX0_canGive 26 = .ok (.iload_n 2, 1) := by decide +kernel
theorem dX0_canGive_27 : decode cX0_canGive 27 = .ok (.aload_n 1, 1) := by decide +kernel
theorem dX0_canGive_28 : decode cX0_canGive 28 = .ok (.getfield 59, 3) := by decide +kernel
theorem dX0_canGive_31 : decode cX0_canGive 31 = .ok (.invokevirtual 70, 3) := by decide +kernel
theorem dX0_canGive_34 : decode cX0_canGive 34 = .ok (.iload_n 2, 1) := by decide +kernel
theorem dX0_canGive_35 : decode cX0_canGive 35 = .ok (.iload_n 3, 1) := by decide +kernel
theorem dX0_canGive_36 : decode cX0_canGive 36 = .ok (.iadd, 1) := by decide +kernel
theorem dX0_canGive_37 : decode cX0_canGive 37 = .ok (.if_icmp .lt 20, 3) := by decide +kernel
theorem dX0_canGive_40 : decode cX0_canGive 40 = .ok (.aload_n 0, 1) := by decide +kernel
theorem dX0_canGive_41 : decode cX0_canGive 41 = .ok (.iload_n 2, 1) := by decide +kernel
theorem dX0_canGive_42 : decode cX0_canGive 42 = .ok (.iload_n 2, 1) := by decide +kernel
theorem dX0_canGive_43 : decode cX0_canGive 43 = .ok (.iload_n 3, 1) := by decide +kernel
theorem dX0_canGive_44 : decode cX0_canGive 44 = .ok (.iadd, 1) := by decide +kernel
theorem dX0_canGive_45 : decode cX0_canGive 45 = .ok (.iload 4, 2) := by decide +kernel
theorem dX0_canGive_47 : decode cX0_canGive 47 = .ok (.invokevirtual 80, 3) := by decide +kernel
theorem dX0_canGive_50 : decode cX0_canGive 50 = .ok (.ifCond .eq 7, 3) := by decide +kernel
theorem dX0_canGive_53 : decode cX0_canGive 53 = .ok (.iconst 1, 1) := by decide +kernel
theorem dX0_canGive_54 : decode cX0_canGive 54 = .ok (.goto 4, 3) := by decide +kernel
theorem dX0_canGive_57 : decode cX0_canGive 57 = .ok (.iconst 0, 1) := by decide +kernel
theorem dX0_canGive_58 : decode cX0_canGive 58 = .ok (.ireturn, 1) := by decide +kernel
theorem dX0_isClearOfPieces_0 : decode cX0_isClearOfPieces 0 = .ok (.iconst 0, 1) := by decide +kernel
theorem dX0_isClearOfPieces_1 : decode cX0_isClearOfPieces 1 = .ok (.istore 4, 2) := by decide +kernel
theorem dX0_isClearOfPieces_3 : decode cX0_isClearOfPieces 3 = .ok (.iload 4, 2) := by decide +kernel
theorem dX0_isClearOfPieces_5 : decode cX0_isClearOfPieces 5 = .ok (.aload_n 0, 1) := by decide +kernel
theorem dX0_isClearOfPieces_6 : decode cX0_isClearOfPieces 6 = .ok (.getfield 16, 3) := by decide +kernel
theorem dX0_isClearOfPieces_9 : decode cX0_isClearOfPieces 9 = .ok (.invokevirtual 29, 3) := by decide +kernel
theorem dX0_isClearOfPieces_12 : decode cX0_isClearOfPieces 12 = .ok (.if_icmp .ge 32, 3) := by decide +kernel
theorem dX0_isClearOfPieces_15 : decode cX0_isClearOfPieces 15 = .ok (.aload_n 0, 1) := by decide +kernel
theorem dX0_isClearOfPieces_16 : decode cX0_isClearOfPieces 16 = .ok (.getfield 16, 3) := by decide +kernel
theorem dX0_isClearOfPieces_19 : decode cX0_isClearOfPieces 19 = .ok (.iload 4, 2) := by decide +kernel
theorem dX0_isClearOfPieces_21 : decode cX0_isClearOfPieces 21 = .ok (.invokevirtual 33, 3) := by decide +kernel
theorem dX0_isClearOfPieces_24 : decode cX0_isClearOfPieces 24 = .ok (.checkcast 46, 3) := by decide +kernel
theorem dX0_isClearOfPieces_27 : decode cX0_isClearOfPieces 27 = .ok (.iload_n 1, 1) := by decide +kernel
theorem dX0_isClearOfPieces_28 : decode cX0_isClearOfPieces 28 = .ok (.iload_n 2, 1) := by decide +kernel
theorem dX0_isClearOfPieces_29 : decode cX0_isClearOfPieces 29 = .ok (.iload_n 3, 1) := by decide +kernel
theorem dX0_isClearOfPieces_30 : decode cX0_isClearOfPieces 30 = .ok (.invokevirtual 84, 3) := by decide +kernel
theorem dX0_isClearOfPieces_33 : decode cX0_isClearOfPieces 33 = .ok (.ifCond .ne 5, 3) := by decide +kernel
theorem dX0_isClearOfPieces_36 : decode cX0_isClearOfPieces 36 = .ok (.iconst 0, 1) := by decide +kernel
theorem dX0_isClearOfPieces_37 : decode cX0_isClearOfPieces 37 = .ok (.ireturn, 1) := by decide +kernel
theorem dX0_isClearOfPieces_38 : decode cX0_isClearOfPieces 38 = .ok (.iinc 4 1, 3) := by decide +kernel
theorem dX0_isClearOfPieces_41 : decode cX0_isClearOfPieces 41 = .ok (.goto (-38), 3) := by decide +kernel
theorem dX0_isClearOfPieces_44 : decode cX0_isClearOfPieces 44 = .ok (.iconst 1, 1) := by decide +kernel
theorem dX0_isClearOfPieces_45 : decode cX0_isClearOfPieces 45 = .ok (.ireturn, 1) := by decide +kernel
theorem dX0_earliestPlace_0 : decode cX0_earliestPlace 0 = .ok (.aload_n 1, 1) := by decide +kernel
theorem dX0_earliestPlace_1 : decode cX0_earliestPlace 1 = .ok (.getfield 79, 3) := by decide +kernel
theorem dX0_earliestPlace_4 : decode cX0_earliestPlace 4 = .ok (.aload_n 0, 1) := by decide +kernel
theorem dX0_earliestPlace_5 : decode cX0_earliestPlace 5 = .ok (.getfield 23, 3) := by decide +kernel
theorem dX0_earliestPlace_8 : decode cX0_earliestPlace 8 = .ok (.if_icmp .gt 14, 3) := by decide +kernel
theorem dX0_earliestPlace_11 : decode cX0_earliestPlace 11 = .ok (.aload_n 1, 1) := by decide +kernel
theorem dX0_earliestPlace_12 : decode cX0_earliestPlace 12 = .ok (.getfield 59, 3) := by decide +kernel
theorem dX0_earliestPlace_15 : decode cX0_earliestPlace 15 = .ok (.aload_n 0, 1) := by decide +kernel
theorem dX0_earliestPlace_16 : decode cX0_earliestPlace 16 = .ok (.getfield 26, 3) := by decide +kernel
theorem dX0_earliestPlace_19 : decode cX0_earliestPlace 19 = .ok (.if_icmp .ge 5, 3) := by decide +kernel
theorem dX0_earliestPlace_22 : decode cX0_earliestPlace 22 = .ok (.iconst (-1), 1) := by decide +kernel
theorem dX0_earliestPlace_23 : decode cX0_earliestPlace 23 = .ok (.ireturn, 1) := by decide +kernel
theorem dX0_earliestPlace_24 : decode cX0_earliestPlace 24 = .ok (.iconst 0, 1) := by decide +kernel
theorem dX0_earliestPlace_25 : decode cX0_earliestPlace 25 = .ok (.istore_n 3, 1) := by decide +kernel
theorem dX0_earliestPlace_26 : decode cX0_earliestPlace 26 = .ok (.iload_n 3, 1) := by decide +kernel
theorem dX0_earliestPlace_27 : decode cX0_earliestPlace 27 = .ok (.aload_n 0, 1) := by decide +kernel
theorem dX0_earliestPlace_28 : decode cX0_earliestPlace 28 = .ok (.getfield 16, 3) := by decide +kernel
theorem dX0_earliestPlace_31 : decode cX0_earliestPlace 31 = .ok (.invokevirtual 29, 3) := by decide +kernel
theorem dX0_earliestPlace_34 : decode cX0_earliestPlace 34 = .ok (.if_icmp .gt 36, 3) := by decide +kernel
theorem dX0_earliestPlace_37 : decode cX0_earliestPlace 37 = .ok (.aload_n 0, 1) := by decide +kernel
theorem dX0_earliestPlace_38 : decode cX0_earliestPlace 38 = .ok (.aload_n 0, 1) := by decide +kernel
theorem dX0_earliestPlace_39 : decode cX0_earliestPlace 39 = .ok (.iload_n 3, 1) := by decide +kernel
theorem dX0_earliestPlace_40 : decode cX0_earliestPlace 40 = .ok (.iload_n 2, 1) := by decide +kernel
theorem dX0_earliestPlace_41 : decode cX0_earliestPlace 41 = .ok (.invokevirtual 87, 3) := by decide +kernel
theorem dX0_earliestPlace_44 : decode cX0_earliestPlace 44 = .ok (.aload_n 0, 1) := by decide +kernel
theorem dX0_earliestPlace_45 : decode cX0_earliestPlace 45 = .ok (.iload_n 3, 1) := by decide +kernel
theorem dX0_earliestPlace_46 : decode cX0_earliestPlace 46 = .ok (.iload_n 2, 1) := by decide +kernel
theorem dX0_earliestPlace_47 : decode cX0_earliestPlace 47 = .ok (.invokevirtual 90, 3) := by decide +kernel
theorem dX0_earliestPlace_50 : decode cX0_earliestPlace 50 = .ok (.aload_n 1, 1) := by decide +kernel
theorem dX0_earliestPlace_51 : decode cX0_earliestPlace 51 = .ok (.invokevirtual 93, 3) := by decide +kernel
theorem dX0_earliestPlace_54 : decode cX0_earliestPlace 54 = .ok (.istore 4, 2) := by decide +kernel
theorem dX0_earliestPlace_56 : decode cX0_earliestPlace 56 = .ok (.iload 4, 2) := by decide +kernel
theorem dX0_earliestPlace_58 : decode cX0_earliestPlace 58 = .ok (.ifCond .lt 6, 3) := by decide +kernel
theorem dX0_earliestPlace_61 : decode cX0_earliestPlace 61 = .ok (.iload 4, 2) := by decide +kernel
theorem dX0_earliestPlace_63 : decode cX0_earliestPlace 63 = .ok (.ireturn, 1) := by decide +kernel
theorem dX0_earliestPlace_64 : decode cX0_earliestPlace 64 = .ok (.iinc 3 1, 3) := by decide +kernel
theorem dX0_earliestPlace_67 : decode cX0_earliestPlace 67 = .ok (.goto (-41), 3) := by decide +kernel
theorem dX0_earliestPlace_70 : decode cX0_earliestPlace 70 = .ok (.iconst (-1), 1) := by decide +kernel
theorem dX0_earliestPlace_71 : decode cX0_earliestPlace 71 = .ok (.ireturn, 1) := by decide +kernel
theorem dX0_earliestWithin_0 : decode cX0_earliestWithin 0 = .ok (.iload_n 1, 1) := by decide +kernel
theorem dX0_earliestWithin_1 : decode cX0_earliestWithin 1 = .ok (.istore 4, 2) := by decide +kernel
theorem dX0_earliestWithin_3 : decode cX0_earliestWithin 3 = .ok (.iconst 0, 1) := by decide +kernel
theorem dX0_earliestWithin_4 : decode cX0_earliestWithin 4 = .ok (.istore 5, 2) := by decide +kernel
theorem dX0_earliestWithin_6 : decode cX0_earliestWithin 6 = .ok (.iload 5, 2) := by decide +kernel
theorem dX0_earliestWithin_8 : decode cX0_earliestWithin 8 = .ok (.aload_n 0, 1) := by decide +kernel
theorem dX0_earliestWithin_9 : decode cX0_earliestWithin 9 = .ok (.getfield 10, 3) := by decide +kernel
theorem dX0_earliestWithin_12 : decode cX0_earliestWithin 12 = .ok (.invokevirtual 29, 3) := by decide +kernel
theorem dX0_earliestWithin_15 : decode cX0_earliestWithin 15 = .ok (.if_icmp .gt 59, 3) := by decide +kernel
theorem dX0_earliestWithin_18 : decode cX0_earliestWithin 18 = .ok (.iload 4, 2) := by decide +kernel
theorem dX0_earliestWithin_20 : decode cX0_earliestWithin 20 = .ok (.aload_n 3, 1) := by decide +kernel
theorem dX0_earliestWithin_21 : decode cX0_earliestWithin 21 = .ok (.getfield 97, 3) := by decide +kernel
theorem dX0_earliestWithin_24 : decode cX0_earliestWithin 24 = .ok (.iadd, 1) := by decide +kernel
theorem dX0_earliestWithin_25 : decode cX0_earliestWithin 25 = .ok (.iload_n 2, 1) := by decide +kernel
theorem dX0_earliestWithin_26 : decode cX0_earliestWithin 26 = .ok (.if_icmp .gt 48, 3) := by decide +kernel
theorem dX0_earliestWithin_29 : decode cX0_earliestWithin 29 = .ok (.aload_n 0, 1) := by decide +kernel
theorem dX0_earliestWithin_30 : decode cX0_earliestWithin 30 = .ok (.iload 4, 2) := by decide +kernel
theorem dX0_earliestWithin_32 : decode cX0_earliestWithin 32 = .ok (.aload_n 3, 1) := by decide +kernel
theorem dX0_earliestWithin_33 : decode cX0_earliestWithin 33 = .ok (.getfield 59, 3) := by decide +kernel
theorem dX0_earliestWithin_36 : decode cX0_earliestWithin 36 = .ok (.invokevirtual 70, 3) := by decide +kernel
theorem dX0_earliestWithin_39 : decode cX0_earliestWithin 39 = .ok (.istore 6, 2) := by decide +kernel
theorem dX0_earliestWithin_41 : decode cX0_earliestWithin 41 = .ok (.iload 6, 2) := by decide +kernel
theorem dX0_earliestWithin_43 : decode cX0_earliestWithin 43 = .ok (.iload 4, 2) := by decide +kernel
theorem dX0_earliestWithin_45 : decode cX0_earliestWithin 45 = .ok (.aload_n 3, 1) := by decide +kernel
theorem dX0_earliestWithin_46 : decode cX0_earliestWithin 46 = .ok (.getfield 97, 3) := by decide +kernel
theorem dX0_earliestWithin_49 : decode cX0_earliestWithin 49 = .ok (.iadd, 1) := by decide +kernel
theorem dX0_earliestWithin_50 : decode cX0_earliestWithin 50 = .ok (.if_icmp .lt 6, 3) := by decide +kernel
theorem dX0_earliestWithin_53 : decode cX0_earliestWithin 53 = .ok (.iload 4, 2) := by decide +kernel
theorem dX0_earliestWithin_55 : decode cX0_earliestWithin 55 = .ok (.ireturn, 1) := by decide +kernel
theorem dX0_earliestWithin_56 : decode cX0_earliestWithin 56 = .ok (.aload_n 0, 1) := by decide +kernel
theorem dX0_earliestWithin_57 : decode cX0_earliestWithin 57 = .ok (.iload 6, 2) := by decide +kernel
theorem dX0_earliestWithin_59 : decode cX0_earliestWithin 59 = .ok (.aload_n 3, 1) := by decide +kernel
theorem dX0_earliestWithin_60 : decode cX0_earliestWithin 60 = .ok (.getfield 59, 3) := by decide +kernel
theorem dX0_earliestWithin_63 : decode cX0_earliestWithin 63 = .ok (.invokevirtual 73, 3) := by decide +kernel
theorem dX0_earliestWithin_66 : decode cX0_earliestWithin 66 = .ok (.istore 4, 2) := by decide +kernel
theorem dX0_earliestWithin_68 : decode cX0_earliestWithin 68 = .ok (.iinc 5 1, 3) := by decide +kernel
theorem dX0_earliestWithin_71 : decode cX0_earliestWithin 71 = .ok (.goto (-65), 3) := by decide +kernel
theorem dX0_earliestWithin_74 : decode cX0_earliestWithin 74 = .ok (.iconst (-1), 1) := by decide +kernel
theorem dX0_earliestWithin_75 : decode cX0_earliestWithin 75 = .ok (.ireturn, 1) := by decide +kernel
theorem dX0_roomStart_0 : decode cX0_roomStart 0 = .ok (.iload_n 1, 1) := by decide +kernel
theorem dX0_roomStart_1 : decode cX0_roomStart 1 = .ok (.iconst 1, 1) := by decide +kernel
theorem dX0_roomStart_2 : decode cX0_roomStart 2 = .ok (.if_icmp .lt 14, 3) := by decide +kernel
theorem dX0_roomStart_5 : decode cX0_roomStart 5 = .ok (.iload_n 1, 1) := by decide +kernel
theorem dX0_roomStart_6 : decode cX0_roomStart 6 = .ok (.aload_n 0, 1) := by decide +kernel
theorem dX0_roomStart_7 : decode cX0_roomStart 7 = .ok (.getfield 16, 3) := by decide +kernel
theorem dX0_roomStart_10 : decode cX0_roomStart 10 = .ok (.invokevirtual 29, 3) := by decide +kernel
theorem dX0_roomStart_13 : decode cX0_roomStart 13 = .ok (.if_icmp .le 7, 3) := by decide +kernel
theorem dX0_roomStart_16 : decode cX0_roomStart 16 = .ok (.iconst 0, 1) := by decide +kernel
theorem dX0_roomStart_17 : decode cX0_roomStart 17 = .ok (.goto 21, 3) := by decide +kernel
theorem dX0_roomStart_20 : decode cX0_roomStart 20 = .ok (.aload_n 0, 1) := by decide +kernel
theorem dX0_roomStart_21 : decode cX0_roomStart 21 = .ok (.getfield 16, 3) := by decide +kernel
theorem dX0_roomStart_24 : decode cX0_roomStart 24 = .ok (.iload_n 1, 1) := by decide +kernel
theorem dX0_roomStart_25 : decode cX0_roomStart 25 = .ok (.iconst 1, 1) := by decide +kernel
theorem dX0_roomStart_26 : decode cX0_roomStart 26 = .ok (.isub, 1) := by decide +kernel
theorem dX0_roomStart_27 : decode cX0_roomStart 27 = .ok (.invokevirtual 33, 3) := by decide +kernel
theorem dX0_roomStart_30 : decode cX0_roomStart 30 = .ok (.checkcast 46, 3) := by decide +kernel
theorem dX0_roomStart_33 : decode cX0_roomStart 33 = .ok (.getfield 52, 3) := by decide +kernel
theorem dX0_roomStart_36 : decode cX0_roomStart 36 = .ok (.iload_n 2, 1) := by decide +kernel
theorem dX0_roomStart_37 : decode cX0_roomStart 37 = .ok (.iadd, 1) := by decide +kernel
theorem dX0_roomStart_38 : decode cX0_roomStart 38 = .ok (.ireturn, 1) := by decide +kernel
theorem dX0_roomEnd_0 : decode cX0_roomEnd 0 = .ok (.iload_n 1, 1) := by decide +kernel
theorem dX0_roomEnd_1 : decode cX0_roomEnd 1 = .ok (.ifCond .lt 14, 3) := by decide +kernel
theorem dX0_roomEnd_4 : decode cX0_roomEnd 4 = .ok (.iload_n 1, 1) := by decide +kernel
theorem dX0_roomEnd_5 : decode cX0_roomEnd 5 = .ok (.aload_n 0, 1) := by decide +kernel
theorem dX0_roomEnd_6 : decode cX0_roomEnd 6 = .ok (.getfield 16, 3) := by decide +kernel
theorem dX0_roomEnd_9 : decode cX0_roomEnd 9 = .ok (.invokevirtual 29, 3) := by decide +kernel
theorem dX0_roomEnd_12 : decode cX0_roomEnd 12 = .ok (.if_icmp .lt 10, 3) := by decide +kernel
theorem dX0_roomEnd_15 : decode cX0_roomEnd 15 = .ok (.aload_n 0, 1) := by decide +kernel
theorem dX0_roomEnd_16 : decode cX0_roomEnd 16 = .ok (.getfield 19, 3) := by decide +kernel
theorem dX0_roomEnd_19 : decode cX0_roomEnd 19 = .ok (.goto 19, 3) := by decide +kernel
theorem dX0_roomEnd_22 : decode cX0_roomEnd 22 = .ok (.aload_n 0, 1) := by decide +kernel
theorem dX0_roomEnd_23 : decode cX0_roomEnd 23 = .ok (.getfield 16, 3) := by decide +kernel
theorem dX0_roomEnd_26 : decode cX0_roomEnd 26 = .ok (.iload_n 1, 1) := by decide +kernel
theorem dX0_roomEnd_27 : decode cX0_roomEnd 27 = .ok (.invokevirtual 33, 3) := by decide +kernel
theorem dX0_roomEnd_30 : decode cX0_roomEnd 30 = .ok (.checkcast 46, 3) := by decide +kernel
theorem dX0_roomEnd_33 : decode cX0_roomEnd 33 = .ok (.getfield 48, 3) := by decide +kernel
theorem dX0_roomEnd_36 : decode cX0_roomEnd 36 = .ok (.iload_n 2, 1) := by decide +kernel
theorem dX0_roomEnd_37 : decode cX0_roomEnd 37 = .ok (.isub, 1) := by decide +kernel
theorem dX0_roomEnd_38 : decode cX0_roomEnd 38 = .ok (.ireturn, 1) := by decide +kernel
theorem dX0_roomLengthAround_0 : decode cX0_roomLengthAround 0 = .ok (.iconst 0, 1) := by decide +kernel
theorem dX0_roomLengthAround_1 : decode cX0_roomLengthAround 1 = .ok (.istore_n 3, 1) := by decide +kernel
theorem dX0_roomLengthAround_2 : decode cX0_roomLengthAround 2 = .ok (.iload_n 3, 1) := by decide +kernel
theorem dX0_roomLengthAround_3 : decode cX0_roomLengthAround 3 = .ok (.aload_n 0, 1) := by decide +kernel
theorem dX0_roomLengthAround_4 : decode cX0_roomLengthAround 4 = .ok (.getfield 16, 3) := by decide +kernel
theorem dX0_roomLengthAround_7 : decode cX0_roomLengthAround 7 = .ok (.invokevirtual 29, 3) := by decide +kernel
theorem dX0_roomLengthAround_10 : decode cX0_roomLengthAround 10 = .ok (.if_icmp .gt 43, 3) := by decide +kernel
theorem dX0_roomLengthAround_13 : decode cX0_roomLengthAround 13 = .ok (.aload_n 0, 1) := by decide +kernel
theorem dX0_roomLengthAround_14 : decode cX0_roomLengthAround 14 = .ok (.iload_n 3, 1) := by decide +kernel
theorem dX0_roomLengthAround_15 : decode cX0_roomLengthAround 15 = .ok (.iload_n 2, 1) := by decide +kernel
theorem dX0_roomLengthAround_16 : decode cX0_roomLengthAround 16 = .ok (.invokevirtual 87, 3) := by decide +kernel
theorem dX0_roomLengthAround_19 : decode cX0_roomLengthAround 19 = .ok (.istore 4, 2) := by decide +kernel
theorem dX0_roomLengthAround_21 : decode cX0_roomLengthAround 21 = .ok (.aload_n 0, 1) := by decide +kernel
theorem dX0_roomLengthAround_22 : decode cX0_roomLengthAround 22 = .ok (.iload_n 3, 1) := by decide +kernel
theorem dX0_roomLengthAround_23 : decode cX0_roomLengthAround 23 = .ok (.iload_n 2, 1) := by decide +kernel
theorem dX0_roomLengthAround_24 : decode cX0_roomLengthAround 24 = .ok (.invokevirtual 90, 3) := by decide +kernel
theorem dX0_roomLengthAround_27 : decode cX0_roomLengthAround 27 = .ok (.istore 5, 2) := by decide +kernel
theorem dX0_roomLengthAround_29 : decode cX0_roomLengthAround 29 = .ok (.iload 4, 2) := by decide +kernel
theorem dX0_roomLengthAround_31 : decode cX0_roomLengthAround 31 = .ok (.iload_n 1, 1) := by decide +kernel
theorem dX0_roomLengthAround_32 : decode cX0_roomLengthAround 32 = .ok (.if_icmp .gt 15, 3) := by decide +kernel
theorem dX0_roomLengthAround_35 : decode cX0_roomLengthAround 35 = .ok (.iload_n 1, 1) := by decide +kernel
theorem dX0_roomLengthAround_36 : decode cX0_roomLengthAround 36 = .ok (.iload 5, 2) := by decide +kernel
theorem dX0_roomLengthAround_38 : decode cX0_roomLengthAround 38 = .ok (.if_icmp .ge 9, 3) := by decide +kernel
theorem dX0_roomLengthAround_41 : decode cX0_roomLengthAround 41 = .ok (.iload 5, 2) := by decide +kernel
theorem dX0_roomLengthAround_43 : decode cX0_roomLengthAround 43 = .ok (.iload 4, 2) := by decide +kernel
theorem dX0_roomLengthAround_45 : decode cX0_roomLengthAround 45 = .ok (.isub, 1) := by decide +kernel
theorem dX0_roomLengthAround_46 : decode cX0_roomLengthAround 46 = .ok (.ireturn, 1) := by decide +kernel
theorem dX0_roomLengthAround_47 : decode cX0_roomLengthAround 47 = .ok (.iinc 3 1, 3) := by decide +kernel
theorem dX0_roomLengthAround_50 : decode cX0_roomLengthAround 50 = .ok (.goto (-48), 3) := by decide +kernel
theorem dX0_roomLengthAround_53 : decode cX0_roomLengthAround 53 = .ok (.iconst 0, 1) := by decide +kernel
theorem dX0_roomLengthAround_54 : decode cX0_roomLengthAround 54 = .ok (.ireturn, 1) := by decide +kernel
theorem dX0_longestRoomLength_0 : decode cX0_longestRoomLength 0 = .ok (.iconst 0, 1) := by decide +kernel
theorem dX0_longestRoomLength_1 : decode cX0_longestRoomLength 1 = .ok (.istore_n 2, 1) := by decide +kernel
theorem dX0_longestRoomLength_2 : decode cX0_longestRoomLength 2 = .ok (.iconst 0, 1) := by decide +kernel
theorem dX0_longestRoomLength_3 : decode cX0_longestRoomLength 3 = .ok (.istore_n 3, 1) := by decide +kernel
theorem dX0_longestRoomLength_4 : decode cX0_longestRoomLength 4 = .ok (.iload_n 3, 1) := by decide +kernel
theorem dX0_longestRoomLength_5 : decode cX0_longestRoomLength 5 = .ok (.aload_n 0, 1) := by decide +kernel
theorem dX0_longestRoomLength_6 : decode cX0_longestRoomLength 6 = .ok (.getfield 16, 3) := by decide +kernel
theorem dX0_longestRoomLength_9 : decode cX0_longestRoomLength 9 = .ok (.invokevirtual 29, 3) := by decide +kernel
theorem dX0_longestRoomLength_12 : decode cX0_longestRoomLength 12 = .ok (.if_icmp .gt 27, 3) := by decide +kernel
theorem dX0_longestRoomLength_15 : decode cX0_longestRoomLength 15 = .ok (.iload_n 2, 1) := by decide +kernel
theorem dX0_longestRoomLength_16 : decode cX0_longestRoomLength 16 = .ok (.aload_n 0, 1) := by decide +kernel
theorem dX0_longestRoomLength_17 : decode cX0_longestRoomLength 17 = .ok (.iload_n 3, 1) := by decide +kernel
theorem dX0_longestRoomLength_18 : decode cX0_longestRoomLength 18 = .ok (.iload_n 1, 1) := by decide +kernel
theorem dX0_longestRoomLength_19 : decode cX0_longestRoomLength 19 = .ok (.invokevirtual 90, 3) := by decide +kernel
theorem dX0_longestRoomLength_22 : decode cX0_longestRoomLength 22 = .ok (.aload_n 0, 1) := by decide +kernel
theorem dX0_longestRoomLength_23 : decode cX0_longestRoomLength 23 = .ok (.iload_n 3, 1) := by decide +kernel
theorem dX0_longestRoomLength_24 : decode cX0_longestRoomLength 24 = .ok (.iload_n 1, 1) := by decide +kernel
theorem dX0_longestRoomLength_25 : decode cX0_longestRoomLength 25 = .ok (.invokevirtual 87, 3) := by decide +kernel
theorem dX0_longestRoomLength_28 : decode cX0_longestRoomLength 28 = .ok (.isub, 1) := by decide +kernel
theorem dX0_longestRoomLength_29 : decode cX0_longestRoomLength 29 = .ok (.invokestatic 64, 3) := by decide +kernel
theorem dX0_longestRoomLength_32 : decode cX0_longestRoomLength 32 = .ok (.istore_n 2, 1) := by decide +kernel
theorem dX0_longestRoomLength_33 : decode cX0_longestRoomLength 33 = .ok (.iinc 3 1, 3) := by decide +kernel
theorem dX0_longestRoomLength_36 : decode cX0_longestRoomLength 36 = .ok (.goto (-32), 3) := by decide +kernel
theorem dX0_longestRoomLength_39 : decode cX0_longestRoomLength 39 = .ok (.iload_n 2, 1) := by decide +kernel
theorem dX0_longestRoomLength_40 : decode cX0_longestRoomLength 40 = .ok (.ireturn, 1) := by decide +kernel
theorem dX0_countCuts_0 : decode cX0_countCuts 0 = .ok (.iconst 0, 1) := by decide +kernel
theorem dX0_countCuts_1 : decode cX0_countCuts 1 = .ok (.istore_n 2, 1) := by decide +kernel
theorem dX0_countCuts_2 : decode cX0_countCuts 2 = .ok (.iconst 0, 1) := by decide +kernel
theorem dX0_countCuts_3 : decode cX0_countCuts 3 = .ok (.istore_n 3, 1) := by decide +kernel
theorem dX0_countCuts_4 : decode cX0_countCuts 4 = .ok (.iload_n 3, 1) := by decide +kernel
theorem dX0_countCuts_5 : decode cX0_countCuts 5 = .ok (.aload_n 0, 1) := by decide +kernel
theorem dX0_countCuts_6 : decode cX0_countCuts 6 = .ok (.getfield 16, 3) := by decide +kernel
theorem dX0_countCuts_9 : decode cX0_countCuts 9 = .ok (.invokevirtual 29, 3) := by decide +kernel
theorem dX0_countCuts_12 : decode cX0_countCuts 12 = .ok (.if_icmp .ge 78, 3) := by decide +kernel
theorem dX0_countCuts_15 : decode cX0_countCuts 15 = .ok (.aload_n 0, 1) := by decide +kernel
theorem dX0_countCuts_16 : decode cX0_countCuts 16 = .ok (.getfield 16, 3) := by decide +kernel
theorem dX0_countCuts_19 : decode cX0_countCuts 19 = .ok (.iload_n 3, 1) := by decide +kernel
theorem dX0_countCuts_20 : decode cX0_countCuts 20 = .ok (.invokevirtual 33, 3) := by decide +kernel
theorem dX0_countCuts_23 : decode cX0_countCuts 23 = .ok (.checkcast 46, 3) := by decide +kernel
theorem dX0_countCuts_26 : decode cX0_countCuts 26 = .ok (.astore 4, 2) := by decide +kernel
theorem dX0_countCuts_28 : decode cX0_countCuts 28 = .ok (.aload 4, 2) := by decide +kernel
theorem dX0_countCuts_30 : decode cX0_countCuts 30 = .ok (.getfield 48, 3) := by decide +kernel
theorem dX0_countCuts_33 : decode cX0_countCuts 33 = .ok (.ifCond .le 36, 3) := by decide +kernel
theorem dX0_countCuts_36 : decode cX0_countCuts 36 = .ok (.iload_n 3, 1) := by decide +kernel
theorem dX0_countCuts_37 : decode cX0_countCuts 37 = .ok (.ifCond .le 29, 3) := by decide +kernel
theorem dX0_countCuts_40 : decode cX0_countCuts 40 = .ok (.aload 4, 2) := by decide +kernel
theorem dX0_countCuts_42 : decode cX0_countCuts 42 = .ok (.getfield 48, 3) := by decide +kernel
theorem dX0_countCuts_45 : decode cX0_countCuts 45 = .ok (.aload_n 0, 1) := by decide +kernel
theorem dX0_countCuts_46 : decode cX0_countCuts 46 = .ok (.getfield 16, 3) := by decide +kernel
theorem dX0_countCuts_49 : decode cX0_countCuts 49 = .ok (.iload_n 3, 1) := by decide +kernel
theorem dX0_countCuts_50 : decode cX0_countCuts 50 = .ok (.iconst 1, 1) := by decide +kernel
theorem dX0_countCuts_51 : decode cX0_countCuts 51 = .ok (.isub, 1) := by decide +kernel
theorem dX0_countCuts_52 : decode cX0_countCuts 52 = .ok (.invokevirtual 33, 3) := by decide +kernel
theorem dX0_countCuts_55 : decode cX0_countCuts 55 = .ok (.checkcast 46, 3) := by decide +kernel
theorem dX0_countCuts_58 : decode cX0_countCuts 58 = .ok (.getfield 52, 3) := by decide +kernel
theorem dX0_countCuts_61 : decode cX0_countCuts 61 = .ok (.isub, 1) := by decide +kernel
theorem dX0_countCuts_62 : decode cX0_countCuts 62 = .ok (.iload_n 1, 1) := by decide +kernel
theorem dX0_countCuts_63 : decode cX0_countCuts 63 = .ok (.if_icmp .eq 6, 3) := by decide +kernel
theorem dX0_countCuts_66 : decode cX0_countCuts 66 = .ok (.iinc 2 1, 3) := by decide +kernel
theorem dX0_countCuts_69 : decode cX0_countCuts 69 = .ok (.aload 4, 2) := by decide +kernel
theorem dX0_countCuts_71 : decode cX0_countCuts 71 = .ok (.getfield 52, 3) := by decide +kernel
theorem dX0_countCuts_74 : decode cX0_countCuts 74 = .ok (.aload_n 0, 1) := by decide +kernel
theorem dX0_countCuts_75 : decode cX0_countCuts 75 = .ok (.getfield 19, 3) := by decide +kernel
theorem dX0_countCuts_78 : decode cX0_countCuts 78 = .ok (.if_icmp .ge 6, 3) := by decide +kernel
theorem dX0_countCuts_81 : decode cX0_countCuts 81 = .ok (.iinc 2 1, 3) := by decide +kernel
theorem dX0_countCuts_84 : decode cX0_countCuts 84 = .ok (.iinc 3 1, 3) := by decide +kernel
theorem dX0_countCuts_87 : decode cX0_countCuts 87 = .ok (.goto (-83), 3) := by decide +kernel
theorem dX0_countCuts_90 : decode cX0_countCuts 90 = .ok (.iload_n 2, 1) := by decide +kernel
theorem dX0_countCuts_91 : decode cX0_countCuts 91 = .ok (.ireturn, 1) := by decide +kernel
theorem dX0_areaOfPieces_0 : decode cX0_areaOfPieces 0 = .ok (.iconst 0, 1) := by decide +kernel
theorem dX0_areaOfPieces_1 : decode cX0_areaOfPieces 1 = .ok (.istore_n 1, 1) := by decide +kernel
theorem dX0_areaOfPieces_2 : decode cX0_areaOfPieces 2 = .ok (.iconst 0, 1) := by decide +kernel
theorem dX0_areaOfPieces_3 : decode cX0_areaOfPieces 3 = .ok (.istore_n 2, 1) := by decide +kernel
theorem dX0_areaOfPieces_4 : decode cX0_areaOfPieces 4 = .ok (.iload_n 2, 1) := by decide +kernel
theorem dX0_areaOfPieces_5 : decode cX0_areaOfPieces 5 = .ok (.aload_n 0, 1) := by decide +kernel
theorem dX0_areaOfPieces_6 : decode cX0_areaOfPieces 6 = .ok (.getfield 16, 3) := by decide +kernel
theorem dX0_areaOfPieces_9 : decode cX0_areaOfPieces 9 = .ok (.invokevirtual 29, 3) := by decide +kernel
theorem dX0_areaOfPieces_12 : decode cX0_areaOfPieces 12 = .ok (.if_icmp .ge 41, 3) := by decide +kernel
theorem dX0_areaOfPieces_15 : decode cX0_areaOfPieces 15 = .ok (.aload_n 0, 1) := by decide +kernel
theorem dX0_areaOfPieces_16 : decode cX0_areaOfPieces 16 = .ok (.getfield 16, 3) := by decide +kernel
theorem dX0_areaOfPieces_19 : decode cX0_areaOfPieces 19 = .ok (.iload_n 2, 1) := by decide +kernel
theorem dX0_areaOfPieces_20 : decode cX0_areaOfPieces 20 = .ok (.invokevirtual 33, 3) := by decide +kernel
theorem dX0_areaOfPieces_23 : decode cX0_areaOfPieces 23 = .ok (.checkcast 46, 3) := by decide +kernel
theorem dX0_areaOfPieces_26 : decode cX0_areaOfPieces 26 = .ok (.astore_n 3, 1) := by decide +kernel
theorem dX0_areaOfPieces_27 : decode cX0_areaOfPieces 27 = .ok (.iload_n 1, 1) := by decide +kernel
theorem dX0_areaOfPieces_28 : decode cX0_areaOfPieces 28 = .ok (.aload_n 3, 1) := by decide +kernel
theorem dX0_areaOfPieces_29 : decode cX0_areaOfPieces 29 = .ok (.getfield 52, 3) := by decide +kernel
theorem dX0_areaOfPieces_32 : decode cX0_areaOfPieces 32 = .ok (.aload_n 3, 1) := by decide +kernel
theorem dX0_areaOfPieces_33 : decode cX0_areaOfPieces 33 = .ok (.getfield 48, 3) := by decide +kernel
theorem dX0_areaOfPieces_36 : decode cX0_areaOfPieces 36 = .ok (.isub, 1) := by decide +kernel
theorem dX0_areaOfPieces_37 : decode cX0_areaOfPieces 37 = .ok (.aload_n 3, 1) := by decide +kernel
theorem dX0_areaOfPieces_38 : decode cX0_areaOfPieces 38 = .ok (.getfield 55, 3) := by decide +kernel
theorem dX0_areaOfPieces_41 : decode cX0_areaOfPieces 41 = .ok (.getfield 79, 3) := by decide +kernel
theorem dX0_areaOfPieces_44 : decode cX0_areaOfPieces 44 = .ok (.imul, 1) := by decide +kernel
theorem dX0_areaOfPieces_45 : decode cX0_areaOfPieces 45 = .ok (.iadd, 1) := by decide +kernel
theorem dX0_areaOfPieces_46 : decode cX0_areaOfPieces 46 = .ok (.istore_n 1, 1) := by decide +kernel
theorem dX0_areaOfPieces_47 : decode cX0_areaOfPieces 47 = .ok (.iinc 2 1, 3) := by decide +kernel
theorem dX0_areaOfPieces_50 : decode cX0_areaOfPieces 50 = .ok (.goto (-46), 3) := by decide +kernel
theorem dX0_areaOfPieces_53 : decode cX0_areaOfPieces 53 = .ok (.iload_n 1, 1) := by decide +kernel
theorem dX0_areaOfPieces_54 : decode cX0_areaOfPieces 54 = .ok (.ireturn, 1) := by decide +kernel
theorem dX1_init_0 : decode cX1_init 0 = .ok (.aload_n 0, 1) := by decide +kernel
theorem dX1_init_1 : decode cX1_init 1 = .ok (.invokespecial 1, 3) := by decide +kernel
theorem dX1_init_4 : decode cX1_init 4 = .ok (.aload_n 0, 1) := by decide +kernel
theorem dX1_init_5 : decode cX1_init 5 = .ok (.aload_n 1, 1) := by decide +kernel
theorem dX1_init_6 : decode cX1_init 6 = .ok (.putfield 7, 3) := by decide +kernel
theorem dX1_init_9 : decode cX1_init 9 = .ok (.aload_n 0, 1) := by decide +kernel
theorem dX1_init_10 : decode cX1_init 10 = .ok (.aload_n 2, 1) := by decide +kernel
theorem dX1_init_11 : decode cX1_init 11 = .ok (.putfield 13, 3) := by decide +kernel
theorem dX1_init_14 : decode cX1_init 14 = .ok (.aload_n 0, 1) := by decide +kernel
theorem dX1_init_15 : decode cX1_init 15 = .ok (.aload_n 3, 1) := by decide +kernel
theorem dX1_init_16 : decode cX1_init 16 = .ok (.putfield 17, 3) := by decide +kernel
theorem dX1_init_19 : decode cX1_init 19 = .ok (.return_, 1) := by decide +kernel
theorem dX2_init_0 : decode cX2_init 0 = .ok (.aload_n 0, 1) := by decide +kernel
theorem dX2_init_1 : decode cX2_init 1 = .ok (.invokespecial 1, 3) := by decide +kernel
theorem dX2_init_4 : decode cX2_init 4 = .ok (.aload_n 0, 1) := by decide +kernel
theorem dX2_init_5 : decode cX2_init 5 = .ok (.iload_n 1, 1) := by decide +kernel
theorem dX2_init_6 : decode cX2_init 6 = .ok (.putfield 7, 3) := by decide +kernel
theorem dX2_init_9 : decode cX2_init 9 = .ok (.aload_n 0, 1) := by decide +kernel
theorem dX2_init_10 : decode cX2_init 10 = .ok (.iload_n 2, 1) := by decide +kernel
theorem dX2_init_11 : decode cX2_init 11 = .ok (.putfield 13, 3) := by decide +kernel
theorem dX2_init_14 : decode cX2_init 14 = .ok (.aload_n 0, 1) := by decide +kernel
theorem dX2_init_15 : decode cX2_init 15 = .ok (.iload_n 3, 1) := by decide +kernel
theorem dX2_init_16 : decode cX2_init 16 = .ok (.putfield 16, 3) := by decide +kernel
theorem dX2_init_19 : decode cX2_init 19 = .ok (.return_, 1) := by decide +kernel
theorem dX3_init_0 : decode cX3_init 0 = .ok (.aload_n 0, 1) := by decide +kernel
theorem dX3_init_1 : decode cX3_init 1 = .ok (.invokespecial 1, 3) := by decide +kernel
theorem dX3_init_4 : decode cX3_init 4 = .ok (.aload_n 0, 1) := by decide +kernel
theorem dX3_init_5 : decode cX3_init 5 = .ok (.iload_n 1, 1) := by decide +kernel
theorem dX3_init_6 : decode cX3_init 6 = .ok (.putfield 7, 3) := by decide +kernel
theorem dX3_init_9 : decode cX3_init 9 = .ok (.aload_n 0, 1) := by decide +kernel
theorem dX3_init_10 : decode cX3_init 10 = .ok (.iload_n 2, 1) := by decide +kernel
theorem dX3_init_11 : decode cX3_init 11 = .ok (.putfield 13, 3) := by decide +kernel
theorem dX3_init_14 : decode cX3_init 14 = .ok (.aload_n 0, 1) := by decide +kernel
theorem dX3_init_15 : decode cX3_init 15 = .ok (.iload_n 3, 1) := by decide +kernel
theorem dX3_init_16 : decode cX3_init 16 = .ok (.putfield 16, 3) := by decide +kernel
theorem dX3_init_19 : decode cX3_init 19 = .ok (.aload_n 0, 1) := by decide +kernel
theorem dX3_init_20 : decode cX3_init 20 = .ok (.iload 4, 2) := by decide +kernel
theorem dX3_init_22 : decode cX3_init 22 = .ok (.putfield 19, 3) := by decide +kernel
theorem dX3_init_25 : decode cX3_init 25 = .ok (.aload_n 0, 1) := by decide +kernel
theorem dX3_init_26 : decode cX3_init 26 = .ok (.iload 6, 2) := by decide +kernel
theorem dX3_init_28 : decode cX3_init 28 = .ok (.putfield 22, 3) := by decide +kernel
theorem dX3_init_31 : decode cX3_init 31 = .ok (.aload_n 0, 1) := by decide +kernel
theorem dX3_init_32 : decode cX3_init 32 = .ok (.iload 5, 2) := by decide +kernel
theorem dX3_init_34 : decode cX3_init 34 = .ok (.putfield 26, 3) := by decide +kernel
theorem dX3_init_37 : decode cX3_init 37 = .ok (.return_, 1) := by decide +kernel
theorem dX3_isPlannedAhead_0 : decode cX3_isPlannedAhead 0 = .ok (.aload_n 0, 1) := by decide +kernel
theorem dX3_isPlannedAhead_1 : decode cX3_isPlannedAhead 1 = .ok (.getfield 13, 3) := by decide +kernel
theorem dX3_isPlannedAhead_4 : decode cX3_isPlannedAhead 4 = .ok (.aload_n 1, 1) := by decide +kernel
theorem dX3_isPlannedAhead_5 : decode cX3_isPlannedAhead 5 = .ok (.getfield 13, 3) := by decide +kernel
theorem dX3_isPlannedAhead_8 : decode cX3_isPlannedAhead 8 = .ok (.if_icmp .gt 25, 3) := by decide +kernel
theorem dX3_isPlannedAhead_11 : decode cX3_isPlannedAhead 11 = .ok (.aload_n 0, 1) := by decide +kernel
theorem dX3_isPlannedAhead_12 : decode cX3_isPlannedAhead 12 = .ok (.getfield 13, 3) := by decide +kernel
theorem dX3_isPlannedAhead_15 : decode cX3_isPlannedAhead 15 = .ok (.aload_n 1, 1) := by decide +kernel
theorem dX3_isPlannedAhead_16 : decode cX3_isPlannedAhead 16 = .ok (.getfield 13, 3) := by decide +kernel
theorem dX3_isPlannedAhead_19 : decode cX3_isPlannedAhead 19 = .ok (.if_icmp .ne 18, 3) := by decide +kernel
theorem dX3_isPlannedAhead_22 : decode cX3_isPlannedAhead 22 = .ok (.aload_n 0, 1) := by decide +kernel
theorem dX3_isPlannedAhead_23 : decode cX3_isPlannedAhead 23 = .ok (.getfield 19, 3) := by decide +kernel
theorem dX3_isPlannedAhead_26 : decode cX3_isPlannedAhead 26 = .ok (.aload_n 1, 1) := by decide +kernel
theorem dX3_isPlannedAhead_27 : decode cX3_isPlannedAhead 27 = .ok (.getfield 19, 3) := by decide +kernel
theorem dX3_isPlannedAhead_30 : decode cX3_isPlannedAhead 30 = .ok (.if_icmp .ge 7, 3) := by decide +kernel
theorem dX3_isPlannedAhead_33 : decode cX3_isPlannedAhead 33 = .ok (.iconst 1, 1) := by decide +kernel
theorem dX3_isPlannedAhead_34 : decode cX3_isPlannedAhead 34 = .ok (.goto 4, 3) := by decide +kernel
theorem dX3_isPlannedAhead_37 : decode cX3_isPlannedAhead 37 = .ok (.iconst 0, 1) := by decide +kernel
theorem dX3_isPlannedAhead_38 : decode cX3_isPlannedAhead 38 = .ok (.ireturn, 1) := by decide +kernel
theorem dX4_init_0 : decode cX4_init 0 = .ok (.aload_n 0, 1) := by decide +kernel
theorem dX4_init_1 : decode cX4_init 1 = .ok (.invokespecial 1, 3) := by decide +kernel
theorem dX4_init_4 : decode cX4_init 4 = .ok (.aload_n 0, 1) := by decide +kernel
theorem dX4_init_5 : decode cX4_init 5 = .ok (.aload_n 1, 1) := by decide +kernel
theorem dX4_init_6 : decode cX4_init 6 = .ok (.putfield 7, 3) := by decide +kernel
theorem dX4_init_9 : decode cX4_init 9 = .ok (.aload_n 0, 1) := by decide +kernel
theorem dX4_init_10 : decode cX4_init 10 = .ok (.aload_n 2, 1) := by decide +kernel
theorem dX4_init_11 : decode cX4_init 11 = .ok (.putfield 13, 3) := by decide +kernel
theorem dX4_init_14 : decode cX4_init 14 = .ok (.aload_n 0, 1) := by decide +kernel
theorem dX4_init_15 : decode cX4_init 15 = .ok (.iload_n 3, 1) := by decide +kernel
theorem dX4_init_16 : decode cX4_init 16 = .ok (.putfield 17, 3) := by decide +kernel
theorem dX4_init_19 : decode cX4_init 19 = .ok (.aload_n 0, 1) := by decide +kernel
theorem dX4_init_20 : decode cX4_init 20 = .ok (.iload 4, 2) := by decide +kernel
theorem dX4_init_22 : decode cX4_init 22 = .ok (.putfield 21, 3) := by decide +kernel
theorem dX4_init_25 : decode cX4_init 25 = .ok (.aload_n 0, 1) := by decide +kernel
theorem dX4_init_26 : decode cX4_init 26 = .ok (.iload 5, 2) := by decide +kernel
theorem dX4_init_28 : decode cX4_init 28 = .ok (.putfield 24, 3) := by decide +kernel
theorem dX4_init_31 : decode cX4_init 31 = .ok (.return_, 1) := by decide +kernel
theorem dX4_isClearOf_0 : decode cX4_isClearOf 0 = .ok (.iload_n 2, 1) := by decide +kernel
theorem dX4_isClearOf_1 : decode cX4_isClearOf 1 = .ok (.iload_n 3, 1) := by decide +kernel
theorem dX4_isClearOf_2 : decode cX4_isClearOf 2 = .ok (.iadd, 1) := by decide +kernel
theorem dX4_isClearOf_3 : decode cX4_isClearOf 3 = .ok (.aload_n 0, 1) := by decide +kernel
theorem dX4_isClearOf_4 : decode cX4_isClearOf 4 = .ok (.getfield 17, 3) := by decide +kernel
theorem dX4_isClearOf_7 : decode cX4_isClearOf 7 = .ok (.if_icmp .le 13, 3) := by decide +kernel
theorem dX4_isClearOf_10 : decode cX4_isClearOf 10 = .ok (.aload_n 0, 1) := by decide +kernel
theorem dX4_isClearOf_11 : decode cX4_isClearOf 11 = .ok (.getfield 21, 3) := by decide +kernel
theorem dX4_isClearOf_14 : decode cX4_isClearOf 14 = .ok (.iload_n 3, 1) := by decide +kernel
theorem dX4_isClearOf_15 : decode cX4_isClearOf 15 = .ok (.iadd, 1) := by decide +kernel
theorem dX4_isClearOf_16 : decode cX4_isClearOf 16 = .ok (.iload_n 1, 1) := by decide +kernel
theorem dX4_isClearOf_17 : decode cX4_isClearOf 17 = .ok (.if_icmp .gt 7, 3) := by decide +kernel
theorem dX4_isClearOf_20 : decode cX4_isClearOf 20 = .ok (.iconst 1, 1) := by decide +kernel
theorem dX4_isClearOf_21 : decode cX4_isClearOf 21 = .ok (.goto 4, 3) := by decide +kernel
theorem dX4_isClearOf_24 : decode cX4_isClearOf 24 = .ok (.iconst 0, 1) := by decide +kernel
theorem dX4_isClearOf_25 : decode cX4_isClearOf 25 = .ok (.ireturn, 1) := by decide +kernel
theorem dX4_tell_0 : decode cX4_tell 0 = .ok (.iload_n 1, 1) := by decide +kernel
theorem dX4_tell_1 : decode cX4_tell 1 = .ok (.tableswitch 45 0 2 #[27, 35, 40], 27) := by decide +kernel
theorem dX4_tell_28 : decode cX4_tell 28 = .ok (.aload_n 0, 1) := by decide +kernel
theorem dX4_tell_29 : decode cX4_tell 29 = .ok (.getfield 7, 3) := by decide +kernel
theorem dX4_tell_32 : decode cX4_tell 32 = .ok (.getfield 28, 3) := by decide +kernel
theorem dX4_tell_35 : decode cX4_tell 35 = .ok (.ireturn, 1) := by decide +kernel
theorem dX4_tell_36 : decode cX4_tell 36 = .ok (.aload_n 0, 1) := by decide +kernel
theorem dX4_tell_37 : decode cX4_tell 37 = .ok (.getfield 17, 3) := by decide +kernel
theorem dX4_tell_40 : decode cX4_tell 40 = .ok (.ireturn, 1) := by decide +kernel
theorem dX4_tell_41 : decode cX4_tell 41 = .ok (.aload_n 0, 1) := by decide +kernel
theorem dX4_tell_42 : decode cX4_tell 42 = .ok (.getfield 21, 3) := by decide +kernel
theorem dX4_tell_45 : decode cX4_tell 45 = .ok (.ireturn, 1) := by decide +kernel
theorem dX4_tell_46 : decode cX4_tell 46 = .ok (.aload_n 0, 1) := by decide +kernel
theorem dX4_tell_47 : decode cX4_tell 47 = .ok (.getfield 24, 3) := by decide +kernel
theorem dX4_tell_50 : decode cX4_tell 50 = .ok (.ifCond .eq 7, 3) := by decide +kernel
theorem dX4_tell_53 : decode cX4_tell 53 = .ok (.iconst 1, 1) := by decide +kernel
theorem dX4_tell_54 : decode cX4_tell 54 = .ok (.goto 4, 3) := by decide +kernel
theorem dX4_tell_57 : decode cX4_tell 57 = .ok (.iconst 0, 1) := by decide +kernel
theorem dX4_tell_58 : decode cX4_tell 58 = .ok (.ireturn, 1) := by decide +kernel
end
section
theorem dX5_init_0 : decode cX5_init 0 = .ok (.aload_n 0, 1) := by decide +kernel
theorem dX5_init_1 : decode cX5_init 1 = .ok (.invokespecial 1, 3) := by decide +kernel
theorem dX5_init_4 : decode cX5_init 4 = .ok (.aload_n 0, 1) := by decide +kernel
theorem dX5_init_5 : decode cX5_init 5 = .ok (.new 7, 3) := by decide +kernel
theorem dX5_init_8 : decode cX5_init 8 = .ok (.dup, 1) := by decide +kernel
theorem dX5_init_9 : decode cX5_init 9 = .ok (.invokespecial 9, 3) := by decide +kernel
theorem dX5_init_12 : decode cX5_init 12 = .ok (.putfield 10, 3) := by decide +kernel
theorem dX5_init_15 : decode cX5_init 15 = .ok (.aload_n 0, 1) := by decide +kernel
theorem dX5_init_16 : decode cX5_init 16 = .ok (.new 7, 3) := by decide +kernel
theorem dX5_init_19 : decode cX5_init 19 = .ok (.dup, 1) := by decide +kernel
theorem dX5_init_20 : decode cX5_init 20 = .ok (.invokespecial 9, 3) := by decide +kernel
theorem dX5_init_23 : decode cX5_init 23 = .ok (.putfield 16, 3) := by decide +kernel
theorem dX5_init_26 : decode cX5_init 26 = .ok (.aload_n 0, 1) := by decide +kernel
theorem dX5_init_27 : decode cX5_init 27 = .ok (.new 7, 3) := by decide +kernel
theorem dX5_init_30 : decode cX5_init 30 = .ok (.dup, 1) := by decide +kernel
theorem dX5_init_31 : decode cX5_init 31 = .ok (.invokespecial 9, 3) := by decide +kernel
theorem dX5_init_34 : decode cX5_init 34 = .ok (.putfield 19, 3) := by decide +kernel
theorem dX5_init_37 : decode cX5_init 37 = .ok (.aload_n 0, 1) := by decide +kernel
theorem dX5_init_38 : decode cX5_init 38 = .ok (.new 7, 3) := by decide +kernel
theorem dX5_init_41 : decode cX5_init 41 = .ok (.dup, 1) := by decide +kernel
theorem dX5_init_42 : decode cX5_init 42 = .ok (.invokespecial 9, 3) := by decide +kernel
theorem dX5_init_45 : decode cX5_init 45 = .ok (.putfield 22, 3) := by decide +kernel
theorem dX5_init_48 : decode cX5_init 48 = .ok (.aload_n 0, 1) := by decide +kernel
theorem dX5_init_49 : decode cX5_init 49 = .ok (.sipush 3011, 3) := by decide +kernel
theorem dX5_init_52 : decode cX5_init 52 = .ok (.newarray .int, 2) := by decide +kernel
theorem dX5_init_54 : decode cX5_init 54 = .ok (.putfield 25, 3) := by decide +kernel
theorem dX5_init_57 : decode cX5_init 57 = .ok (.aload_n 0, 1) := by decide +kernel
theorem dX5_init_58 : decode cX5_init 58 = .ok (.iconst 0, 1) := by decide +kernel
theorem dX5_init_59 : decode cX5_init 59 = .ok (.putfield 29, 3) := by decide +kernel
theorem dX5_init_62 : decode cX5_init 62 = .ok (.aload_n 0, 1) := by decide +kernel
theorem dX5_init_63 : decode cX5_init 63 = .ok (.iconst 3, 1) := by decide +kernel
theorem dX5_init_64 : decode cX5_init 64 = .ok (.putfield 33, 3) := by decide +kernel
theorem dX5_init_67 : decode cX5_init 67 = .ok (.aload_n 0, 1) := by decide +kernel
theorem dX5_init_68 : decode cX5_init 68 = .ok (.bipush 10, 2) := by decide +kernel
theorem dX5_init_70 : decode cX5_init 70 = .ok (.putfield 36, 3) := by decide +kernel
theorem dX5_init_73 : decode cX5_init 73 = .ok (.return_, 1) := by decide +kernel
theorem dX5_addBoard_0 : decode cX5_addBoard 0 = .ok (.iload_n 1, 1) := by decide +kernel
theorem dX5_addBoard_1 : decode cX5_addBoard 1 = .ok (.bipush 100, 2) := by decide +kernel
theorem dX5_addBoard_3 : decode cX5_addBoard 3 = .ok (.sipush 3000, 3) := by decide +kernel
theorem dX5_addBoard_6 : decode cX5_addBoard 6 = .ok (.invokestatic 39, 3) := by decide +kernel
theorem dX5_addBoard_9 : decode cX5_addBoard 9 = .ok (.ifCond .eq 22, 3) := by decide +kernel
theorem dX5_addBoard_12 : decode cX5_addBoard 12 = .ok (.iload_n 2, 1) := by decide +kernel
theorem dX5_addBoard_13 : decode cX5_addBoard 13 = .ok (.bipush 10, 2) := by decide +kernel
theorem dX5_addBoard_15 : decode cX5_addBoard 15 = .ok (.sipush 400, 3) := by decide +kernel
theorem dX5_addBoard_18 : decode cX5_addBoard 18 = .ok (.invokestatic 39, 3) := by decide +kernel
theorem dX5_addBoard_21 : decode cX5_addBoard 21 = .ok (.ifCond .eq 10, 3) := by decide +kernel
theorem dX5_addBoard_24 : decode cX5_addBoard 24 = .ok (.iload_n 3, 1) := by decide +kernel
theorem dX5_addBoard_25 : decode cX5_addBoard 25 = .ok (.invokestatic 43, 3) := by decide +kernel
theorem dX5_addBoard_28 : decode cX5_addBoard 28 = .ok (.ifCond .ne 13, 3) := by decide +kernel
theorem dX5_addBoard_31 : decode cX5_addBoard 31 = .ok (.new 47, 3) := by decide +kernel
theorem dX5_addBoard_34 : decode cX5_addBoard 34 = .ok (.dup, 1) := by decide +kernel
theorem dX5_addBoard_35 : decode cX5_addBoard 35 = .ok (.ldc 49, 2) := by decide +kernel
theorem dX5_addBoard_37 : decode cX5_addBoard 37 = .ok (.invokespecial 51, 3) := by decide +kernel
theorem dX5_addBoard_40 : decode cX5_addBoard 40 = .ok (.athrow, 1) := by decide +kernel
theorem dX5_addBoard_41 : decode cX5_addBoard 41 = .ok (.aload_n 0, 1) := by decide +kernel
theorem dX5_addBoard_42 : decode cX5_addBoard 42 = .ok (.getfield 10, 3) := by decide +kernel
theorem dX5_addBoard_45 : decode cX5_addBoard 45 = .ok (.invokevirtual 54, 3) := by decide +kernel
theorem dX5_addBoard_48 : decode cX5_addBoard 48 = .ok (.bipush 10, 2) := by decide +kernel
theorem dX5_addBoard_50 : decode cX5_addBoard 50 = .ok (.if_icmp .lt 13, 3) := by decide +kernel
theorem dX5_addBoard_53 : decode cX5_addBoard 53 = .ok (.new 58, 3) := by decide +kernel
theorem dX5_addBoard_56 : decode cX5_addBoard 56 = .ok (.dup, 1) := by decide +kernel
theorem dX5_addBoard_57 : decode cX5_addBoard 57 = .ok (.ldc 60, 2) := by decide +kernel
theorem dX5_addBoard_59 : decode cX5_addBoard 59 = .ok (.invokespecial 62, 3) := by decide +kernel
theorem dX5_addBoard_62 : decode cX5_addBoard 62 = .ok (.athrow, 1) := by decide +kernel
theorem dX5_addBoard_63 : decode cX5_addBoard 63 = .ok (.aload_n 0, 1) := by decide +kernel
theorem dX5_addBoard_64 : decode cX5_addBoard 64 = .ok (.getfield 10, 3) := by decide +kernel
theorem dX5_addBoard_67 : decode cX5_addBoard 67 = .ok (.new 63, 3) := by decide +kernel
theorem dX5_addBoard_70 : decode cX5_addBoard 70 = .ok (.dup, 1) := by decide +kernel
theorem dX5_addBoard_71 : decode cX5_addBoard 71 = .ok (.iload_n 1, 1) := by decide +kernel
theorem dX5_addBoard_72 : decode cX5_addBoard 72 = .ok (.iload_n 2, 1) := by decide +kernel
theorem dX5_addBoard_73 : decode cX5_addBoard 73 = .ok (.iload_n 3, 1) := by decide +kernel
theorem dX5_addBoard_74 : decode cX5_addBoard 74 = .ok (.invokespecial 65, 3) := by decide +kernel
theorem dX5_addBoard_77 : decode cX5_addBoard 77 = .ok (.invokevirtual 68, 3) := by decide +kernel
theorem dX5_addBoard_80 : decode cX5_addBoard 80 = .ok (.pop, 1) := by decide +kernel
theorem dX5_addBoard_81 : decode cX5_addBoard 81 = .ok (.aload_n 0, 1) := by decide +kernel
theorem dX5_addBoard_82 : decode cX5_addBoard 82 = .ok (.getfield 10, 3) := by decide +kernel
theorem dX5_addBoard_85 : decode cX5_addBoard 85 = .ok (.invokevirtual 54, 3) := by decide +kernel
theorem dX5_addBoard_88 : decode cX5_addBoard 88 = .ok (.iconst 1, 1) := by decide +kernel
theorem dX5_addBoard_89 : decode cX5_addBoard 89 = .ok (.isub, 1) := by decide +kernel
theorem dX5_addBoard_90 : decode cX5_addBoard 90 = .ok (.ireturn, 1) := by decide +kernel
theorem dX5_addDefect_0 : decode cX5_addDefect 0 = .ok (.aload_n 0, 1) := by decide +kernel
theorem dX5_addDefect_1 : decode cX5_addDefect 1 = .ok (.iload_n 1, 1) := by decide +kernel
theorem dX5_addDefect_2 : decode cX5_addDefect 2 = .ok (.invokevirtual 72, 3) := by decide +kernel
theorem dX5_addDefect_5 : decode cX5_addDefect 5 = .ok (.astore 5, 2) := by decide +kernel
theorem dX5_addDefect_7 : decode cX5_addDefect 7 = .ok (.iload_n 2, 1) := by decide +kernel
theorem dX5_addDefect_8 : decode cX5_addDefect 8 = .ok (.ifCond .lt 27, 3) := by decide +kernel
theorem dX5_addDefect_11 : decode cX5_addDefect 11 = .ok (.iload_n 3, 1) := by decide +kernel
theorem dX5_addDefect_12 : decode cX5_addDefect 12 = .ok (.iload_n 2, 1) := by decide +kernel
theorem dX5_addDefect_13 : decode cX5_addDefect 13 = .ok (.if_icmp .le 22, 3) := by decide +kernel
theorem dX5_addDefect_16 : decode cX5_addDefect 16 = .ok (.iload_n 3, 1) := by decide +kernel
theorem dX5_addDefect_17 : decode cX5_addDefect 17 = .ok (.aload 5, 2) := by decide +kernel
theorem dX5_addDefect_19 : decode cX5_addDefect 19 = .ok (.getfield 76, 3) := by decide +kernel
theorem dX5_addDefect_22 : decode cX5_addDefect 22 = .ok (.if_icmp .gt 13, 3) := by decide +kernel
theorem dX5_addDefect_25 : decode cX5_addDefect 25 = .ok (.iload 4, 2) := by decide +kernel
theorem dX5_addDefect_27 : decode cX5_addDefect 27 = .ok (.iconst 1, 1) := by decide +kernel
theorem dX5_addDefect_28 : decode cX5_addDefect 28 = .ok (.iconst 3, 1) := by decide +kernel
theorem dX5_addDefect_29 : decode cX5_addDefect 29 = .ok (.invokestatic 39, 3) := by decide +kernel
theorem dX5_addDefect_32 : decode cX5_addDefect 32 = .ok (.ifCond .ne 13, 3) := by decide +kernel
theorem dX5_addDefect_35 : decode cX5_addDefect 35 = .ok (.new 47, 3) := by decide +kernel
theorem dX5_addDefect_38 : decode cX5_addDefect 38 = .ok (.dup, 1) := by decide +kernel
theorem dX5_addDefect_39 : decode cX5_addDefect 39 = .ok (.ldc 79, 2) := by decide +kernel
theorem dX5_addDefect_41 : decode cX5_addDefect 41 = .ok (.invokespecial 51, 3) := by decide +kernel
theorem dX5_addDefect_44 : decode cX5_addDefect 44 = .ok (.athrow, 1) := by decide +kernel
theorem dX5_addDefect_45 : decode cX5_addDefect 45 = .ok (.aload_n 0, 1) := by decide +kernel
theorem dX5_addDefect_46 : decode cX5_addDefect 46 = .ok (.getfield 29, 3) := by decide +kernel
theorem dX5_addDefect_49 : decode cX5_addDefect 49 = .ok (.bipush 24, 2) := by decide +kernel
theorem dX5_addDefect_51 : decode cX5_addDefect 51 = .ok (.if_icmp .lt 13, 3) := by decide +kernel
theorem dX5_addDefect_54 : decode cX5_addDefect 54 = .ok (.new 58, 3) := by decide +kernel
theorem dX5_addDefect_57 : decode cX5_addDefect 57 = .ok (.dup, 1) := by decide +kernel
theorem dX5_addDefect_58 : decode cX5_addDefect 58 = .ok (.ldc 81, 2) := by decide +kernel
theorem dX5_addDefect_60 : decode cX5_addDefect 60 = .ok (.invokespecial 62, 3) := by decide +kernel
theorem dX5_addDefect_63 : decode cX5_addDefect 63 = .ok (.athrow, 1) := by decide +kernel
theorem dX5_addDefect_64 : decode cX5_addDefect 64 = .ok (.aload 5, 2) := by decide +kernel
theorem dX5_addDefect_66 : decode cX5_addDefect 66 = .ok (.iload_n 2, 1) := by decide +kernel
theorem dX5_addDefect_67 : decode cX5_addDefect 67 = .ok (.iload_n 3, 1) := by decide +kernel
theorem dX5_addDefect_68 : decode cX5_addDefect 68 = .ok (.iload 4, 2) := by decide +kernel
theorem dX5_addDefect_70 : decode cX5_addDefect 70 = .ok (.invokevirtual 83, 3) := by decide +kernel
theorem dX5_addDefect_73 : decode cX5_addDefect 73 = .ok (.ifCond .eq 13, 3) := by decide +kernel
theorem dX5_addDefect_76 : decode cX5_addDefect 76 = .ok (.new 58, 3) := by decide +kernel
theorem dX5_addDefect_79 : decode cX5_addDefect 79 = .ok (.dup, 1) := by decide +kernel
theorem dX5_addDefect_80 : decode cX5_addDefect 80 = .ok (.ldc 86, 2) := by decide +kernel
theorem dX5_addDefect_82 : decode cX5_addDefect 82 = .ok (.invokespecial 62, 3) := by decide +kernel
theorem dX5_addDefect_85 : decode cX5_addDefect 85 = .ok (.athrow, 1) := by decide +kernel
theorem dX5_addDefect_86 : decode cX5_addDefect 86 = .ok (.aload 5, 2) := by decide +kernel
theorem dX5_addDefect_88 : decode cX5_addDefect 88 = .ok (.new 88, 3) := by decide +kernel
theorem dX5_addDefect_91 : decode cX5_addDefect 91 = .ok (.dup, 1) := by decide +kernel
theorem dX5_addDefect_92 : decode cX5_addDefect 92 = .ok (.iload_n 2, 1) := by decide +kernel
theorem dX5_addDefect_93 : decode cX5_addDefect 93 = .ok (.iload_n 3, 1) := by decide +kernel
theorem dX5_addDefect_94 : decode cX5_addDefect 94 = .ok (.iload 4, 2) := by decide +kernel
theorem dX5_addDefect_96 : decode cX5_addDefect 96 = .ok (.invokespecial 90, 3) := by decide +kernel
theorem dX5_addDefect_99 : decode cX5_addDefect 99 = .ok (.invokevirtual 91, 3) := by decide +kernel
theorem dX5_addDefect_102 : decode cX5_addDefect 102 = .ok (.aload_n 0, 1) := by decide +kernel
theorem dX5_addDefect_103 : decode cX5_addDefect 103 = .ok (.dup, 1) := by decide +kernel
theorem dX5_addDefect_104 : decode cX5_addDefect 104 = .ok (.getfield 29, 3) := by decide +kernel
theorem dX5_addDefect_107 : decode cX5_addDefect 107 = .ok (.iconst 1, 1) := by decide +kernel
theorem dX5_addDefect_108 : decode cX5_addDefect 108 = .ok (.iadd, 1) := by decide +kernel
theorem dX5_addDefect_109 : decode cX5_addDefect 109 = .ok (.putfield 29, 3) := by decide +kernel
theorem dX5_addDefect_112 : decode cX5_addDefect 112 = .ok (.aload_n 0, 1) := by decide +kernel
theorem dX5_addDefect_113 : decode cX5_addDefect 113 = .ok (.getfield 29, 3) := by decide +kernel
theorem dX5_addDefect_116 : decode cX5_addDefect 116 = .ok (.ireturn, 1) := by decide +kernel
theorem dX5_addPart_0 : decode cX5_addPart 0 = .ok (.iload_n 1, 1) := by decide +kernel
theorem dX5_addPart_1 : decode cX5_addPart 1 = .ok (.bipush 20, 2) := by decide +kernel
theorem dX5_addPart_3 : decode cX5_addPart 3 = .ok (.sipush 3000, 3) := by decide +kernel
theorem dX5_addPart_6 : decode cX5_addPart 6 = .ok (.invokestatic 39, 3) := by decide +kernel
theorem dX5_addPart_9 : decode cX5_addPart 9 = .ok (.ifCond .eq 33, 3) := by decide +kernel
theorem dX5_addPart_12 : decode cX5_addPart 12 = .ok (.iload_n 2, 1) := by decide +kernel
theorem dX5_addPart_13 : decode cX5_addPart 13 = .ok (.bipush 10, 2) := by decide +kernel
theorem dX5_addPart_15 : decode cX5_addPart 15 = .ok (.sipush 400, 3) := by decide +kernel
theorem dX5_addPart_18 : decode cX5_addPart 18 = .ok (.invokestatic 39, 3) := by decide +kernel
theorem dX5_addPart_21 : decode cX5_addPart 21 = .ok (.ifCond .eq 21, 3) := by decide +kernel
theorem dX5_addPart_24 : decode cX5_addPart 24 = .ok (.iload_n 3, 1) := by decide +kernel
theorem dX5_addPart_25 : decode cX5_addPart 25 = .ok (.invokestatic 43, 3) := by decide +kernel
theorem dX5_addPart_28 : decode cX5_addPart 28 = .ok (.ifCond .eq 14, 3) := by decide +kernel
theorem dX5_addPart_31 : decode cX5_addPart 31 = .ok (.iload 4, 2) := by decide +kernel
theorem dX5_addPart_33 : decode cX5_addPart 33 = .ok (.iconst 1, 1) := by decide +kernel
theorem dX5_addPart_34 : decode cX5_addPart 34 = .ok (.bipush 9, 2) := by decide +kernel
theorem dX5_addPart_36 : decode cX5_addPart 36 = .ok (.invokestatic 39, 3) := by decide +kernel
theorem dX5_addPart_39 : decode cX5_addPart 39 = .ok (.ifCond .ne 13, 3) := by decide +kernel
theorem dX5_addPart_42 : decode cX5_addPart 42 = .ok (.new 47, 3) := by decide +kernel
theorem dX5_addPart_45 : decode cX5_addPart 45 = .ok (.dup, 1) := by decide +kernel
theorem dX5_addPart_46 : decode cX5_addPart 46 = .ok (.ldc 95, 2) := by decide +kernel
theorem dX5_addPart_48 : decode cX5_addPart 48 = .ok (.invokespecial 51, 3) := by decide +kernel
theorem dX5_addPart_51 : decode cX5_addPart 51 = .ok (.athrow, 1) := by decide +kernel
theorem dX5_addPart_52 : decode cX5_addPart 52 = .ok (.aload_n 0, 1) := by decide +kernel
theorem dX5_addPart_53 : decode cX5_addPart 53 = .ok (.getfield 16, 3) := by decide +kernel
theorem dX5_addPart_56 : decode cX5_addPart 56 = .ok (.invokevirtual 54, 3) := by decide +kernel
theorem dX5_addPart_59 : decode cX5_addPart 59 = .ok (.bipush 12, 2) := by decide +kernel
theorem dX5_addPart_61 : decode cX5_addPart 61 = .ok (.if_icmp .lt 13, 3) := by decide +kernel
theorem dX5_addPart_64 : decode cX5_addPart 64 = .ok (.new 58, 3) := by decide +kernel
theorem dX5_addPart_67 : decode cX5_addPart 67 = .ok (.dup, 1) := by decide +kernel
theorem dX5_addPart_68 : decode cX5_addPart 68 = .ok (.ldc 97, 2) := by decide +kernel
theorem dX5_addPart_70 : decode cX5_addPart 70 = .ok (.invokespecial 62, 3) := by decide +kernel
theorem dX5_addPart_73 : decode cX5_addPart 73 = .ok (.athrow, 1) := by decide +kernel
theorem dX5_addPart_74 : decode cX5_addPart 74 = .ok (.new 99, 3) := by decide +kernel
theorem dX5_addPart_77 : decode cX5_addPart 77 = .ok (.dup, 1) := by decide +kernel
theorem dX5_addPart_78 : decode cX5_addPart 78 = .ok (.aload_n 0, 1) := by decide +kernel
theorem dX5_addPart_79 : decode cX5_addPart 79 = .ok (.getfield 16, 3) := by decide +kernel
theorem dX5_addPart_82 : decode cX5_addPart 82 = .ok (.invokevirtual 54, 3) := by decide +kernel
theorem dX5_addPart_85 : decode cX5_addPart 85 = .ok (.iload_n 1, 1) := by decide +kernel
theorem dX5_addPart_86 : decode cX5_addPart 86 = .ok (.iload_n 2, 1) := by decide +kernel
theorem dX5_addPart_87 : decode cX5_addPart 87 = .ok (.iload_n 3, 1) := by decide +kernel
theorem dX5_addPart_88 : decode cX5_addPart 88 = .ok (.iload 4, 2) := by decide +kernel
theorem dX5_addPart_90 : decode cX5_addPart 90 = .ok (.iload 5, 2) := by decide +kernel
theorem dX5_addPart_92 : decode cX5_addPart 92 = .ok (.invokespecial 101, 3) := by decide +kernel
theorem dX5_addPart_95 : decode cX5_addPart 95 = .ok (.astore 6, 2) := by decide +kernel
theorem dX5_addPart_97 : decode cX5_addPart 97 = .ok (.aload_n 0, 1) := by decide +kernel
theorem dX5_addPart_98 : decode cX5_addPart 98 = .ok (.getfield 16, 3) := by decide +kernel
theorem dX5_addPart_101 : decode cX5_addPart 101 = .ok (.aload 6, 2) := by decide +kernel
theorem dX5_addPart_103 : decode cX5_addPart 103 = .ok (.invokevirtual 68, 3) := by decide +kernel
theorem dX5_addPart_106 : decode cX5_addPart 106 = .ok (.pop, 1) := by decide +kernel
theorem dX5_addPart_107 : decode cX5_addPart 107 = .ok (.aload_n 0, 1) := by decide +kernel
theorem dX5_addPart_108 : decode cX5_addPart 108 = .ok (.aload 6, 2) := by decide +kernel
theorem dX5_addPart_110 : decode cX5_addPart 110 = .ok (.invokevirtual 104, 3) := by decide +kernel
theorem dX5_addPart_113 : decode cX5_addPart 113 = .ok (.aload 6, 2) := by decide +kernel
theorem dX5_addPart_115 : decode cX5_addPart 115 = .ok (.getfield 108, 3) := by decide +kernel
theorem dX5_addPart_118 : decode cX5_addPart 118 = .ok (.ireturn, 1) := by decide +kernel
theorem dX5_setSaw_0 : decode cX5_setSaw 0 = .ok (.iload_n 1, 1) := by decide +kernel
theorem dX5_setSaw_1 : decode cX5_setSaw 1 = .ok (.iconst 0, 1) := by decide +kernel
theorem dX5_setSaw_2 : decode cX5_setSaw 2 = .ok (.bipush 10, 2) := by decide +kernel
theorem dX5_setSaw_4 : decode cX5_setSaw 4 = .ok (.invokestatic 39, 3) := by decide +kernel
theorem dX5_setSaw_7 : decode cX5_setSaw 7 = .ok (.ifCond .ne 13, 3) := by decide +kernel
theorem dX5_setSaw_10 : decode cX5_setSaw 10 = .ok (.new 47, 3) := by decide +kernel
theorem dX5_setSaw_13 : decode cX5_setSaw 13 = .ok (.dup, 1) := by decide +kernel
theorem dX5_setSaw_14 : decode cX5_setSaw 14 = .ok (.ldc 111, 2) := by decide +kernel
theorem dX5_setSaw_16 : decode cX5_setSaw 16 = .ok (.invokespecial 51, 3) := by decide +kernel
theorem dX5_setSaw_19 : decode cX5_setSaw 19 = .ok (.athrow, 1) := by decide +kernel
theorem dX5_setSaw_20 : decode cX5_setSaw 20 = .ok (.aload_n 0, 1) := by decide +kernel
theorem dX5_setSaw_21 : decode cX5_setSaw 21 = .ok (.getfield 22, 3) := by decide +kernel
theorem dX5_setSaw_24 : decode cX5_setSaw 24 = .ok (.invokevirtual 113, 3) := by decide +kernel
theorem dX5_setSaw_27 : decode cX5_setSaw 27 = .ok (.ifCond .ne 13, 3) := by decide +kernel
theorem dX5_setSaw_30 : decode cX5_setSaw 30 = .ok (.new 58, 3) := by decide +kernel
theorem dX5_setSaw_33 : decode cX5_setSaw 33 = .ok (.dup, 1) := by decide +kernel
theorem dX5_setSaw_34 : decode cX5_setSaw 34 = .ok (.ldc 117, 2) := by decide +kernel
theorem dX5_setSaw_36 : decode cX5_setSaw 36 = .ok (.invokespecial 62, 3) := by decide +kernel
theorem dX5_setSaw_39 : decode cX5_setSaw 39 = .ok (.athrow, 1) := by decide +kernel
theorem dX5_setSaw_40 : decode cX5_setSaw 40 = .ok (.aload_n 0, 1) := by decide +kernel
theorem dX5_setSaw_41 : decode cX5_setSaw 41 = .ok (.getfield 33, 3) := by decide +kernel
theorem dX5_setSaw_44 : decode cX5_setSaw 44 = .ok (.istore_n 2, 1) := by decide +kernel
theorem dX5_setSaw_45 : decode cX5_setSaw 45 = .ok (.aload_n 0, 1) := by decide +kernel
theorem dX5_setSaw_46 : decode cX5_setSaw 46 = .ok (.iload_n 1, 1) := by decide +kernel
theorem dX5_setSaw_47 : decode cX5_setSaw 47 = .ok (.putfield 33, 3) := by decide +kernel
theorem dX5_setSaw_50 : decode cX5_setSaw 50 = .ok (.iload_n 2, 1) := by decide +kernel
theorem dX5_setSaw_51 : decode cX5_setSaw 51 = .ok (.ireturn, 1) := by decide +kernel
theorem dX5_setJoint_0 : decode cX5_setJoint 0 = .ok (.iload_n 1, 1) := by decide +kernel
theorem dX5_setJoint_1 : decode cX5_setJoint 1 = .ok (.iconst 0, 1) := by decide +kernel
theorem dX5_setJoint_2 : decode cX5_setJoint 2 = .ok (.bipush 50, 2) := by decide +kernel
theorem dX5_setJoint_4 : decode cX5_setJoint 4 = .ok (.invokestatic 39, 3) := by decide +kernel
theorem dX5_setJoint_7 : decode cX5_setJoint 7 = .ok (.ifCond .ne 13, 3) := by decide +kernel
theorem dX5_setJoint_10 : decode cX5_setJoint 10 = .ok (.new 47, 3) := by decide +kernel
theorem dX5_setJoint_13 : decode cX5_setJoint 13 = .ok (.dup, 1) := by decide +kernel
theorem dX5_setJoint_14 : decode cX5_setJoint 14 = .ok (.ldc 119, 2) := by decide +kernel
theorem dX5_setJoint_16 : decode cX5_setJoint 16 = .ok (.invokespecial 51, 3) := by decide +kernel
theorem dX5_setJoint_19 : decode cX5_setJoint 19 = .ok (.athrow, 1) := by decide +kernel
theorem dX5_setJoint_20 : decode cX5_setJoint 20 = .ok (.aload_n 0, 1) := by decide +kernel
theorem dX5_setJoint_21 : decode cX5_setJoint 21 = .ok (.getfield 36, 3) := by decide +kernel
theorem dX5_setJoint_24 : decode cX5_setJoint 24 = .ok (.istore_n 2, 1) := by decide +kernel
theorem dX5_setJoint_25 : decode cX5_setJoint 25 = .ok (.aload_n 0, 1) := by decide +kernel
theorem dX5_setJoint_26 : decode cX5_setJoint 26 = .ok (.iload_n 1, 1) := by decide +kernel
theorem dX5_setJoint_27 : decode cX5_setJoint 27 = .ok (.putfield 36, 3) := by decide +kernel
theorem dX5_setJoint_30 : decode cX5_setJoint 30 = .ok (.iload_n 2, 1) := by decide +kernel
theorem dX5_setJoint_31 : decode cX5_setJoint 31 = .ok (.ireturn, 1) := by decide +kernel
theorem dX5_grade_0 : decode cX5_grade 0 = .ok (.aload_n 0, 1) := by decide +kernel
theorem dX5_grade_1 : decode cX5_grade 1 = .ok (.iload_n 1, 1) := by decide +kernel
theorem dX5_grade_2 : decode cX5_grade 2 = .ok (.invokevirtual 72, 3) := by decide +kernel
theorem dX5_grade_5 : decode cX5_grade 5 = .ok (.astore_n 3, 1) := by decide +kernel
theorem dX5_grade_6 : decode cX5_grade 6 = .ok (.iload_n 2, 1) := by decide +kernel
theorem dX5_grade_7 : decode cX5_grade 7 = .ok (.ifCond .lt 11, 3) := by decide +kernel
theorem dX5_grade_10 : decode cX5_grade 10 = .ok (.iload_n 2, 1) := by decide +kernel
theorem dX5_grade_11 : decode cX5_grade 11 = .ok (.aload_n 3, 1) := by decide +kernel
theorem dX5_grade_12 : decode cX5_grade 12 = .ok (.getfield 76, 3) := by decide +kernel
theorem dX5_grade_15 : decode cX5_grade 15 = .ok (.if_icmp .lt 13, 3) := by decide +kernel
theorem dX5_grade_18 : decode cX5_grade 18 = .ok (.new 121, 3) := by decide +kernel
theorem dX5_grade_21 : decode cX5_grade 21 = .ok (.dup, 1) := by decide +kernel
theorem dX5_grade_22 : decode cX5_grade 22 = .ok (.ldc 123, 2) := by decide +kernel
theorem dX5_grade_24 : decode cX5_grade 24 = .ok (.invokespecial 125, 3) := by decide +kernel
theorem dX5_grade_27 : decode cX5_grade 27 = .ok (.athrow, 1) := by decide +kernel
theorem dX5_grade_28 : decode cX5_grade 28 = .ok (.aload_n 3, 1) := by decide +kernel
theorem dX5_grade_29 : decode cX5_grade 29 = .ok (.iload_n 2, 1) := by decide +kernel
theorem dX5_grade_30 : decode cX5_grade 30 = .ok (.invokevirtual 126, 3) := by decide +kernel
theorem dX5_grade_33 : decode cX5_grade 33 = .ok (.ireturn, 1) := by decide +kernel
theorem dX5_stretches_0 : decode cX5_stretches 0 = .ok (.aload_n 0, 1) := by decide +kernel
theorem dX5_stretches_1 : decode cX5_stretches 1 = .ok (.iload_n 1, 1) := by decide +kernel
theorem dX5_stretches_2 : decode cX5_stretches 2 = .ok (.invokevirtual 72, 3) := by decide +kernel
theorem dX5_stretches_5 : decode cX5_stretches 5 = .ok (.astore_n 3, 1) := by decide +kernel
theorem dX5_stretches_6 : decode cX5_stretches 6 = .ok (.iload_n 2, 1) := by decide +kernel
theorem dX5_stretches_7 : decode cX5_stretches 7 = .ok (.invokestatic 130, 3) := by decide +kernel
theorem dX5_stretches_10 : decode cX5_stretches 10 = .ok (.aload_n 3, 1) := by decide +kernel
theorem dX5_stretches_11 : decode cX5_stretches 11 = .ok (.iload_n 2, 1) := by decide +kernel
theorem dX5_stretches_12 : decode cX5_stretches 12 = .ok (.invokevirtual 134, 3) := by decide +kernel
theorem dX5_stretches_15 : decode cX5_stretches 15 = .ok (.ireturn, 1) := by decide +kernel
theorem dX5_stretch_0 : decode cX5_stretch 0 = .ok (.aload_n 0, 1) := by decide +kernel
theorem dX5_stretch_1 : decode cX5_stretch 1 = .ok (.iload_n 1, 1) := by decide +kernel
theorem dX5_stretch_2 : decode cX5_stretch 2 = .ok (.invokevirtual 72, 3) := by decide +kernel
theorem dX5_stretch_5 : decode cX5_stretch 5 = .ok (.astore 5, 2) := by decide +kernel
theorem dX5_stretch_7 : decode cX5_stretch 7 = .ok (.iload_n 2, 1) := by decide +kernel
theorem dX5_stretch_8 : decode cX5_stretch 8 = .ok (.invokestatic 130, 3) := by decide +kernel
theorem dX5_stretch_11 : decode cX5_stretch 11 = .ok (.iload_n 3, 1) := by decide +kernel
theorem dX5_stretch_12 : decode cX5_stretch 12 = .ok (.ifCond .lt 13, 3) := by decide +kernel
theorem dX5_stretch_15 : decode cX5_stretch 15 = .ok (.iload_n 3, 1) := by decide +kernel
theorem dX5_stretch_16 : decode cX5_stretch 16 = .ok (.aload 5, 2) := by decide +kernel
theorem dX5_stretch_18 : decode cX5_stretch 18 = .ok (.iload_n 2, 1) := by decide +kernel
theorem dX5_stretch_19 : decode cX5_stretch 19 = .ok (.invokevirtual 134, 3) := by decide +kernel
theorem dX5_stretch_22 : decode cX5_stretch 22 = .ok (.if_icmp .lt 13, 3) := by decide +kernel
theorem dX5_stretch_25 : decode cX5_stretch 25 = .ok (.new 47, 3) := by decide +kernel
theorem dX5_stretch_28 : decode cX5_stretch 28 = .ok (.dup, 1) := by decide +kernel
theorem dX5_stretch_29 : decode cX5_stretch 29 = .ok (.ldc 137, 2) := by decide +kernel
theorem dX5_stretch_31 : decode cX5_stretch 31 = .ok (.invokespecial 51, 3) := by decide +kernel
theorem dX5_stretch_34 : decode cX5_stretch 34 = .ok (.athrow, 1) := by decide +kernel
theorem dX5_stretch_35 : decode cX5_stretch 35 = .ok (.aload 5, 2) := by decide +kernel
theorem dX5_stretch_37 : decode cX5_stretch 37 = .ok (.iload_n 3, 1) := by decide +kernel
theorem dX5_stretch_38 : decode cX5_stretch 38 = .ok (.iload_n 2, 1) := by decide +kernel
theorem dX5_stretch_39 : decode cX5_stretch 39 = .ok (.invokevirtual 139, 3) := by decide +kernel
theorem dX5_stretch_42 : decode cX5_stretch 42 = .ok (.istore 6, 2) := by decide +kernel
theorem dX5_stretch_44 : decode cX5_stretch 44 = .ok (.iload 4, 2) := by decide +kernel
theorem dX5_stretch_46 : decode cX5_stretch 46 = .ok (.ifCond .eq 14, 3) := by decide +kernel
theorem dX5_stretch_49 : decode cX5_stretch 49 = .ok (.aload 5, 2) := by decide +kernel
theorem dX5_stretch_51 : decode cX5_stretch 51 = .ok (.iload 6, 2) := by decide +kernel
theorem dX5_stretch_53 : decode cX5_stretch 53 = .ok (.iload_n 2, 1) := by decide +kernel
theorem dX5_stretch_54 : decode cX5_stretch 54 = .ok (.invokevirtual 143, 3) := by decide +kernel
theorem dX5_stretch_57 : decode cX5_stretch 57 = .ok (.goto 5, 3) := by decide +kernel
theorem dX5_stretch_60 : decode cX5_stretch 60 = .ok (.iload 6, 2) := by decide +kernel
theorem dX5_stretch_62 : decode cX5_stretch 62 = .ok (.ireturn, 1) := by decide +kernel
theorem dX5_fits_0 : decode cX5_fits 0 = .ok (.aload_n 0, 1) := by decide +kernel
theorem dX5_fits_1 : decode cX5_fits 1 = .ok (.iload_n 1, 1) := by decide +kernel
theorem dX5_fits_2 : decode cX5_fits 2 = .ok (.invokevirtual 146, 3) := by decide +kernel
theorem dX5_fits_5 : decode cX5_fits 5 = .ok (.astore 4, 2) := by decide +kernel
theorem dX5_fits_7 : decode cX5_fits 7 = .ok (.aload_n 0, 1) := by decide +kernel
theorem dX5_fits_8 : decode cX5_fits 8 = .ok (.iload_n 2, 1) := by decide +kernel
theorem dX5_fits_9 : decode cX5_fits 9 = .ok (.invokevirtual 72, 3) := by decide +kernel
theorem dX5_fits_12 : decode cX5_fits 12 = .ok (.aload 4, 2) := by decide +kernel
theorem dX5_fits_14 : decode cX5_fits 14 = .ok (.iload_n 3, 1) := by decide +kernel
theorem dX5_fits_15 : decode cX5_fits 15 = .ok (.aload 4, 2) := by decide +kernel
theorem dX5_fits_17 : decode cX5_fits 17 = .ok (.getfield 150, 3) := by decide +kernel
theorem dX5_fits_20 : decode cX5_fits 20 = .ok (.aload_n 0, 1) := by decide +kernel
theorem dX5_fits_21 : decode cX5_fits 21 = .ok (.getfield 33, 3) := by decide +kernel
theorem dX5_fits_24 : decode cX5_fits 24 = .ok (.invokevirtual 151, 3) := by decide +kernel
theorem dX5_fits_27 : decode cX5_fits 27 = .ok (.ireturn, 1) := by decide +kernel
theorem dX5_earliest_0 : decode cX5_earliest 0 = .ok (.aload_n 0, 1) := by decide +kernel
theorem dX5_earliest_1 : decode cX5_earliest 1 = .ok (.iload_n 1, 1) := by decide +kernel
theorem dX5_earliest_2 : decode cX5_earliest 2 = .ok (.invokevirtual 146, 3) := by decide +kernel
theorem dX5_earliest_5 : decode cX5_earliest 5 = .ok (.astore_n 3, 1) := by decide +kernel
theorem dX5_earliest_6 : decode cX5_earliest 6 = .ok (.aload_n 0, 1) := by decide +kernel
theorem dX5_earliest_7 : decode cX5_earliest 7 = .ok (.iload_n 2, 1) := by decide +kernel
theorem dX5_earliest_8 : decode cX5_earliest 8 = .ok (.invokevirtual 72, 3) := by decide +kernel
theorem dX5_earliest_11 : decode cX5_earliest 11 = .ok (.aload_n 3, 1) := by decide +kernel
theorem dX5_earliest_12 : decode cX5_earliest 12 = .ok (.aload_n 0, 1) := by decide +kernel
theorem dX5_earliest_13 : decode cX5_earliest 13 = .ok (.getfield 33, 3) := by decide +kernel
theorem dX5_earliest_16 : decode cX5_earliest 16 = .ok (.invokevirtual 155, 3) := by decide +kernel
theorem dX5_earliest_19 : decode cX5_earliest 19 = .ok (.ireturn, 1) := by decide +kernel
theorem dX5_cut_0 : decode cX5_cut 0 = .ok (.aload_n 0, 1) := by decide +kernel
theorem dX5_cut_1 : decode cX5_cut 1 = .ok (.iload_n 1, 1) := by decide +kernel
theorem dX5_cut_2 : decode cX5_cut 2 = .ok (.invokevirtual 146, 3) := by decide +kernel
theorem dX5_cut_5 : decode cX5_cut 5 = .ok (.astore 4, 2) := by decide +kernel
theorem dX5_cut_7 : decode cX5_cut 7 = .ok (.aload_n 0, 1) := by decide +kernel
theorem dX5_cut_8 : decode cX5_cut 8 = .ok (.iload_n 2, 1) := by decide +kernel
theorem dX5_cut_9 : decode cX5_cut 9 = .ok (.invokevirtual 72, 3) := by decide +kernel
theorem dX5_cut_12 : decode cX5_cut 12 = .ok (.astore 5, 2) := by decide +kernel
theorem dX5_cut_14 : decode cX5_cut 14 = .ok (.aload 4, 2) := by decide +kernel
theorem dX5_cut_16 : decode cX5_cut 16 = .ok (.getfield 159, 3) := by decide +kernel
theorem dX5_cut_19 : decode cX5_cut 19 = .ok (.ifCond .gt 13, 3) := by decide +kernel
theorem dX5_cut_22 : decode cX5_cut 22 = .ok (.new 58, 3) := by decide +kernel
theorem dX5_cut_25 : decode cX5_cut 25 = .ok (.dup, 1) := by decide +kernel
theorem dX5_cut_26 : decode cX5_cut 26 = .ok (.ldc 162, 2) := by decide +kernel
theorem dX5_cut_28 : decode cX5_cut 28 = .ok (.invokespecial 62, 3) := by decide +kernel
theorem dX5_cut_31 : decode cX5_cut 31 = .ok (.athrow, 1) := by decide +kernel
theorem dX5_cut_32 : decode cX5_cut 32 = .ok (.aload 5, 2) := by decide +kernel
theorem dX5_cut_34 : decode cX5_cut 34 = .ok (.aload 4, 2) := by decide +kernel
theorem dX5_cut_36 : decode cX5_cut 36 = .ok (.iload_n 3, 1) := by decide +kernel
theorem dX5_cut_37 : decode cX5_cut 37 = .ok (.aload 4, 2) := by decide +kernel
theorem dX5_cut_39 : decode cX5_cut 39 = .ok (.getfield 150, 3) := by decide +kernel
theorem dX5_cut_42 : decode cX5_cut 42 = .ok (.aload_n 0, 1) := by decide +kernel
theorem dX5_cut_43 : decode cX5_cut 43 = .ok (.getfield 33, 3) := by decide +kernel
theorem dX5_cut_46 : decode cX5_cut 46 = .ok (.invokevirtual 151, 3) := by decide +kernel
theorem dX5_cut_49 : decode cX5_cut 49 = .ok (.ifCond .ne 13, 3) := by decide +kernel
theorem dX5_cut_52 : decode cX5_cut 52 = .ok (.new 58, 3) := by decide +kernel
theorem dX5_cut_55 : decode cX5_cut 55 = .ok (.dup, 1) := by decide +kernel
theorem dX5_cut_56 : decode cX5_cut 56 = .ok (.ldc 164, 2) := by decide +kernel
theorem dX5_cut_58 : decode cX5_cut 58 = .ok (.invokespecial 62, 3) := by decide +kernel
theorem dX5_cut_61 : decode cX5_cut 61 = .ok (.athrow, 1) := by decide +kernel
theorem dX5_cut_62 : decode cX5_cut 62 = .ok (.aload_n 0, 1) := by decide +kernel
theorem dX5_cut_63 : decode cX5_cut 63 = .ok (.aload 4, 2) := by decide +kernel
theorem dX5_cut_65 : decode cX5_cut 65 = .ok (.aload 5, 2) := by decide +kernel
theorem dX5_cut_67 : decode cX5_cut 67 = .ok (.iload_n 3, 1) := by decide +kernel
theorem dX5_cut_68 : decode cX5_cut 68 = .ok (.invokevirtual 166, 3) := by decide +kernel
theorem dX5_cut_71 : decode cX5_cut 71 = .ok (.aload 4, 2) := by decide +kernel
theorem dX5_cut_73 : decode cX5_cut 73 = .ok (.getfield 159, 3) := by decide +kernel
theorem dX5_cut_76 : decode cX5_cut 76 = .ok (.ireturn, 1) := by decide +kernel
theorem dX5_join_0 : decode cX5_join 0 = .ok (.aload_n 0, 1) := by decide +kernel
theorem dX5_join_1 : decode cX5_join 1 = .ok (.iload_n 1, 1) := by decide +kernel
theorem dX5_join_2 : decode cX5_join 2 = .ok (.invokevirtual 146, 3) := by decide +kernel
theorem dX5_join_5 : decode cX5_join 5 = .ok (.astore 7, 2) := by decide +kernel
theorem dX5_join_7 : decode cX5_join 7 = .ok (.aload_n 0, 1) := by decide +kernel
theorem dX5_join_8 : decode cX5_join 8 = .ok (.iload_n 2, 1) := by decide +kernel
theorem dX5_join_9 : decode cX5_join 9 = .ok (.invokevirtual 72, 3) := by decide +kernel
theorem dX5_join_12 : decode cX5_join 12 = .ok (.astore 8, 2) := by decide +kernel
theorem dX5_join_14 : decode cX5_join 14 = .ok (.aload_n 0, 1) := by decide +kernel
theorem dX5_join_15 : decode cX5_join 15 = .ok (.iload 5, 2) := by decide +kernel
theorem dX5_join_17 : decode cX5_join 17 = .ok (.invokevirtual 72, 3) := by decide +kernel
theorem dX5_join_20 : decode cX5_join 20 = .ok (.astore 9, 2) := by decide +kernel
theorem dX5_join_22 : decode cX5_join 22 = .ok (.aload 7, 2) := by decide +kernel
theorem dX5_join_24 : decode cX5_join 24 = .ok (.getfield 150, 3) := by decide +kernel
theorem dX5_join_27 : decode cX5_join 27 = .ok (.aload_n 0, 1) := by decide +kernel
theorem dX5_join_28 : decode cX5_join 28 = .ok (.getfield 36, 3) := by decide +kernel
theorem dX5_join_31 : decode cX5_join 31 = .ok (.iadd, 1) := by decide +kernel
theorem dX5_join_32 : decode cX5_join 32 = .ok (.iload 4, 2) := by decide +kernel
theorem dX5_join_34 : decode cX5_join 34 = .ok (.isub, 1) := by decide +kernel
theorem dX5_join_35 : decode cX5_join 35 = .ok (.istore 10, 2) := by decide +kernel
theorem dX5_join_37 : decode cX5_join 37 = .ok (.iload 4, 2) := by decide +kernel
theorem dX5_join_39 : decode cX5_join 39 = .ok (.bipush 50, 2) := by decide +kernel
theorem dX5_join_41 : decode cX5_join 41 = .ok (.if_icmp .lt 10, 3) := by decide +kernel
theorem dX5_join_44 : decode cX5_join 44 = .ok (.iload 10, 2) := by decide +kernel
theorem dX5_join_46 : decode cX5_join 46 = .ok (.bipush 50, 2) := by decide +kernel
theorem dX5_join_48 : decode cX5_join 48 = .ok (.if_icmp .ge 13, 3) := by decide +kernel
theorem dX5_join_51 : decode cX5_join 51 = .ok (.new 47, 3) := by decide +kernel
theorem dX5_join_54 : decode cX5_join 54 = .ok (.dup, 1) := by decide +kernel
theorem dX5_join_55 : decode cX5_join 55 = .ok (.ldc 170, 2) := by decide +kernel
theorem dX5_join_57 : decode cX5_join 57 = .ok (.invokespecial 51, 3) := by decide +kernel
theorem dX5_join_60 : decode cX5_join 60 = .ok (.athrow, 1) := by decide +kernel
theorem dX5_join_61 : decode cX5_join 61 = .ok (.aload 7, 2) := by decide +kernel
theorem dX5_join_63 : decode cX5_join 63 = .ok (.getfield 159, 3) := by decide +kernel
theorem dX5_join_66 : decode cX5_join 66 = .ok (.ifCond .le 11, 3) := by decide +kernel
theorem dX5_join_69 : decode cX5_join 69 = .ok (.aload 7, 2) := by decide +kernel
theorem dX5_join_71 : decode cX5_join 71 = .ok (.getfield 172, 3) := by decide +kernel
theorem dX5_join_74 : decode cX5_join 74 = .ok (.ifCond .ne 13, 3) := by decide +kernel
theorem dX5_join_77 : decode cX5_join 77 = .ok (.new 58, 3) := by decide +kernel
theorem dX5_join_80 : decode cX5_join 80 = .ok (.dup, 1) := by decide +kernel
theorem dX5_join_81 : decode cX5_join 81 = .ok (.ldc 176, 2) := by decide +kernel
theorem dX5_join_83 : decode cX5_join 83 = .ok (.invokespecial 62, 3) := by decide +kernel
theorem dX5_join_86 : decode cX5_join 86 = .ok (.athrow, 1) := by decide +kernel
theorem dX5_join_87 : decode cX5_join 87 = .ok (.aload 8, 2) := by decide +kernel
theorem dX5_join_89 : decode cX5_join 89 = .ok (.aload 7, 2) := by decide +kernel
theorem dX5_join_91 : decode cX5_join 91 = .ok (.iload_n 3, 1) := by decide +kernel
theorem dX5_join_92 : decode cX5_join 92 = .ok (.iload 4, 2) := by decide +kernel
theorem dX5_join_94 : decode cX5_join 94 = .ok (.aload_n 0, 1) := by decide +kernel
theorem dX5_join_95 : decode cX5_join 95 = .ok (.getfield 33, 3) := by decide +kernel
theorem dX5_join_98 : decode cX5_join 98 = .ok (.invokevirtual 151, 3) := by decide +kernel
theorem dX5_join_101 : decode cX5_join 101 = .ok (.ifCond .eq 21, 3) := by decide +kernel
theorem dX5_join_104 : decode cX5_join 104 = .ok (.aload 9, 2) := by decide +kernel
theorem dX5_join_106 : decode cX5_join 106 = .ok (.aload 7, 2) := by decide +kernel
theorem dX5_join_108 : decode cX5_join 108 = .ok (.iload 6, 2) := by decide +kernel
theorem dX5_join_110 : decode cX5_join 110 = .ok (.iload 10, 2) := by decide +kernel
theorem dX5_join_112 : decode cX5_join 112 = .ok (.aload_n 0, 1) := by decide +kernel
theorem dX5_join_113 : decode cX5_join 113 = .ok (.getfield 33, 3) := by decide +kernel
theorem dX5_join_116 : decode cX5_join 116 = .ok (.invokevirtual 151, 3) := by decide +kernel
theorem dX5_join_119 : decode cX5_join 119 = .ok (.ifCond .ne 13, 3) := by decide +kernel
theorem dX5_join_122 : decode cX5_join 122 = .ok (.new 58, 3) := by decide +kernel
theorem dX5_join_125 : decode cX5_join 125 = .ok (.dup, 1) := by decide +kernel
theorem dX5_join_126 : decode cX5_join 126 = .ok (.ldc 178, 2) := by decide +kernel
theorem dX5_join_128 : decode cX5_join 128 = .ok (.invokespecial 62, 3) := by decide +kernel
theorem dX5_join_131 : decode cX5_join 131 = .ok (.athrow, 1) := by decide +kernel
theorem dX5_join_132 : decode cX5_join 132 = .ok (.new 180, 3) := by decide +kernel
theorem dX5_join_135 : decode cX5_join 135 = .ok (.dup, 1) := by decide +kernel
theorem dX5_join_136 : decode cX5_join 136 = .ok (.aload 7, 2) := by decide +kernel
theorem dX5_join_138 : decode cX5_join 138 = .ok (.aload 8, 2) := by decide +kernel
theorem dX5_join_140 : decode cX5_join 140 = .ok (.iload_n 3, 1) := by decide +kernel
theorem dX5_join_141 : decode cX5_join 141 = .ok (.iload_n 3, 1) := by decide +kernel
theorem dX5_join_142 : decode cX5_join 142 = .ok (.iload 4, 2) := by decide +kernel
theorem dX5_join_144 : decode cX5_join 144 = .ok (.iadd, 1) := by decide +kernel
theorem dX5_join_145 : decode cX5_join 145 = .ok (.iconst 1, 1) := by decide +kernel
theorem dX5_join_146 : decode cX5_join 146 = .ok (.invokespecial 182, 3) := by decide +kernel
theorem dX5_join_149 : decode cX5_join 149 = .ok (.astore 11, 2) := by decide +kernel
theorem dX5_join_151 : decode cX5_join 151 = .ok (.new 180, 3) := by decide +kernel
theorem dX5_join_154 : decode cX5_join 154 = .ok (.dup, 1) := by decide +kernel
theorem dX5_join_155 : decode cX5_join 155 = .ok (.aload 7, 2) := by decide +kernel
theorem dX5_join_157 : decode cX5_join 157 = .ok (.aload 9, 2) := by decide +kernel
theorem dX5_join_159 : decode cX5_join 159 = .ok (.iload 6, 2) := by decide +kernel
theorem dX5_join_161 : decode cX5_join 161 = .ok (.iload 6, 2) := by decide +kernel
theorem dX5_join_163 : decode cX5_join 163 = .ok (.iload 10, 2) := by decide +kernel
theorem dX5_join_165 : decode cX5_join 165 = .ok (.iadd, 1) := by decide +kernel
theorem dX5_join_166 : decode cX5_join 166 = .ok (.iconst 1, 1) := by decide +kernel
theorem dX5_join_167 : decode cX5_join 167 = .ok (.invokespecial 182, 3) := by decide +kernel
theorem dX5_join_170 : decode cX5_join 170 = .ok (.astore 12, 2) := by decide +kernel
theorem dX5_join_172 : decode cX5_join 172 = .ok (.aload 8, 2) := by decide +kernel
theorem dX5_join_174 : decode cX5_join 174 = .ok (.aload 9, 2) := by decide +kernel
theorem dX5_join_176 : decode cX5_join 176 = .ok (.if_acmp .ne 35, 3) := by decide +kernel
theorem dX5_join_179 : decode cX5_join 179 = .ok (.aload 11, 2) := by decide +kernel
theorem dX5_join_181 : decode cX5_join 181 = .ok (.aload 12, 2) := by decide +kernel
theorem dX5_join_183 : decode cX5_join 183 = .ok (.getfield 185, 3) := by decide +kernel
theorem dX5_join_186 : decode cX5_join 186 = .ok (.aload 12, 2) := by decide +kernel
theorem dX5_join_188 : decode cX5_join 188 = .ok (.getfield 188, 3) := by decide +kernel
theorem dX5_join_191 : decode cX5_join 191 = .ok (.aload_n 0, 1) := by decide +kernel
theorem dX5_join_192 : decode cX5_join 192 = .ok (.getfield 33, 3) := by decide +kernel
theorem dX5_join_195 : decode cX5_join 195 = .ok (.invokevirtual 191, 3) := by decide +kernel
theorem dX5_join_198 : decode cX5_join 198 = .ok (.ifCond .ne 13, 3) := by decide +kernel
theorem dX5_join_201 : decode cX5_join 201 = .ok (.new 58, 3) := by decide +kernel
theorem dX5_join_204 : decode cX5_join 204 = .ok (.dup, 1) := by decide +kernel
theorem dX5_join_205 : decode cX5_join 205 = .ok (.ldc 194, 2) := by decide +kernel
theorem dX5_join_207 : decode cX5_join 207 = .ok (.invokespecial 62, 3) := by decide +kernel
theorem dX5_join_210 : decode cX5_join 210 = .ok (.athrow, 1) := by decide +kernel
theorem dX5_join_211 : decode cX5_join 211 = .ok (.aload_n 0, 1) := by decide +kernel
theorem dX5_join_212 : decode cX5_join 212 = .ok (.new 196, 3) := by decide +kernel
theorem dX5_join_215 : decode cX5_join 215 = .ok (.dup, 1) := by decide +kernel
theorem dX5_join_216 : decode cX5_join 216 = .ok (.aload 7, 2) := by decide +kernel
theorem dX5_join_218 : decode cX5_join 218 = .ok (.aload 11, 2) := by decide +kernel
theorem dX5_join_220 : decode cX5_join 220 = .ok (.aload 12, 2) := by decide +kernel
theorem dX5_join_222 : decode cX5_join 222 = .ok (.invokespecial 198, 3) := by decide +kernel
theorem dX5_join_225 : decode cX5_join 225 = .ok (.invokevirtual 201, 3) := by decide +kernel
theorem dX5_join_228 : decode cX5_join 228 = .ok (.aload 7, 2) := by decide +kernel
theorem dX5_join_230 : decode cX5_join 230 = .ok (.getfield 159, 3) := by decide +kernel
theorem dX5_join_233 : decode cX5_join 233 = .ok (.ireturn, 1) := by decide +kernel
theorem dX5_undo_0 : decode cX5_undo 0 = .ok (.aload_n 0, 1) := by decide +kernel
theorem dX5_undo_1 : decode cX5_undo 1 = .ok (.getfield 22, 3) := by decide +kernel
theorem dX5_undo_4 : decode cX5_undo 4 = .ok (.invokevirtual 113, 3) := by decide +kernel
theorem dX5_undo_7 : decode cX5_undo 7 = .ok (.ifCond .eq 13, 3) := by decide +kernel
theorem dX5_undo_10 : decode cX5_undo 10 = .ok (.new 58, 3) := by decide +kernel
theorem dX5_undo_13 : decode cX5_undo 13 = .ok (.dup, 1) := by decide +kernel
theorem dX5_undo_14 : decode cX5_undo 14 = .ok (.ldc 205, 2) := by decide +kernel
theorem dX5_undo_16 : decode cX5_undo 16 = .ok (.invokespecial 62, 3) := by decide +kernel
theorem dX5_undo_19 : decode cX5_undo 19 = .ok (.athrow, 1) := by decide +kernel
theorem dX5_undo_20 : decode cX5_undo 20 = .ok (.aload_n 0, 1) := by decide +kernel
theorem dX5_undo_21 : decode cX5_undo 21 = .ok (.getfield 22, 3) := by decide +kernel
theorem dX5_undo_24 : decode cX5_undo 24 = .ok (.aload_n 0, 1) := by decide +kernel
theorem dX5_undo_25 : decode cX5_undo 25 = .ok (.getfield 22, 3) := by decide +kernel
theorem dX5_undo_28 : decode cX5_undo 28 = .ok (.invokevirtual 54, 3) := by decide +kernel
theorem dX5_undo_31 : decode cX5_undo 31 = .ok (.iconst 1, 1) := by decide +kernel
theorem dX5_undo_32 : decode cX5_undo 32 = .ok (.isub, 1) := by decide +kernel
theorem dX5_undo_33 : decode cX5_undo 33 = .ok (.invokevirtual 207, 3) := by decide +kernel
theorem dX5_undo_36 : decode cX5_undo 36 = .ok (.checkcast 196, 3) := by decide +kernel
theorem dX5_undo_39 : decode cX5_undo 39 = .ok (.astore_n 1, 1) := by decide +kernel
theorem dX5_undo_40 : decode cX5_undo 40 = .ok (.aload_n 1, 1) := by decide +kernel
theorem dX5_undo_41 : decode cX5_undo 41 = .ok (.getfield 211, 3) := by decide +kernel
theorem dX5_undo_44 : decode cX5_undo 44 = .ok (.getfield 215, 3) := by decide +kernel
theorem dX5_undo_47 : decode cX5_undo 47 = .ok (.aload_n 1, 1) := by decide +kernel
theorem dX5_undo_48 : decode cX5_undo 48 = .ok (.getfield 211, 3) := by decide +kernel
theorem dX5_undo_51 : decode cX5_undo 51 = .ok (.invokevirtual 219, 3) := by decide +kernel
theorem dX5_undo_54 : decode cX5_undo 54 = .ok (.aload_n 1, 1) := by decide +kernel
theorem dX5_undo_55 : decode cX5_undo 55 = .ok (.getfield 223, 3) := by decide +kernel
theorem dX5_undo_58 : decode cX5_undo 58 = .ok (.ifnull 17, 3) := by decide +kernel
theorem dX5_undo_61 : decode cX5_undo 61 = .ok (.aload_n 1, 1) := by decide +kernel
theorem dX5_undo_62 : decode cX5_undo 62 = .ok (.getfield 223, 3) := by decide +kernel
theorem dX5_undo_65 : decode cX5_undo 65 = .ok (.getfield 215, 3) := by decide +kernel
theorem dX5_undo_68 : decode cX5_undo 68 = .ok (.aload_n 1, 1) := by decide +kernel
theorem dX5_undo_69 : decode cX5_undo 69 = .ok (.getfield 223, 3) := by decide +kernel
theorem dX5_undo_72 : decode cX5_undo 72 = .ok (.invokevirtual 219, 3) := by decide +kernel
theorem dX5_undo_75 : decode cX5_undo 75 = .ok (.aload_n 1, 1) := by decide +kernel
theorem dX5_undo_76 : decode cX5_undo 76 = .ok (.getfield 226, 3) := by decide +kernel
theorem dX5_undo_79 : decode cX5_undo 79 = .ok (.dup, 1) := by decide +kernel
theorem dX5_undo_80 : decode cX5_undo 80 = .ok (.getfield 159, 3) := by decide +kernel
theorem dX5_undo_83 : decode cX5_undo 83 = .ok (.iconst 1, 1) := by decide +kernel
theorem dX5_undo_84 : decode cX5_undo 84 = .ok (.iadd, 1) := by decide +kernel
theorem dX5_undo_85 : decode cX5_undo 85 = .ok (.putfield 159, 3) := by decide +kernel
theorem dX5_undo_88 : decode cX5_undo 88 = .ok (.aload_n 1, 1) := by decide +kernel
theorem dX5_undo_89 : decode cX5_undo 89 = .ok (.getfield 226, 3) := by decide +kernel
theorem dX5_undo_92 : decode cX5_undo 92 = .ok (.getfield 108, 3) := by decide +kernel
theorem dX5_undo_95 : decode cX5_undo 95 = .ok (.ireturn, 1) := by decide +kernel
theorem dX5_plan_0 : decode cX5_plan 0 = .ok (.iconst 0, 1) := by decide +kernel
theorem dX5_plan_1 : decode cX5_plan 1 = .ok (.istore_n 1, 1) := by decide +kernel
theorem dX5_plan_2 : decode cX5_plan 2 = .ok (.iconst 0, 1) := by decide +kernel
theorem dX5_plan_3 : decode cX5_plan 3 = .ok (.istore_n 2, 1) := by decide +kernel
theorem dX5_plan_4 : decode cX5_plan 4 = .ok (.iload_n 2, 1) := by decide +kernel
theorem dX5_plan_5 : decode cX5_plan 5 = .ok (.aload_n 0, 1) := by decide +kernel
theorem dX5_plan_6 : decode cX5_plan 6 = .ok (.getfield 19, 3) := by decide +kernel
theorem dX5_plan_9 : decode cX5_plan 9 = .ok (.invokevirtual 54, 3) := by decide +kernel
theorem dX5_plan_12 : decode cX5_plan 12 = .ok (.if_icmp .ge 27, 3) := by decide +kernel
theorem dX5_plan_15 : decode cX5_plan 15 = .ok (.iload_n 1, 1) := by decide +kernel
theorem dX5_plan_16 : decode cX5_plan 16 = .ok (.aload_n 0, 1) := by decide +kernel
theorem dX5_plan_17 : decode cX5_plan 17 = .ok (.aload_n 0, 1) := by decide +kernel
theorem dX5_plan_18 : decode cX5_plan 18 = .ok (.getfield 19, 3) := by decide +kernel
theorem dX5_plan_21 : decode cX5_plan 21 = .ok (.iload_n 2, 1) := by decide +kernel
theorem dX5_plan_22 : decode cX5_plan 22 = .ok (.invokevirtual 230, 3) := by decide +kernel
theorem dX5_plan_25 : decode cX5_plan 25 = .ok (.checkcast 99, 3) := by decide +kernel
theorem dX5_plan_28 : decode cX5_plan 28 = .ok (.invokevirtual 233, 3) := by decide +kernel
theorem dX5_plan_31 : decode cX5_plan 31 = .ok (.iadd, 1) := by decide +kernel
theorem dX5_plan_32 : decode cX5_plan 32 = .ok (.istore_n 1, 1) := by decide +kernel
theorem dX5_plan_33 : decode cX5_plan 33 = .ok (.iinc 2 1, 3) := by decide +kernel
theorem dX5_plan_36 : decode cX5_plan 36 = .ok (.goto (-32), 3) := by decide +kernel
theorem dX5_plan_39 : decode cX5_plan 39 = .ok (.iload_n 1, 1) := by decide +kernel
theorem dX5_plan_40 : decode cX5_plan 40 = .ok (.ireturn, 1) := by decide +kernel
theorem dX5_left_0 : decode cX5_left 0 = .ok (.aload_n 0, 1) := by decide +kernel
theorem dX5_left_1 : decode cX5_left 1 = .ok (.iload_n 1, 1) := by decide +kernel
theorem dX5_left_2 : decode cX5_left 2 = .ok (.invokevirtual 146, 3) := by decide +kernel
theorem dX5_left_5 : decode cX5_left 5 = .ok (.getfield 159, 3) := by decide +kernel
theorem dX5_left_8 : decode cX5_left 8 = .ok (.ireturn, 1) := by decide +kernel
theorem dX5_pieces_0 : decode cX5_pieces 0 = .ok (.aload_n 0, 1) := by decide +kernel
theorem dX5_pieces_1 : decode cX5_pieces 1 = .ok (.iload_n 1, 1) := by decide +kernel
theorem dX5_pieces_2 : decode cX5_pieces 2 = .ok (.invokevirtual 72, 3) := by decide +kernel
theorem dX5_pieces_5 : decode cX5_pieces 5 = .ok (.getfield 237, 3) := by decide +kernel
theorem dX5_pieces_8 : decode cX5_pieces 8 = .ok (.invokevirtual 54, 3) := by decide +kernel
theorem dX5_pieces_11 : decode cX5_pieces 11 = .ok (.ireturn, 1) := by decide +kernel
theorem dX5_piece_0 : decode cX5_piece 0 = .ok (.aload_n 0, 1) := by decide +kernel
theorem dX5_piece_1 : decode cX5_piece 1 = .ok (.iload_n 1, 1) := by decide +kernel
theorem dX5_piece_2 : decode cX5_piece 2 = .ok (.invokevirtual 72, 3) := by decide +kernel
theorem dX5_piece_5 : decode cX5_piece 5 = .ok (.getfield 237, 3) := by decide +kernel
theorem dX5_piece_8 : decode cX5_piece 8 = .ok (.astore 4, 2) := by decide +kernel
theorem dX5_piece_10 : decode cX5_piece 10 = .ok (.iload_n 2, 1) := by decide +kernel
theorem dX5_piece_11 : decode cX5_piece 11 = .ok (.ifCond .lt 12, 3) := by decide +kernel
theorem dX5_piece_14 : decode cX5_piece 14 = .ok (.iload_n 2, 1) := by decide +kernel
theorem dX5_piece_15 : decode cX5_piece 15 = .ok (.aload 4, 2) := by decide +kernel
theorem dX5_piece_17 : decode cX5_piece 17 = .ok (.invokevirtual 54, 3) := by decide +kernel
theorem dX5_piece_20 : decode cX5_piece 20 = .ok (.if_icmp .lt 13, 3) := by decide +kernel
theorem dX5_piece_23 : decode cX5_piece 23 = .ok (.new 121, 3) := by decide +kernel
theorem dX5_piece_26 : decode cX5_piece 26 = .ok (.dup, 1) := by decide +kernel
theorem dX5_piece_27 : decode cX5_piece 27 = .ok (.ldc 240, 2) := by decide +kernel
theorem dX5_piece_29 : decode cX5_piece 29 = .ok (.invokespecial 125, 3) := by decide +kernel
theorem dX5_piece_32 : decode cX5_piece 32 = .ok (.athrow, 1) := by decide +kernel
theorem dX5_piece_33 : decode cX5_piece 33 = .ok (.iload_n 3, 1) := by decide +kernel
theorem dX5_piece_34 : decode cX5_piece 34 = .ok (.iconst 0, 1) := by decide +kernel
theorem dX5_piece_35 : decode cX5_piece 35 = .ok (.iconst 3, 1) := by decide +kernel
theorem dX5_piece_36 : decode cX5_piece 36 = .ok (.invokestatic 39, 3) := by decide +kernel
theorem dX5_piece_39 : decode cX5_piece 39 = .ok (.ifCond .ne 13, 3) := by decide +kernel
theorem dX5_piece_42 : decode cX5_piece 42 = .ok (.new 121, 3) := by decide +kernel
theorem dX5_piece_45 : decode cX5_piece 45 = .ok (.dup, 1) := by decide +kernel
theorem dX5_piece_46 : decode cX5_piece 46 = .ok (.ldc 242, 2) := by decide +kernel
theorem dX5_piece_48 : decode cX5_piece 48 = .ok (.invokespecial 125, 3) := by decide +kernel
theorem dX5_piece_51 : decode cX5_piece 51 = .ok (.athrow, 1) := by decide +kernel
theorem dX5_piece_52 : decode cX5_piece 52 = .ok (.aload 4, 2) := by decide +kernel
theorem dX5_piece_54 : decode cX5_piece 54 = .ok (.iload_n 2, 1) := by decide +kernel
theorem dX5_piece_55 : decode cX5_piece 55 = .ok (.invokevirtual 230, 3) := by decide +kernel
theorem dX5_piece_58 : decode cX5_piece 58 = .ok (.checkcast 180, 3) := by decide +kernel
theorem dX5_piece_61 : decode cX5_piece 61 = .ok (.iload_n 3, 1) := by decide +kernel
theorem dX5_piece_62 : decode cX5_piece 62 = .ok (.invokevirtual 244, 3) := by decide +kernel
theorem dX5_piece_65 : decode cX5_piece 65 = .ok (.ireturn, 1) := by decide +kernel
theorem dX5_cuts_0 : decode cX5_cuts 0 = .ok (.aload_n 0, 1) := by decide +kernel
theorem dX5_cuts_1 : decode cX5_cuts 1 = .ok (.iload_n 1, 1) := by decide +kernel
theorem dX5_cuts_2 : decode cX5_cuts 2 = .ok (.invokevirtual 72, 3) := by decide +kernel
theorem dX5_cuts_5 : decode cX5_cuts 5 = .ok (.aload_n 0, 1) := by decide +kernel
theorem dX5_cuts_6 : decode cX5_cuts 6 = .ok (.getfield 33, 3) := by decide +kernel
theorem dX5_cuts_9 : decode cX5_cuts 9 = .ok (.invokevirtual 247, 3) := by decide +kernel
theorem dX5_cuts_12 : decode cX5_cuts 12 = .ok (.ireturn, 1) := by decide +kernel
theorem dX5_longestRoom_0 : decode cX5_longestRoom 0 = .ok (.aload_n 0, 1) := by decide +kernel
theorem dX5_longestRoom_1 : decode cX5_longestRoom 1 = .ok (.iload_n 1, 1) := by decide +kernel
theorem dX5_longestRoom_2 : decode cX5_longestRoom 2 = .ok (.invokevirtual 72, 3) := by decide +kernel
theorem dX5_longestRoom_5 : decode cX5_longestRoom 5 = .ok (.aload_n 0, 1) := by decide +kernel
theorem dX5_longestRoom_6 : decode cX5_longestRoom 6 = .ok (.getfield 33, 3) := by decide +kernel
theorem dX5_longestRoom_9 : decode cX5_longestRoom 9 = .ok (.invokevirtual 250, 3) := by decide +kernel
theorem dX5_longestRoom_12 : decode cX5_longestRoom 12 = .ok (.ireturn, 1) := by decide +kernel
theorem dX5_bestUse_0 : decode cX5_bestUse 0 = .ok (.aload_n 0, 1) := by decide +kernel
theorem dX5_bestUse_1 : decode cX5_bestUse 1 = .ok (.iload_n 1, 1) := by decide +kernel
theorem dX5_bestUse_2 : decode cX5_bestUse 2 = .ok (.invokevirtual 72, 3) := by decide +kernel
theorem dX5_bestUse_5 : decode cX5_bestUse 5 = .ok (.astore 4, 2) := by decide +kernel
theorem dX5_bestUse_7 : decode cX5_bestUse 7 = .ok (.iload_n 2, 1) := by decide +kernel
theorem dX5_bestUse_8 : decode cX5_bestUse 8 = .ok (.invokestatic 130, 3) := by decide +kernel
theorem dX5_bestUse_11 : decode cX5_bestUse 11 = .ok (.iload_n 3, 1) := by decide +kernel
theorem dX5_bestUse_12 : decode cX5_bestUse 12 = .ok (.iconst 0, 1) := by decide +kernel
theorem dX5_bestUse_13 : decode cX5_bestUse 13 = .ok (.sipush 3000, 3) := by decide +kernel
theorem dX5_bestUse_16 : decode cX5_bestUse 16 = .ok (.invokestatic 39, 3) := by decide +kernel
theorem dX5_bestUse_19 : decode cX5_bestUse 19 = .ok (.ifCond .ne 13, 3) := by decide +kernel
theorem dX5_bestUse_22 : decode cX5_bestUse 22 = .ok (.new 47, 3) := by decide +kernel
theorem dX5_bestUse_25 : decode cX5_bestUse 25 = .ok (.dup, 1) := by decide +kernel
theorem dX5_bestUse_26 : decode cX5_bestUse 26 = .ok (.ldc 253, 2) := by decide +kernel
theorem dX5_bestUse_28 : decode cX5_bestUse 28 = .ok (.invokespecial 51, 3) := by decide +kernel
theorem dX5_bestUse_31 : decode cX5_bestUse 31 = .ok (.athrow, 1) := by decide +kernel
theorem dX5_bestUse_32 : decode cX5_bestUse 32 = .ok (.iload_n 3, 1) := by decide +kernel
theorem dX5_bestUse_33 : decode cX5_bestUse 33 = .ok (.aload_n 0, 1) := by decide +kernel
theorem dX5_bestUse_34 : decode cX5_bestUse 34 = .ok (.getfield 33, 3) := by decide +kernel
theorem dX5_bestUse_37 : decode cX5_bestUse 37 = .ok (.iadd, 1) := by decide +kernel
theorem dX5_bestUse_38 : decode cX5_bestUse 38 = .ok (.aload_n 0, 1) := by decide +kernel
theorem dX5_bestUse_39 : decode cX5_bestUse 39 = .ok (.getfield 25, 3) := by decide +kernel
theorem dX5_bestUse_42 : decode cX5_bestUse 42 = .ok (.arraylength, 1) := by decide +kernel
theorem dX5_bestUse_43 : decode cX5_bestUse 43 = .ok (.iconst 1, 1) := by decide +kernel
theorem dX5_bestUse_44 : decode cX5_bestUse 44 = .ok (.isub, 1) := by decide +kernel
theorem dX5_bestUse_45 : decode cX5_bestUse 45 = .ok (.invokestatic 255, 3) := by decide +kernel
theorem dX5_bestUse_48 : decode cX5_bestUse 48 = .ok (.istore 5, 2) := by decide +kernel
theorem dX5_bestUse_50 : decode cX5_bestUse 50 = .ok (.aload_n 0, 1) := by decide +kernel
theorem dX5_bestUse_51 : decode cX5_bestUse 51 = .ok (.invokevirtual 260, 3) := by decide +kernel
theorem dX5_bestUse_54 : decode cX5_bestUse 54 = .ok (.iconst 0, 1) := by decide +kernel
theorem dX5_bestUse_55 : decode cX5_bestUse 55 = .ok (.istore 6, 2) := by decide +kernel
theorem dX5_bestUse_57 : decode cX5_bestUse 57 = .ok (.iload 6, 2) := by decide +kernel
theorem dX5_bestUse_59 : decode cX5_bestUse 59 = .ok (.aload_n 0, 1) := by decide +kernel
theorem dX5_bestUse_60 : decode cX5_bestUse 60 = .ok (.getfield 16, 3) := by decide +kernel
theorem dX5_bestUse_63 : decode cX5_bestUse 63 = .ok (.invokevirtual 54, 3) := by decide +kernel
theorem dX5_bestUse_66 : decode cX5_bestUse 66 = .ok (.if_icmp .ge 53, 3) := by decide +kernel
theorem dX5_bestUse_69 : decode cX5_bestUse 69 = .ok (.aload_n 0, 1) := by decide +kernel
theorem dX5_bestUse_70 : decode cX5_bestUse 70 = .ok (.getfield 16, 3) := by decide +kernel
theorem dX5_bestUse_73 : decode cX5_bestUse 73 = .ok (.iload 6, 2) := by decide +kernel
theorem dX5_bestUse_75 : decode cX5_bestUse 75 = .ok (.invokevirtual 230, 3) := by decide +kernel
theorem dX5_bestUse_78 : decode cX5_bestUse 78 = .ok (.checkcast 99, 3) := by decide +kernel
theorem dX5_bestUse_81 : decode cX5_bestUse 81 = .ok (.astore 7, 2) := by decide +kernel
theorem dX5_bestUse_83 : decode cX5_bestUse 83 = .ok (.aload 7, 2) := by decide +kernel
theorem dX5_bestUse_85 : decode cX5_bestUse 85 = .ok (.getfield 263, 3) := by decide +kernel
theorem dX5_bestUse_88 : decode cX5_bestUse 88 = .ok (.aload 4, 2) := by decide +kernel
theorem dX5_bestUse_90 : decode cX5_bestUse 90 = .ok (.getfield 266, 3) := by decide +kernel
theorem dX5_bestUse_93 : decode cX5_bestUse 93 = .ok (.if_icmp .gt 20, 3) := by decide +kernel
theorem dX5_bestUse_96 : decode cX5_bestUse 96 = .ok (.aload 7, 2) := by decide +kernel
theorem dX5_bestUse_98 : decode cX5_bestUse 98 = .ok (.getfield 267, 3) := by decide +kernel
theorem dX5_bestUse_101 : decode cX5_bestUse 101 = .ok (.iload_n 2, 1) := by decide +kernel
theorem dX5_bestUse_102 : decode cX5_bestUse 102 = .ok (.if_icmp .lt 11, 3) := by decide +kernel
theorem dX5_bestUse_105 : decode cX5_bestUse 105 = .ok (.aload_n 0, 1) := by decide +kernel
theorem dX5_bestUse_106 : decode cX5_bestUse 106 = .ok (.aload 7, 2) := by decide +kernel
theorem dX5_bestUse_108 : decode cX5_bestUse 108 = .ok (.iload 5, 2) := by decide +kernel
theorem dX5_bestUse_110 : decode cX5_bestUse 110 = .ok (.invokevirtual 270, 3) := by decide +kernel
theorem dX5_bestUse_113 : decode cX5_bestUse 113 = .ok (.iinc 6 1, 3) := by decide +kernel
theorem dX5_bestUse_116 : decode cX5_bestUse 116 = .ok (.goto (-59), 3) := by decide +kernel
theorem dX5_bestUse_119 : decode cX5_bestUse 119 = .ok (.aload_n 0, 1) := by decide +kernel
theorem dX5_bestUse_120 : decode cX5_bestUse 120 = .ok (.getfield 25, 3) := by decide +kernel
theorem dX5_bestUse_123 : decode cX5_bestUse 123 = .ok (.iload 5, 2) := by decide +kernel
theorem dX5_bestUse_125 : decode cX5_bestUse 125 = .ok (.iaload, 1) := by decide +kernel
theorem dX5_bestUse_126 : decode cX5_bestUse 126 = .ok (.ireturn, 1) := by decide +kernel
theorem dX5_used_0 : decode cX5_used 0 = .ok (.iconst 0, 1) := by decide +kernel
theorem dX5_used_1 : decode cX5_used 1 = .ok (.istore_n 1, 1) := by decide +kernel
theorem dX5_used_2 : decode cX5_used 2 = .ok (.iconst 0, 1) := by decide +kernel
theorem dX5_used_3 : decode cX5_used 3 = .ok (.istore_n 2, 1) := by decide +kernel
theorem dX5_used_4 : decode cX5_used 4 = .ok (.iconst 0, 1) := by decide +kernel
theorem dX5_used_5 : decode cX5_used 5 = .ok (.istore_n 3, 1) := by decide +kernel
theorem dX5_used_6 : decode cX5_used 6 = .ok (.iload_n 3, 1) := by decide +kernel
theorem dX5_used_7 : decode cX5_used 7 = .ok (.aload_n 0, 1) := by decide +kernel
theorem dX5_used_8 : decode cX5_used 8 = .ok (.getfield 10, 3) := by decide +kernel
theorem dX5_used_11 : decode cX5_used 11 = .ok (.invokevirtual 54, 3) := by decide +kernel
theorem dX5_used_14 : decode cX5_used 14 = .ok (.if_icmp .ge 55, 3) := by decide +kernel
theorem dX5_used_17 : decode cX5_used 17 = .ok (.aload_n 0, 1) := by decide +kernel
theorem dX5_used_18 : decode cX5_used 18 = .ok (.getfield 10, 3) := by decide +kernel
theorem dX5_used_21 : decode cX5_used 21 = .ok (.iload_n 3, 1) := by decide +kernel
theorem dX5_used_22 : decode cX5_used 22 = .ok (.invokevirtual 230, 3) := by decide +kernel
theorem dX5_used_25 : decode cX5_used 25 = .ok (.checkcast 63, 3) := by decide +kernel
theorem dX5_used_28 : decode cX5_used 28 = .ok (.astore 4, 2) := by decide +kernel
theorem dX5_used_30 : decode cX5_used 30 = .ok (.aload 4, 2) := by decide +kernel
theorem dX5_used_32 : decode cX5_used 32 = .ok (.getfield 237, 3) := by decide +kernel
theorem dX5_used_35 : decode cX5_used 35 = .ok (.invokevirtual 113, 3) := by decide +kernel
theorem dX5_used_38 : decode cX5_used 38 = .ok (.ifCond .ne 25, 3) := by decide +kernel
theorem dX5_used_41 : decode cX5_used 41 = .ok (.iload_n 1, 1) := by decide +kernel
theorem dX5_used_42 : decode cX5_used 42 = .ok (.aload 4, 2) := by decide +kernel
theorem dX5_used_44 : decode cX5_used 44 = .ok (.invokevirtual 274, 3) := by decide +kernel
theorem dX5_used_47 : decode cX5_used 47 = .ok (.iadd, 1) := by decide +kernel
theorem dX5_used_48 : decode cX5_used 48 = .ok (.istore_n 1, 1) := by decide +kernel
theorem dX5_used_49 : decode cX5_used 49 = .ok (.iload_n 2, 1) := by decide +kernel
theorem dX5_used_50 : decode cX5_used 50 = .ok (.aload 4, 2) := by decide +kernel
theorem dX5_used_52 : decode cX5_used 52 = .ok (.getfield 76, 3) := by decide +kernel
theorem dX5_used_55 : decode cX5_used 55 = .ok (.aload 4, 2) := by decide +kernel
theorem dX5_used_57 : decode cX5_used 57 = .ok (.getfield 266, 3) := by decide +kernel
theorem dX5_used_60 : decode cX5_used 60 = .ok (.imul, 1) := by decide +kernel
theorem dX5_used_61 : decode cX5_used 61 = .ok (.iadd, 1) := by decide +kernel
theorem dX5_used_62 : decode cX5_used 62 = .ok (.istore_n 2, 1) := by decide +kernel
theorem dX5_used_63 : decode cX5_used 63 = .ok (.iinc 3 1, 3) := by decide +kernel
theorem dX5_used_66 : decode cX5_used 66 = .ok (.goto (-60), 3) := by decide +kernel
theorem dX5_used_69 : decode cX5_used 69 = .ok (.iload_n 2, 1) := by decide +kernel
theorem dX5_used_70 : decode cX5_used 70 = .ok (.ifCond .ne 7, 3) := by decide +kernel
theorem dX5_used_73 : decode cX5_used 73 = .ok (.dconst 0, 1) := by decide +kernel
theorem dX5_used_74 : decode cX5_used 74 = .ok (.goto 8, 3) := by decide +kernel
theorem dX5_used_77 : decode cX5_used 77 = .ok (.iload_n 1, 1) := by decide +kernel
theorem dX5_used_78 : decode cX5_used 78 = .ok (.i2d, 1) := by decide +kernel
theorem dX5_used_79 : decode cX5_used 79 = .ok (.iload_n 2, 1) := by decide +kernel
theorem dX5_used_80 : decode cX5_used 80 = .ok (.i2d, 1) := by decide +kernel
theorem dX5_used_81 : decode cX5_used 81 = .ok (.ddiv, 1) := by decide +kernel
theorem dX5_used_82 : decode cX5_used 82 = .ok (.dreturn, 1) := by decide +kernel
theorem dX5_digest_0 : decode cX5_digest 0 = .ok (.ldc2_w 277, 3) := by decide +kernel
theorem dX5_digest_3 : decode cX5_digest 3 = .ok (.lstore_n 1, 1) := by decide +kernel
theorem dX5_digest_4 : decode cX5_digest 4 = .ok (.lload_n 1, 1) := by decide +kernel
theorem dX5_digest_5 : decode cX5_digest 5 = .ok (.aload_n 0, 1) := by decide +kernel
theorem dX5_digest_6 : decode cX5_digest 6 = .ok (.getfield 33, 3) := by decide +kernel
theorem dX5_digest_9 : decode cX5_digest 9 = .ok (.i2l, 1) := by decide +kernel
theorem dX5_digest_10 : decode cX5_digest 10 = .ok (.invokestatic 279, 3) := by decide +kernel
theorem dX5_digest_13 : decode cX5_digest 13 = .ok (.lstore_n 1, 1) := by decide +kernel
theorem dX5_digest_14 : decode cX5_digest 14 = .ok (.lload_n 1, 1) := by decide +kernel
theorem dX5_digest_15 : decode cX5_digest 15 = .ok (.aload_n 0, 1) := by decide +kernel
theorem dX5_digest_16 : decode cX5_digest 16 = .ok (.getfield 36, 3) := by decide +kernel
theorem dX5_digest_19 : decode cX5_digest 19 = .ok (.i2l, 1) := by decide +kernel
theorem dX5_digest_20 : decode cX5_digest 20 = .ok (.invokestatic 279, 3) := by decide +kernel
theorem dX5_digest_23 : decode cX5_digest 23 = .ok (.lstore_n 1, 1) := by decide +kernel
theorem dX5_digest_24 : decode cX5_digest 24 = .ok (.lload_n 1, 1) := by decide +kernel
theorem dX5_digest_25 : decode cX5_digest 25 = .ok (.aload_n 0, 1) := by decide +kernel
theorem dX5_digest_26 : decode cX5_digest 26 = .ok (.getfield 29, 3) := by decide +kernel
theorem dX5_digest_29 : decode cX5_digest 29 = .ok (.i2l, 1) := by decide +kernel
theorem dX5_digest_30 : decode cX5_digest 30 = .ok (.invokestatic 279, 3) := by decide +kernel
theorem dX5_digest_33 : decode cX5_digest 33 = .ok (.lstore_n 1, 1) := by decide +kernel
theorem dX5_digest_34 : decode cX5_digest 34 = .ok (.lload_n 1, 1) := by decide +kernel
theorem dX5_digest_35 : decode cX5_digest 35 = .ok (.aload_n 0, 1) := by decide +kernel
theorem dX5_digest_36 : decode cX5_digest 36 = .ok (.getfield 16, 3) := by decide +kernel
theorem dX5_digest_39 : decode cX5_digest 39 = .ok (.invokevirtual 54, 3) := by decide +kernel
theorem dX5_digest_42 : decode cX5_digest 42 = .ok (.i2l, 1) := by decide +kernel
theorem dX5_digest_43 : decode cX5_digest 43 = .ok (.invokestatic 279, 3) := by decide +kernel
theorem dX5_digest_46 : decode cX5_digest 46 = .ok (.lstore_n 1, 1) := by decide +kernel
theorem dX5_digest_47 : decode cX5_digest 47 = .ok (.iconst 0, 1) := by decide +kernel
theorem dX5_digest_48 : decode cX5_digest 48 = .ok (.istore_n 3, 1) := by decide +kernel
theorem dX5_digest_49 : decode cX5_digest 49 = .ok (.iload_n 3, 1) := by decide +kernel
theorem dX5_digest_50 : decode cX5_digest 50 = .ok (.aload_n 0, 1) := by decide +kernel
theorem dX5_digest_51 : decode cX5_digest 51 = .ok (.getfield 16, 3) := by decide +kernel
theorem dX5_digest_54 : decode cX5_digest 54 = .ok (.invokevirtual 54, 3) := by decide +kernel
theorem dX5_digest_57 : decode cX5_digest 57 = .ok (.if_icmp .ge 29, 3) := by decide +kernel
theorem dX5_digest_60 : decode cX5_digest 60 = .ok (.lload_n 1, 1) := by decide +kernel
theorem dX5_digest_61 : decode cX5_digest 61 = .ok (.aload_n 0, 1) := by decide +kernel
theorem dX5_digest_62 : decode cX5_digest 62 = .ok (.getfield 16, 3) := by decide +kernel
theorem dX5_digest_65 : decode cX5_digest 65 = .ok (.iload_n 3, 1) := by decide +kernel
theorem dX5_digest_66 : decode cX5_digest 66 = .ok (.invokevirtual 230, 3) := by decide +kernel
theorem dX5_digest_69 : decode cX5_digest 69 = .ok (.checkcast 99, 3) := by decide +kernel
theorem dX5_digest_72 : decode cX5_digest 72 = .ok (.getfield 159, 3) := by decide +kernel
theorem dX5_digest_75 : decode cX5_digest 75 = .ok (.i2l, 1) := by decide +kernel
theorem dX5_digest_76 : decode cX5_digest 76 = .ok (.invokestatic 279, 3) := by decide +kernel
theorem dX5_digest_79 : decode cX5_digest 79 = .ok (.lstore_n 1, 1) := by decide +kernel
theorem dX5_digest_80 : decode cX5_digest 80 = .ok (.iinc 3 1, 3) := by decide +kernel
theorem dX5_digest_83 : decode cX5_digest 83 = .ok (.goto (-34), 3) := by decide +kernel
theorem dX5_digest_86 : decode cX5_digest 86 = .ok (.lload_n 1, 1) := by decide +kernel
theorem dX5_digest_87 : decode cX5_digest 87 = .ok (.aload_n 0, 1) := by decide +kernel
theorem dX5_digest_88 : decode cX5_digest 88 = .ok (.getfield 10, 3) := by decide +kernel
theorem dX5_digest_91 : decode cX5_digest 91 = .ok (.invokevirtual 54, 3) := by decide +kernel
theorem dX5_digest_94 : decode cX5_digest 94 = .ok (.i2l, 1) := by decide +kernel
theorem dX5_digest_95 : decode cX5_digest 95 = .ok (.invokestatic 279, 3) := by decide +kernel
theorem dX5_digest_98 : decode cX5_digest 98 = .ok (.lstore_n 1, 1) := by decide +kernel
theorem dX5_digest_99 : decode cX5_digest 99 = .ok (.iconst 0, 1) := by decide +kernel
theorem dX5_digest_100 : decode cX5_digest 100 = .ok (.istore_n 3, 1) := by decide +kernel
theorem dX5_digest_101 : decode cX5_digest 101 = .ok (.iload_n 3, 1) := by decide +kernel
theorem dX5_digest_102 : decode cX5_digest 102 = .ok (.aload_n 0, 1) := by decide +kernel
theorem dX5_digest_103 : decode cX5_digest 103 = .ok (.getfield 10, 3) := by decide +kernel
theorem dX5_digest_106 : decode cX5_digest 106 = .ok (.invokevirtual 54, 3) := by decide +kernel
theorem dX5_digest_109 : decode cX5_digest 109 = .ok (.if_icmp .ge 28, 3) := by decide +kernel
theorem dX5_digest_112 : decode cX5_digest 112 = .ok (.lload_n 1, 1) := by decide +kernel
theorem dX5_digest_113 : decode cX5_digest 113 = .ok (.aload_n 0, 1) := by decide +kernel
theorem dX5_digest_114 : decode cX5_digest 114 = .ok (.getfield 10, 3) := by decide +kernel
theorem dX5_digest_117 : decode cX5_digest 117 = .ok (.iload_n 3, 1) := by decide +kernel
theorem dX5_digest_118 : decode cX5_digest 118 = .ok (.invokevirtual 230, 3) := by decide +kernel
theorem dX5_digest_121 : decode cX5_digest 121 = .ok (.checkcast 63, 3) := by decide +kernel
theorem dX5_digest_124 : decode cX5_digest 124 = .ok (.getfield 237, 3) := by decide +kernel
theorem dX5_digest_127 : decode cX5_digest 127 = .ok (.invokestatic 283, 3) := by decide +kernel
theorem dX5_digest_130 : decode cX5_digest 130 = .ok (.lstore_n 1, 1) := by decide +kernel
theorem dX5_digest_131 : decode cX5_digest 131 = .ok (.iinc 3 1, 3) := by decide +kernel
theorem dX5_digest_134 : decode cX5_digest 134 = .ok (.goto (-33), 3) := by decide +kernel
theorem dX5_digest_137 : decode cX5_digest 137 = .ok (.lload_n 1, 1) := by decide +kernel
theorem dX5_digest_138 : decode cX5_digest 138 = .ok (.lreturn, 1) := by decide +kernel
theorem dX5_isWithin_0 : decode cX5_isWithin 0 = .ok (.iload_n 0, 1) := by decide +kernel
theorem dX5_isWithin_1 : decode cX5_isWithin 1 = .ok (.iload_n 1, 1) := by decide +kernel
theorem dX5_isWithin_2 : decode cX5_isWithin 2 = .ok (.if_icmp .lt 12, 3) := by decide +kernel
theorem dX5_isWithin_5 : decode cX5_isWithin 5 = .ok (.iload_n 0, 1) := by decide +kernel
theorem dX5_isWithin_6 : decode cX5_isWithin 6 = .ok (.iload_n 2, 1) := by decide +kernel
theorem dX5_isWithin_7 : decode cX5_isWithin 7 = .ok (.if_icmp .gt 7, 3) := by decide +kernel
theorem dX5_isWithin_10 : decode cX5_isWithin 10 = .ok (.iconst 1, 1) := by decide +kernel
theorem dX5_isWithin_11 : decode cX5_isWithin 11 = .ok (.goto 4, 3) := by decide +kernel
theorem dX5_isWithin_14 : decode cX5_isWithin 14 = .ok (.iconst 0, 1) := by decide +kernel
theorem dX5_isWithin_15 : decode cX5_isWithin 15 = .ok (.ireturn, 1) := by decide +kernel
theorem dX5_isGrade_0 : decode cX5_isGrade 0 = .ok (.iload_n 0, 1) := by decide +kernel
theorem dX5_isGrade_1 : decode cX5_isGrade 1 = .ok (.iconst 0, 1) := by decide +kernel
theorem dX5_isGrade_2 : decode cX5_isGrade 2 = .ok (.iconst 3, 1) := by decide +kernel
theorem dX5_isGrade_3 : decode cX5_isGrade 3 = .ok (.invokestatic 39, 3) := by decide +kernel
theorem dX5_isGrade_6 : decode cX5_isGrade 6 = .ok (.ireturn, 1) := by decide +kernel
theorem dX5_checkGrade_0 : decode cX5_checkGrade 0 = .ok (.iload_n 0, 1) := by decide +kernel
theorem dX5_checkGrade_1 : decode cX5_checkGrade 1 = .ok (.invokestatic 43, 3) := by decide +kernel
theorem dX5_checkGrade_4 : decode cX5_checkGrade 4 = .ok (.ifCond .ne 14, 3) := by decide +kernel
theorem dX5_checkGrade_7 : decode cX5_checkGrade 7 = .ok (.new 47, 3) := by decide +kernel
theorem dX5_checkGrade_10 : decode cX5_checkGrade 10 = .ok (.dup, 1) := by decide +kernel
theorem dX5_checkGrade_11 : decode cX5_checkGrade 11 = .ok (.ldc_w 287, 3) := by decide +kernel
theorem dX5_checkGrade_14 : decode cX5_checkGrade 14 = .ok (.invokespecial 51, 3) := by decide +kernel
theorem dX5_checkGrade_17 : decode cX5_checkGrade 17 = .ok (.athrow, 1) := by decide +kernel
theorem dX5_checkGrade_18 : decode cX5_checkGrade 18 = .ok (.return_, 1) := by decide +kernel
theorem dX5_boardNumbered_0 : decode cX5_boardNumbered 0 = .ok (.iload_n 1, 1) := by decide +kernel
theorem dX5_boardNumbered_1 : decode cX5_boardNumbered 1 = .ok (.ifCond .lt 14, 3) := by decide +kernel
theorem dX5_boardNumbered_4 : decode cX5_boardNumbered 4 = .ok (.iload_n 1, 1) := by decide +kernel
theorem dX5_boardNumbered_5 : decode cX5_boardNumbered 5 = .ok (.aload_n 0, 1) := by decide +kernel
theorem dX5_boardNumbered_6 : decode cX5_boardNumbered 6 = .ok (.getfield 10, 3) := by decide +kernel
theorem dX5_boardNumbered_9 : decode cX5_boardNumbered 9 = .ok (.invokevirtual 54, 3) := by decide +kernel
theorem dX5_boardNumbered_12 : decode cX5_boardNumbered 12 = .ok (.if_icmp .lt 14, 3) := by decide +kernel
theorem dX5_boardNumbered_15 : decode cX5_boardNumbered 15 = .ok (.new 121, 3) := by decide +kernel
theorem dX5_boardNumbered_18 : decode cX5_boardNumbered 18 = .ok (.dup, 1) := by decide +kernel
theorem dX5_boardNumbered_19 : decode cX5_boardNumbered 19 = .ok (.ldc_w 289, 3) := by decide +kernel
theorem dX5_boardNumbered_22 : decode cX5_boardNumbered 22 = .ok (.invokespecial 125, 3) := by decide +kernel
theorem dX5_boardNumbered_25 : decode cX5_boardNumbered 25 = .ok (.athrow, 1) := by decide +kernel
theorem dX5_boardNumbered_26 : decode cX5_boardNumbered 26 = .ok (.aload_n 0, 1) := by decide +kernel
theorem dX5_boardNumbered_27 : decode cX5_boardNumbered 27 = .ok (.getfield 10, 3) := by decide +kernel
theorem dX5_boardNumbered_30 : decode cX5_boardNumbered 30 = .ok (.iload_n 1, 1) := by decide +kernel
theorem dX5_boardNumbered_31 : decode cX5_boardNumbered 31 = .ok (.invokevirtual 230, 3) := by decide +kernel
theorem dX5_boardNumbered_34 : decode cX5_boardNumbered 34 = .ok (.checkcast 63, 3) := by decide +kernel
theorem dX5_boardNumbered_37 : decode cX5_boardNumbered 37 = .ok (.areturn, 1) := by decide +kernel
theorem dX5_partNumbered_0 : decode cX5_partNumbered 0 = .ok (.iload_n 1, 1) := by decide +kernel
theorem dX5_partNumbered_1 : decode cX5_partNumbered 1 = .ok (.ifCond .lt 14, 3) := by decide +kernel
theorem dX5_partNumbered_4 : decode cX5_partNumbered 4 = .ok (.iload_n 1, 1) := by decide +kernel
theorem dX5_partNumbered_5 : decode cX5_partNumbered 5 = .ok (.aload_n 0, 1) := by decide +kernel
theorem dX5_partNumbered_6 : decode cX5_partNumbered 6 = .ok (.getfield 16, 3) := by decide +kernel
theorem dX5_partNumbered_9 : decode cX5_partNumbered 9 = .ok (.invokevirtual 54, 3) := by decide +kernel
theorem dX5_partNumbered_12 : decode cX5_partNumbered 12 = .ok (.if_icmp .lt 14, 3) := by decide +kernel
theorem dX5_partNumbered_15 : decode cX5_partNumbered 15 = .ok (.new 121, 3) := by decide +kernel
theorem dX5_partNumbered_18 : decode cX5_partNumbered 18 = .ok (.dup, 1) := by decide +kernel
theorem dX5_partNumbered_19 : decode cX5_partNumbered 19 = .ok (.ldc_w 291, 3) := by decide +kernel
theorem dX5_partNumbered_22 : decode cX5_partNumbered 22 = .ok (.invokespecial 125, 3) := by decide +kernel
theorem dX5_partNumbered_25 : decode cX5_partNumbered 25 = .ok (.athrow, 1) := by decide +kernel
theorem dX5_partNumbered_26 : decode cX5_partNumbered 26 = .ok (.aload_n 0, 1) := by decide +kernel
theorem dX5_partNumbered_27 : decode cX5_partNumbered 27 = .ok (.getfield 16, 3) := by decide +kernel
theorem dX5_partNumbered_30 : decode cX5_partNumbered 30 = .ok (.iload_n 1, 1) := by decide +kernel
theorem dX5_partNumbered_31 : decode cX5_partNumbered 31 = .ok (.invokevirtual 230, 3) := by decide +kernel
theorem dX5_partNumbered_34 : decode cX5_partNumbered 34 = .ok (.checkcast 99, 3) := by decide +kernel
theorem dX5_partNumbered_37 : decode cX5_partNumbered 37 = .ok (.areturn, 1) := by decide +kernel
theorem dX5_insertIntoPlanningOrder_0 : decode cX5_insertIntoPlanningOrder 0 = .ok (.iconst 0, 1) := by decide +kernel
theorem dX5_insertIntoPlanningOrder_1 : decode cX5_insertIntoPlanningOrder 1 = .ok (.istore_n 2, 1) := by decide +kernel
theorem dX5_insertIntoPlanningOrder_2 : decode cX5_insertIntoPlanningOrder 2 = .ok (.iload_n 2, 1) := by decide +kernel
theorem dX5_insertIntoPlanningOrder_3 : decode cX5_insertIntoPlanningOrder 3 = .ok (.aload_n 0, 1) := by decide +kernel
theorem dX5_insertIntoPlanningOrder_4 : decode cX5_insertIntoPlanningOrder 4 = .ok (.getfield 19, 3) := by decide +kernel
theorem dX5_insertIntoPlanningOrder_7 : decode cX5_insertIntoPlanningOrder 7 = .ok (.invokevirtual 54, 3) := by decide +kernel
theorem dX5_insertIntoPlanningOrder_10 : decode cX5_insertIntoPlanningOrder 10 = .ok (.if_icmp .ge 27, 3) := by decide +kernel
theorem dX5_insertIntoPlanningOrder_13 : decode cX5_insertIntoPlanningOrder 13 = .ok (.aload_n 1, 1) := by decide +kernel
theorem dX5_insertIntoPlanningOrder_14 : decode cX5_insertIntoPlanningOrder 14 = .ok (.aload_n 0, 1) := by decide +kernel
theorem dX5_insertIntoPlanningOrder_15 : decode cX5_insertIntoPlanningOrder 15 = .ok (.getfield 19, 3) := by decide +kernel
theorem dX5_insertIntoPlanningOrder_18 : decode cX5_insertIntoPlanningOrder 18 = .ok (.iload_n 2, 1) := by decide +kernel
theorem dX5_insertIntoPlanningOrder_19 : decode cX5_insertIntoPlanningOrder 19 = .ok (.invokevirtual 230, 3) := by decide +kernel
theorem dX5_insertIntoPlanningOrder_22 : decode cX5_insertIntoPlanningOrder 22 = .ok (.checkcast 99, 3) := by decide +kernel
theorem dX5_insertIntoPlanningOrder_25 : decode cX5_insertIntoPlanningOrder 25 = .ok (.invokevirtual 293, 3) := by decide +kernel
theorem dX5_insertIntoPlanningOrder_28 : decode cX5_insertIntoPlanningOrder 28 = .ok (.ifCond .ne 9, 3) := by decide +kernel
theorem dX5_insertIntoPlanningOrder_31 : decode cX5_insertIntoPlanningOrder 31 = .ok (.iinc 2 1, 3) := by decide +kernel
theorem dX5_insertIntoPlanningOrder_34 : decode cX5_insertIntoPlanningOrder 34 = .ok (.goto (-32), 3) := by decide +kernel
theorem dX5_insertIntoPlanningOrder_37 : decode cX5_insertIntoPlanningOrder 37 = .ok (.aload_n 0, 1) := by decide +kernel
theorem dX5_insertIntoPlanningOrder_38 : decode cX5_insertIntoPlanningOrder 38 = .ok (.getfield 19, 3) := by decide +kernel
theorem dX5_insertIntoPlanningOrder_41 : decode cX5_insertIntoPlanningOrder 41 = .ok (.iload_n 2, 1) := by decide +kernel
theorem dX5_insertIntoPlanningOrder_42 : decode cX5_insertIntoPlanningOrder 42 = .ok (.aload_n 1, 1) := by decide +kernel
theorem dX5_insertIntoPlanningOrder_43 : decode cX5_insertIntoPlanningOrder 43 = .ok (.invokevirtual 297, 3) := by decide +kernel
theorem dX5_insertIntoPlanningOrder_46 : decode cX5_insertIntoPlanningOrder 46 = .ok (.return_, 1) := by decide +kernel
theorem dX5_cutWhilePossible_0 : decode cX5_cutWhilePossible 0 = .ok (.iconst 0, 1) := by decide +kernel
theorem dX5_cutWhilePossible_1 : decode cX5_cutWhilePossible 1 = .ok (.istore_n 2, 1) := by decide +kernel
theorem dX5_cutWhilePossible_2 : decode cX5_cutWhilePossible 2 = .ok (.aload_n 1, 1) := by decide +kernel
theorem dX5_cutWhilePossible_3 : decode cX5_cutWhilePossible 3 = .ok (.getfield 159, 3) := by decide +kernel
theorem dX5_cutWhilePossible_6 : decode cX5_cutWhilePossible 6 = .ok (.istore_n 3, 1) := by decide +kernel
theorem dX5_cutWhilePossible_7 : decode cX5_cutWhilePossible 7 = .ok (.iload_n 3, 1) := by decide +kernel
theorem dX5_cutWhilePossible_8 : decode cX5_cutWhilePossible 8 = .ok (.ifCond .le 44, 3) := by decide +kernel
theorem dX5_cutWhilePossible_11 : decode cX5_cutWhilePossible 11 = .ok (.aload_n 0, 1) := by decide +kernel
theorem dX5_cutWhilePossible_12 : decode cX5_cutWhilePossible 12 = .ok (.aload_n 1, 1) := by decide +kernel
theorem dX5_cutWhilePossible_13 : decode cX5_cutWhilePossible 13 = .ok (.invokevirtual 300, 3) := by decide +kernel
theorem dX5_cutWhilePossible_16 : decode cX5_cutWhilePossible 16 = .ok (.astore 4, 2) := by decide +kernel
theorem dX5_cutWhilePossible_18 : decode cX5_cutWhilePossible 18 = .ok (.aload 4, 2) := by decide +kernel
theorem dX5_cutWhilePossible_20 : decode cX5_cutWhilePossible 20 = .ok (.ifnonnull 6, 3) := by decide +kernel
theorem dX5_cutWhilePossible_23 : decode cX5_cutWhilePossible 23 = .ok (.goto 29, 3) := by decide +kernel
theorem dX5_cutWhilePossible_26 : decode cX5_cutWhilePossible 26 = .ok (.aload_n 0, 1) := by decide +kernel
theorem dX5_cutWhilePossible_27 : decode cX5_cutWhilePossible 27 = .ok (.aload_n 1, 1) := by decide +kernel
theorem dX5_cutWhilePossible_28 : decode cX5_cutWhilePossible 28 = .ok (.aload 4, 2) := by decide +kernel
theorem dX5_cutWhilePossible_30 : decode cX5_cutWhilePossible 30 = .ok (.aload 4, 2) := by decide +kernel
theorem dX5_cutWhilePossible_32 : decode cX5_cutWhilePossible 32 = .ok (.aload_n 1, 1) := by decide +kernel
theorem dX5_cutWhilePossible_33 : decode cX5_cutWhilePossible 33 = .ok (.aload_n 0, 1) := by decide +kernel
theorem dX5_cutWhilePossible_34 : decode cX5_cutWhilePossible 34 = .ok (.getfield 33, 3) := by decide +kernel
theorem dX5_cutWhilePossible_37 : decode cX5_cutWhilePossible 37 = .ok (.invokevirtual 155, 3) := by decide +kernel
theorem dX5_cutWhilePossible_40 : decode cX5_cutWhilePossible 40 = .ok (.invokevirtual 166, 3) := by decide +kernel
theorem dX5_cutWhilePossible_43 : decode cX5_cutWhilePossible 43 = .ok (.iinc 2 1, 3) := by decide +kernel
theorem dX5_cutWhilePossible_46 : decode cX5_cutWhilePossible 46 = .ok (.iinc 3 (-1), 3) := by decide +kernel
theorem dX5_cutWhilePossible_49 : decode cX5_cutWhilePossible 49 = .ok (.goto (-42), 3) := by decide +kernel
theorem dX5_cutWhilePossible_52 : decode cX5_cutWhilePossible 52 = .ok (.iload_n 2, 1) := by decide +kernel
theorem dX5_cutWhilePossible_53 : decode cX5_cutWhilePossible 53 = .ok (.ireturn, 1) := by decide +kernel
theorem dX5_tightestBoard_0 : decode cX5_tightestBoard 0 = .ok (.aconst_null, 1) := by decide +kernel
theorem dX5_tightestBoard_1 : decode cX5_tightestBoard 1 = .ok (.astore_n 2, 1) := by decide +kernel
theorem dX5_tightestBoard_2 : decode cX5_tightestBoard 2 = .ok (.iconst 0, 1) := by decide +kernel
theorem dX5_tightestBoard_3 : decode cX5_tightestBoard 3 = .ok (.istore_n 3, 1) := by decide +kernel
theorem dX5_tightestBoard_4 : decode cX5_tightestBoard 4 = .ok (.iconst 0, 1) := by decide +kernel
theorem dX5_tightestBoard_5 : decode cX5_tightestBoard 5 = .ok (.istore 4, 2) := by decide +kernel
theorem dX5_tightestBoard_7 : decode cX5_tightestBoard 7 = .ok (.iload 4, 2) := by decide +kernel
theorem dX5_tightestBoard_9 : decode cX5_tightestBoard 9 = .ok (.aload_n 0, 1) := by decide +kernel
theorem dX5_tightestBoard_10 : decode cX5_tightestBoard 10 = .ok (.getfield 10, 3) := by decide +kernel
theorem dX5_tightestBoard_13 : decode cX5_tightestBoard 13 = .ok (.invokevirtual 54, 3) := by decide +kernel
theorem dX5_tightestBoard_16 : decode cX5_tightestBoard 16 = .ok (.if_icmp .ge 72, 3) := by decide +kernel
theorem dX5_tightestBoard_19 : decode cX5_tightestBoard 19 = .ok (.aload_n 0, 1) := by decide +kernel
theorem dX5_tightestBoard_20 : decode cX5_tightestBoard 20 = .ok (.getfield 10, 3) := by decide +kernel
theorem dX5_tightestBoard_23 : decode cX5_tightestBoard 23 = .ok (.iload 4, 2) := by decide +kernel
theorem dX5_tightestBoard_25 : decode cX5_tightestBoard 25 = .ok (.invokevirtual 230, 3) := by decide +kernel
theorem dX5_tightestBoard_28 : decode cX5_tightestBoard 28 = .ok (.checkcast 63, 3) := by decide +kernel
theorem dX5_tightestBoard_31 : decode cX5_tightestBoard 31 = .ok (.astore 5, 2) := by decide +kernel
theorem dX5_tightestBoard_33 : decode cX5_tightestBoard 33 = .ok (.aload 5, 2) := by decide +kernel
theorem dX5_tightestBoard_35 : decode cX5_tightestBoard 35 = .ok (.aload_n 1, 1) := by decide +kernel
theorem dX5_tightestBoard_36 : decode cX5_tightestBoard 36 = .ok (.aload_n 0, 1) := by decide +kernel
theorem dX5_tightestBoard_37 : decode cX5_tightestBoard 37 = .ok (.getfield 33, 3) := by decide +kernel
theorem dX5_tightestBoard_40 : decode cX5_tightestBoard 40 = .ok (.invokevirtual 155, 3) := by decide +kernel
theorem dX5_tightestBoard_43 : decode cX5_tightestBoard 43 = .ok (.istore 6, 2) := by decide +kernel
theorem dX5_tightestBoard_45 : decode cX5_tightestBoard 45 = .ok (.iload 6, 2) := by decide +kernel
theorem dX5_tightestBoard_47 : decode cX5_tightestBoard 47 = .ok (.ifCond .ge 6, 3) := by decide +kernel
theorem dX5_tightestBoard_50 : decode cX5_tightestBoard 50 = .ok (.goto 32, 3) := by decide +kernel
theorem dX5_tightestBoard_53 : decode cX5_tightestBoard 53 = .ok (.aload 5, 2) := by decide +kernel
theorem dX5_tightestBoard_55 : decode cX5_tightestBoard 55 = .ok (.iload 6, 2) := by decide +kernel
theorem dX5_tightestBoard_57 : decode cX5_tightestBoard 57 = .ok (.aload_n 0, 1) := by decide +kernel
theorem dX5_tightestBoard_58 : decode cX5_tightestBoard 58 = .ok (.getfield 33, 3) := by decide +kernel
theorem dX5_tightestBoard_61 : decode cX5_tightestBoard 61 = .ok (.invokevirtual 304, 3) := by decide +kernel
theorem dX5_tightestBoard_64 : decode cX5_tightestBoard 64 = .ok (.istore 7, 2) := by decide +kernel
theorem dX5_tightestBoard_66 : decode cX5_tightestBoard 66 = .ok (.aload_n 2, 1) := by decide +kernel
theorem dX5_tightestBoard_67 : decode cX5_tightestBoard 67 = .ok (.ifnull 9, 3) := by decide +kernel
theorem dX5_tightestBoard_70 : decode cX5_tightestBoard 70 = .ok (.iload 7, 2) := by decide +kernel
theorem dX5_tightestBoard_72 : decode cX5_tightestBoard 72 = .ok (.iload_n 3, 1) := by decide +kernel
theorem dX5_tightestBoard_73 : decode cX5_tightestBoard 73 = .ok (.if_icmp .ge 9, 3) := by decide +kernel
theorem dX5_tightestBoard_76 : decode cX5_tightestBoard 76 = .ok (.aload 5, 2) := by decide +kernel
theorem dX5_tightestBoard_78 : decode cX5_tightestBoard 78 = .ok (.astore_n 2, 1) := by decide +kernel
theorem dX5_tightestBoard_79 : decode cX5_tightestBoard 79 = .ok (.iload 7, 2) := by decide +kernel
theorem dX5_tightestBoard_81 : decode cX5_tightestBoard 81 = .ok (.istore_n 3, 1) := by decide +kernel
theorem dX5_tightestBoard_82 : decode cX5_tightestBoard 82 = .ok (.iinc 4 1, 3) := by decide +kernel
theorem dX5_tightestBoard_85 : decode cX5_tightestBoard 85 = .ok (.goto (-78), 3) := by decide +kernel
theorem dX5_tightestBoard_88 : decode cX5_tightestBoard 88 = .ok (.aload_n 2, 1) := by decide +kernel
theorem dX5_tightestBoard_89 : decode cX5_tightestBoard 89 = .ok (.areturn, 1) := by decide +kernel
theorem dX5_cutSingle_0 : decode cX5_cutSingle 0 = .ok (.aload_n 0, 1) := by decide +kernel
theorem dX5_cutSingle_1 : decode cX5_cutSingle 1 = .ok (.new 196, 3) := by decide +kernel
theorem dX5_cutSingle_4 : decode cX5_cutSingle 4 = .ok (.dup, 1) := by decide +kernel
theorem dX5_cutSingle_5 : decode cX5_cutSingle 5 = .ok (.aload_n 1, 1) := by decide +kernel
theorem dX5_cutSingle_6 : decode cX5_cutSingle 6 = .ok (.new 180, 3) := by decide +kernel
theorem dX5_cutSingle_9 : decode cX5_cutSingle 9 = .ok (.dup, 1) := by decide +kernel
theorem dX5_cutSingle_10 : decode cX5_cutSingle 10 = .ok (.aload_n 1, 1) := by decide +kernel
theorem dX5_cutSingle_11 : decode cX5_cutSingle 11 = .ok (.aload_n 2, 1) := by decide +kernel
theorem dX5_cutSingle_12 : decode cX5_cutSingle 12 = .ok (.iload_n 3, 1) := by decide +kernel
theorem dX5_cutSingle_13 : decode cX5_cutSingle 13 = .ok (.iload_n 3, 1) := by decide +kernel
theorem dX5_cutSingle_14 : decode cX5_cutSingle 14 = .ok (.aload_n 1, 1) := by decide +kernel
theorem dX5_cutSingle_15 : decode cX5_cutSingle 15 = .ok (.getfield 150, 3) := by decide +kernel
theorem dX5_cutSingle_18 : decode cX5_cutSingle 18 = .ok (.iadd, 1) := by decide +kernel
theorem dX5_cutSingle_19 : decode cX5_cutSingle 19 = .ok (.iconst 0, 1) := by decide +kernel
theorem dX5_cutSingle_20 : decode cX5_cutSingle 20 = .ok (.invokespecial 182, 3) := by decide +kernel
theorem dX5_cutSingle_23 : decode cX5_cutSingle 23 = .ok (.aconst_null, 1) := by decide +kernel
theorem dX5_cutSingle_24 : decode cX5_cutSingle 24 = .ok (.invokespecial 198, 3) := by decide +kernel
theorem dX5_cutSingle_27 : decode cX5_cutSingle 27 = .ok (.invokevirtual 201, 3) := by decide +kernel
theorem dX5_cutSingle_30 : decode cX5_cutSingle 30 = .ok (.return_, 1) := by decide +kernel
theorem dX5_takeFromBoards_0 : decode cX5_takeFromBoards 0 = .ok (.aload_n 1, 1) := by decide +kernel
theorem dX5_takeFromBoards_1 : decode cX5_takeFromBoards 1 = .ok (.getfield 211, 3) := by decide +kernel
theorem dX5_takeFromBoards_4 : decode cX5_takeFromBoards 4 = .ok (.getfield 215, 3) := by decide +kernel
theorem dX5_takeFromBoards_7 : decode cX5_takeFromBoards 7 = .ok (.aload_n 1, 1) := by decide +kernel
theorem dX5_takeFromBoards_8 : decode cX5_takeFromBoards 8 = .ok (.getfield 211, 3) := by decide +kernel
theorem dX5_takeFromBoards_11 : decode cX5_takeFromBoards 11 = .ok (.invokevirtual 307, 3) := by decide +kernel
theorem dX5_takeFromBoards_14 : decode cX5_takeFromBoards 14 = .ok (.aload_n 1, 1) := by decide +kernel
theorem dX5_takeFromBoards_15 : decode cX5_takeFromBoards 15 = .ok (.getfield 223, 3) := by decide +kernel
theorem dX5_takeFromBoards_18 : decode cX5_takeFromBoards 18 = .ok (.ifnull 17, 3) := by decide +kernel
theorem dX5_takeFromBoards_21 : decode cX5_takeFromBoards 21 = .ok (.aload_n 1, 1) := by decide +kernel
theorem dX5_takeFromBoards_22 : decode cX5_takeFromBoards 22 = .ok (.getfield 223, 3) := by decide +kernel
theorem dX5_takeFromBoards_25 : decode cX5_takeFromBoards 25 = .ok (.getfield 215, 3) := by decide +kernel
theorem dX5_takeFromBoards_28 : decode cX5_takeFromBoards 28 = .ok (.aload_n 1, 1) := by decide +kernel
theorem dX5_takeFromBoards_29 : decode cX5_takeFromBoards 29 = .ok (.getfield 223, 3) := by decide +kernel
theorem dX5_takeFromBoards_32 : decode cX5_takeFromBoards 32 = .ok (.invokevirtual 307, 3) := by decide +kernel
theorem dX5_takeFromBoards_35 : decode cX5_takeFromBoards 35 = .ok (.aload_n 1, 1) := by decide +kernel
theorem dX5_takeFromBoards_36 : decode cX5_takeFromBoards 36 = .ok (.getfield 226, 3) := by decide +kernel
theorem dX5_takeFromBoards_39 : decode cX5_takeFromBoards 39 = .ok (.dup, 1) := by decide +kernel
theorem dX5_takeFromBoards_40 : decode cX5_takeFromBoards 40 = .ok (.getfield 159, 3) := by decide +kernel
theorem dX5_takeFromBoards_43 : decode cX5_takeFromBoards 43 = .ok (.iconst 1, 1) := by decide +kernel
theorem dX5_takeFromBoards_44 : decode cX5_takeFromBoards 44 = .ok (.isub, 1) := by decide +kernel
theorem dX5_takeFromBoards_45 : decode cX5_takeFromBoards 45 = .ok (.putfield 159, 3) := by decide +kernel
theorem dX5_takeFromBoards_48 : decode cX5_takeFromBoards 48 = .ok (.aload_n 0, 1) := by decide +kernel
theorem dX5_takeFromBoards_49 : decode cX5_takeFromBoards 49 = .ok (.getfield 22, 3) := by decide +kernel
theorem dX5_takeFromBoards_52 : decode cX5_takeFromBoards 52 = .ok (.aload_n 1, 1) := by decide +kernel
theorem dX5_takeFromBoards_53 : decode cX5_takeFromBoards 53 = .ok (.invokevirtual 68, 3) := by decide +kernel
theorem dX5_takeFromBoards_56 : decode cX5_takeFromBoards 56 = .ok (.pop, 1) := by decide +kernel
theorem dX5_takeFromBoards_57 : decode cX5_takeFromBoards 57 = .ok (.return_, 1) := by decide +kernel
theorem dX5_clearBestSums_0 : decode cX5_clearBestSums 0 = .ok (.iconst 0, 1) := by decide +kernel
theorem dX5_clearBestSums_1 : decode cX5_clearBestSums 1 = .ok (.istore_n 1, 1) := by decide +kernel
theorem dX5_clearBestSums_2 : decode cX5_clearBestSums 2 = .ok (.iload_n 1, 1) := by decide +kernel
theorem dX5_clearBestSums_3 : decode cX5_clearBestSums 3 = .ok (.aload_n 0, 1) := by decide +kernel
theorem dX5_clearBestSums_4 : decode cX5_clearBestSums 4 = .ok (.getfield 25, 3) := by decide +kernel
theorem dX5_clearBestSums_7 : decode cX5_clearBestSums 7 = .ok (.arraylength, 1) := by decide +kernel
theorem dX5_clearBestSums_8 : decode cX5_clearBestSums 8 = .ok (.if_icmp .ge 16, 3) := by decide +kernel
theorem dX5_clearBestSums_11 : decode cX5_clearBestSums 11 = .ok (.aload_n 0, 1) := by decide +kernel
theorem dX5_clearBestSums_12 : decode cX5_clearBestSums 12 = .ok (.getfield 25, 3) := by decide +kernel
theorem dX5_clearBestSums_15 : decode cX5_clearBestSums 15 = .ok (.iload_n 1, 1) := by decide +kernel
theorem dX5_clearBestSums_16 : decode cX5_clearBestSums 16 = .ok (.iconst 0, 1) := by decide +kernel
theorem dX5_clearBestSums_17 : decode cX5_clearBestSums 17 = .ok (.iastore, 1) := by decide +kernel
theorem dX5_clearBestSums_18 : decode cX5_clearBestSums 18 = .ok (.iinc 1 1, 3) := by decide +kernel
theorem dX5_clearBestSums_21 : decode cX5_clearBestSums 21 = .ok (.goto (-19), 3) := by decide +kernel
theorem dX5_clearBestSums_24 : decode cX5_clearBestSums 24 = .ok (.return_, 1) := by decide +kernel
theorem dX5_addToBestSums_0 : decode cX5_addToBestSums 0 = .ok (.aload_n 1, 1) := by decide +kernel
theorem dX5_addToBestSums_1 : decode cX5_addToBestSums 1 = .ok (.getfield 150, 3) := by decide +kernel
theorem dX5_addToBestSums_4 : decode cX5_addToBestSums 4 = .ok (.aload_n 0, 1) := by decide +kernel
theorem dX5_addToBestSums_5 : decode cX5_addToBestSums 5 = .ok (.getfield 33, 3) := by decide +kernel
theorem dX5_addToBestSums_8 : decode cX5_addToBestSums 8 = .ok (.iadd, 1) := by decide +kernel
theorem dX5_addToBestSums_9 : decode cX5_addToBestSums 9 = .ok (.istore_n 3, 1) := by decide +kernel
theorem dX5_addToBestSums_10 : decode cX5_addToBestSums 10 = .ok (.iconst 0, 1) := by decide +kernel
theorem dX5_addToBestSums_11 : decode cX5_addToBestSums 11 = .ok (.istore 4, 2) := by decide +kernel
theorem dX5_addToBestSums_13 : decode cX5_addToBestSums 13 = .ok (.iload 4, 2) := by decide +kernel
theorem dX5_addToBestSums_15 : decode cX5_addToBestSums 15 = .ok (.aload_n 1, 1) := by decide +kernel
theorem dX5_addToBestSums_16 : decode cX5_addToBestSums 16 = .ok (.getfield 159, 3) := by decide +kernel
theorem dX5_addToBestSums_19 : decode cX5_addToBestSums 19 = .ok (.if_icmp .ge 55, 3) := by decide +kernel
theorem dX5_addToBestSums_22 : decode cX5_addToBestSums 22 = .ok (.iload_n 2, 1) := by decide +kernel
theorem dX5_addToBestSums_23 : decode cX5_addToBestSums 23 = .ok (.istore 5, 2) := by decide +kernel
theorem dX5_addToBestSums_25 : decode cX5_addToBestSums 25 = .ok (.iload 5, 2) := by decide +kernel
theorem dX5_addToBestSums_27 : decode cX5_addToBestSums 27 = .ok (.iload_n 3, 1) := by decide +kernel
theorem dX5_addToBestSums_28 : decode cX5_addToBestSums 28 = .ok (.if_icmp .lt 40, 3) := by decide +kernel
theorem dX5_addToBestSums_31 : decode cX5_addToBestSums 31 = .ok (.aload_n 0, 1) := by decide +kernel
theorem dX5_addToBestSums_32 : decode cX5_addToBestSums 32 = .ok (.getfield 25, 3) := by decide +kernel
theorem dX5_addToBestSums_35 : decode cX5_addToBestSums 35 = .ok (.iload 5, 2) := by decide +kernel
theorem dX5_addToBestSums_37 : decode cX5_addToBestSums 37 = .ok (.aload_n 0, 1) := by decide +kernel
theorem dX5_addToBestSums_38 : decode cX5_addToBestSums 38 = .ok (.getfield 25, 3) := by decide +kernel
theorem dX5_addToBestSums_41 : decode cX5_addToBestSums 41 = .ok (.iload 5, 2) := by decide +kernel
theorem dX5_addToBestSums_43 : decode cX5_addToBestSums 43 = .ok (.iaload, 1) := by decide +kernel
theorem dX5_addToBestSums_44 : decode cX5_addToBestSums 44 = .ok (.aload_n 0, 1) := by decide +kernel
theorem dX5_addToBestSums_45 : decode cX5_addToBestSums 45 = .ok (.getfield 25, 3) := by decide +kernel
theorem dX5_addToBestSums_48 : decode cX5_addToBestSums 48 = .ok (.iload 5, 2) := by decide +kernel
theorem dX5_addToBestSums_50 : decode cX5_addToBestSums 50 = .ok (.iload_n 3, 1) := by decide +kernel
theorem dX5_addToBestSums_51 : decode cX5_addToBestSums 51 = .ok (.isub, 1) := by decide +kernel
theorem dX5_addToBestSums_52 : decode cX5_addToBestSums 52 = .ok (.iaload, 1) := by decide +kernel
theorem dX5_addToBestSums_53 : decode cX5_addToBestSums 53 = .ok (.aload_n 1, 1) := by decide +kernel
theorem dX5_addToBestSums_54 : decode cX5_addToBestSums 54 = .ok (.getfield 150, 3) := by decide +kernel
theorem dX5_addToBestSums_57 : decode cX5_addToBestSums 57 = .ok (.iadd, 1) := by decide +kernel
theorem dX5_addToBestSums_58 : decode cX5_addToBestSums 58 = .ok (.invokestatic 310, 3) := by decide +kernel
theorem dX5_addToBestSums_61 : decode cX5_addToBestSums 61 = .ok (.iastore, 1) := by decide +kernel
theorem dX5_addToBestSums_62 : decode cX5_addToBestSums 62 = .ok (.iinc 5 (-1), 3) := by decide +kernel
theorem dX5_addToBestSums_65 : decode cX5_addToBestSums 65 = .ok (.goto (-40), 3) := by decide +kernel
theorem dX5_addToBestSums_68 : decode cX5_addToBestSums 68 = .ok (.iinc 4 1, 3) := by decide +kernel
theorem dX5_addToBestSums_71 : decode cX5_addToBestSums 71 = .ok (.goto (-58), 3) := by decide +kernel
theorem dX5_addToBestSums_74 : decode cX5_addToBestSums 74 = .ok (.return_, 1) := by decide +kernel
theorem dX5_withNext_0 : decode cX5_withNext 0 = .ok (.lload_n 0, 1) := by decide +kernel
theorem dX5_withNext_1 : decode cX5_withNext 1 = .ok (.ldc2_w 313, 3) := by decide +kernel
theorem dX5_withNext_4 : decode cX5_withNext 4 = .ok (.lmul, 1) := by decide +kernel
theorem dX5_withNext_5 : decode cX5_withNext 5 = .ok (.lload_n 2, 1) := by decide +kernel
theorem dX5_withNext_6 : decode cX5_withNext 6 = .ok (.ladd, 1) := by decide +kernel
theorem dX5_withNext_7 : decode cX5_withNext 7 = .ok (.lreturn, 1) := by decide +kernel
theorem dX5_withPieces_0 : decode cX5_withPieces 0 = .ok (.lload_n 0, 1) := by decide +kernel
theorem dX5_withPieces_1 : decode cX5_withPieces 1 = .ok (.aload_n 2, 1) := by decide +kernel
theorem dX5_withPieces_2 : decode cX5_withPieces 2 = .ok (.invokevirtual 54, 3) := by decide +kernel
theorem dX5_withPieces_5 : decode cX5_withPieces 5 = .ok (.i2l, 1) := by decide +kernel
theorem dX5_withPieces_6 : decode cX5_withPieces 6 = .ok (.invokestatic 279, 3) := by decide +kernel
theorem dX5_withPieces_9 : decode cX5_withPieces 9 = .ok (.lstore_n 3, 1) := by decide +kernel
theorem dX5_withPieces_10 : decode cX5_withPieces 10 = .ok (.iconst 0, 1) := by decide +kernel
theorem dX5_withPieces_11 : decode cX5_withPieces 11 = .ok (.istore 5, 2) := by decide +kernel
theorem dX5_withPieces_13 : decode cX5_withPieces 13 = .ok (.iload 5, 2) := by decide +kernel
theorem dX5_withPieces_15 : decode cX5_withPieces 15 = .ok (.aload_n 2, 1) := by decide +kernel
theorem dX5_withPieces_16 : decode cX5_withPieces 16 = .ok (.invokevirtual 54, 3) := by decide +kernel
theorem dX5_withPieces_19 : decode cX5_withPieces 19 = .ok (.if_icmp .ge 44, 3) := by decide +kernel
theorem dX5_withPieces_22 : decode cX5_withPieces 22 = .ok (.iconst 0, 1) := by decide +kernel
theorem dX5_withPieces_23 : decode cX5_withPieces 23 = .ok (.istore 6, 2) := by decide +kernel
theorem dX5_withPieces_25 : decode cX5_withPieces 25 = .ok (.iload 6, 2) := by decide +kernel
theorem dX5_withPieces_27 : decode cX5_withPieces 27 = .ok (.iconst 3, 1) := by decide +kernel
theorem dX5_withPieces_28 : decode cX5_withPieces 28 = .ok (.if_icmp .gt 29, 3) := by decide +kernel
theorem dX5_withPieces_31 : decode cX5_withPieces 31 = .ok (.lload_n 3, 1) := by decide +kernel
theorem dX5_withPieces_32 : decode cX5_withPieces 32 = .ok (.aload_n 2, 1) := by decide +kernel
theorem dX5_withPieces_33 : decode cX5_withPieces 33 = .ok (.iload 5, 2) := by decide +kernel
theorem dX5_withPieces_35 : decode cX5_withPieces 35 = .ok (.invokevirtual 230, 3) := by decide +kernel
theorem dX5_withPieces_38 : decode cX5_withPieces 38 = .ok (.checkcast 180, 3) := by decide +kernel
theorem dX5_withPieces_41 : decode cX5_withPieces 41 = .ok (.iload 6, 2) := by decide +kernel
theorem dX5_withPieces_43 : decode cX5_withPieces 43 = .ok (.invokevirtual 244, 3) := by decide +kernel
theorem dX5_withPieces_46 : decode cX5_withPieces 46 = .ok (.i2l, 1) := by decide +kernel
theorem dX5_withPieces_47 : decode cX5_withPieces 47 = .ok (.invokestatic 279, 3) := by decide +kernel
theorem dX5_withPieces_50 : decode cX5_withPieces 50 = .ok (.lstore_n 3, 1) := by decide +kernel
theorem dX5_withPieces_51 : decode cX5_withPieces 51 = .ok (.iinc 6 1, 3) := by decide +kernel
theorem dX5_withPieces_54 : decode cX5_withPieces 54 = .ok (.goto (-29), 3) := by decide +kernel
theorem dX5_withPieces_57 : decode cX5_withPieces 57 = .ok (.iinc 5 1, 3) := by decide +kernel
theorem dX5_withPieces_60 : decode cX5_withPieces 60 = .ok (.goto (-47), 3) := by decide +kernel
theorem dX5_withPieces_63 : decode cX5_withPieces 63 = .ok (.lload_n 3, 1) := by decide +kernel
theorem dX5_withPieces_64 : decode cX5_withPieces 64 = .ok (.lreturn, 1) := by decide +kernel
end
section
theorem dX6_init_0 : decode cX6_init 0 = .ok (.aload_n 0, 1) := by decide +kernel
theorem dX6_init_1 : decode cX6_init 1 = .ok (.invokespecial 3, 3) := by decide +kernel
theorem dX6_init_4 : decode cX6_init 4 = .ok (.aload_n 0, 1) := by decide +kernel
theorem dX6_init_5 : decode cX6_init 5 = .ok (.bipush 30, 2) := by decide +kernel
theorem dX6_init_7 : decode cX6_init 7 = .ok (.newarray .int, 2) := by decide +kernel
theorem dX6_init_9 : decode cX6_init 9 = .ok (.putfield 9, 3) := by decide +kernel
theorem dX6_init_12 : decode cX6_init 12 = .ok (.aload_n 0, 1) := by decide +kernel
theorem dX6_init_13 : decode cX6_init 13 = .ok (.bipush 96, 2) := by decide +kernel
theorem dX6_init_15 : decode cX6_init 15 = .ok (.newarray .int, 2) := by decide +kernel
theorem dX6_init_17 : decode cX6_init 17 = .ok (.putfield 13, 3) := by decide +kernel
theorem dX6_init_20 : decode cX6_init 20 = .ok (.aload_n 0, 1) := by decide +kernel
theorem dX6_init_21 : decode cX6_init 21 = .ok (.bipush 48, 2) := by decide +kernel
theorem dX6_init_23 : decode cX6_init 23 = .ok (.newarray .int, 2) := by decide +kernel
theorem dX6_init_25 : decode cX6_init 25 = .ok (.putfield 16, 3) := by decide +kernel
theorem dX6_init_28 : decode cX6_init 28 = .ok (.aload_n 0, 1) := by decide +kernel
theorem dX6_init_29 : decode cX6_init 29 = .ok (.bipush 12, 2) := by decide +kernel
theorem dX6_init_31 : decode cX6_init 31 = .ok (.newarray .boolean, 2) := by decide +kernel
theorem dX6_init_33 : decode cX6_init 33 = .ok (.putfield 19, 3) := by decide +kernel
theorem dX6_init_36 : decode cX6_init 36 = .ok (.aload_n 0, 1) := by decide +kernel
theorem dX6_init_37 : decode cX6_init 37 = .ok (.iconst 3, 1) := by decide +kernel
theorem dX6_init_38 : decode cX6_init 38 = .ok (.putfield 23, 3) := by decide +kernel
theorem dX6_init_41 : decode cX6_init 41 = .ok (.aload_n 0, 1) := by decide +kernel
theorem dX6_init_42 : decode cX6_init 42 = .ok (.bipush 10, 2) := by decide +kernel
theorem dX6_init_44 : decode cX6_init 44 = .ok (.putfield 27, 3) := by decide +kernel
theorem dX6_init_47 : decode cX6_init 47 = .ok (.aload_n 0, 1) := by decide +kernel
theorem dX6_init_48 : decode cX6_init 48 = .ok (.sipush 864, 3) := by decide +kernel
theorem dX6_init_51 : decode cX6_init 51 = .ok (.newarray .int, 2) := by decide +kernel
theorem dX6_init_53 : decode cX6_init 53 = .ok (.putfield 30, 3) := by decide +kernel
theorem dX6_init_56 : decode cX6_init 56 = .ok (.aload_n 0, 1) := by decide +kernel
theorem dX6_init_57 : decode cX6_init 57 = .ok (.sipush 216, 3) := by decide +kernel
theorem dX6_init_60 : decode cX6_init 60 = .ok (.newarray .boolean, 2) := by decide +kernel
theorem dX6_init_62 : decode cX6_init 62 = .ok (.putfield 33, 3) := by decide +kernel
theorem dX6_init_65 : decode cX6_init 65 = .ok (.return_, 1) := by decide +kernel
theorem dX6_thrown_0 : decode cX6_thrown 0 = .ok (.aload_n 0, 1) := by decide +kernel
theorem dX6_thrown_1 : decode cX6_thrown 1 = .ok (.getfield 36, 3) := by decide +kernel
theorem dX6_thrown_4 : decode cX6_thrown 4 = .ok (.ireturn, 1) := by decide +kernel
theorem dX6_fail_0 : decode cX6_fail 0 = .ok (.aload_n 0, 1) := by decide +kernel
theorem dX6_fail_1 : decode cX6_fail 1 = .ok (.iload_n 1, 1) := by decide +kernel
theorem dX6_fail_2 : decode cX6_fail 2 = .ok (.putfield 36, 3) := by decide +kernel
theorem dX6_fail_5 : decode cX6_fail 5 = .ok (.iconst 0, 1) := by decide +kernel
theorem dX6_fail_6 : decode cX6_fail 6 = .ok (.ireturn, 1) := by decide +kernel
theorem dX6_isIn_0 : decode cX6_isIn 0 = .ok (.iload_n 0, 1) := by decide +kernel
theorem dX6_isIn_1 : decode cX6_isIn 1 = .ok (.iload_n 1, 1) := by decide +kernel
theorem dX6_isIn_2 : decode cX6_isIn 2 = .ok (.if_icmp .lt 12, 3) := by decide +kernel
theorem dX6_isIn_5 : decode cX6_isIn 5 = .ok (.iload_n 0, 1) := by decide +kernel
theorem dX6_isIn_6 : decode cX6_isIn 6 = .ok (.iload_n 2, 1) := by decide +kernel
theorem dX6_isIn_7 : decode cX6_isIn 7 = .ok (.if_icmp .gt 7, 3) := by decide +kernel
theorem dX6_isIn_10 : decode cX6_isIn 10 = .ok (.iconst 1, 1) := by decide +kernel
theorem dX6_isIn_11 : decode cX6_isIn 11 = .ok (.goto 4, 3) := by decide +kernel
theorem dX6_isIn_14 : decode cX6_isIn 14 = .ok (.iconst 0, 1) := by decide +kernel
theorem dX6_isIn_15 : decode cX6_isIn 15 = .ok (.ireturn, 1) := by decide +kernel
theorem dX6_isBoard_0 : decode cX6_isBoard 0 = .ok (.iload_n 1, 1) := by decide +kernel
theorem dX6_isBoard_1 : decode cX6_isBoard 1 = .ok (.iconst 0, 1) := by decide +kernel
theorem dX6_isBoard_2 : decode cX6_isBoard 2 = .ok (.aload_n 0, 1) := by decide +kernel
theorem dX6_isBoard_3 : decode cX6_isBoard 3 = .ok (.getfield 39, 3) := by decide +kernel
theorem dX6_isBoard_6 : decode cX6_isBoard 6 = .ok (.iconst 1, 1) := by decide +kernel
theorem dX6_isBoard_7 : decode cX6_isBoard 7 = .ok (.isub, 1) := by decide +kernel
theorem dX6_isBoard_8 : decode cX6_isBoard 8 = .ok (.invokestatic 42, 3) := by decide +kernel
theorem dX6_isBoard_11 : decode cX6_isBoard 11 = .ok (.ireturn, 1) := by decide +kernel
theorem dX6_isPart_0 : decode cX6_isPart 0 = .ok (.iload_n 1, 1) := by decide +kernel
theorem dX6_isPart_1 : decode cX6_isPart 1 = .ok (.iconst 0, 1) := by decide +kernel
theorem dX6_isPart_2 : decode cX6_isPart 2 = .ok (.aload_n 0, 1) := by decide +kernel
theorem dX6_isPart_3 : decode cX6_isPart 3 = .ok (.getfield 46, 3) := by decide +kernel
theorem dX6_isPart_6 : decode cX6_isPart 6 = .ok (.iconst 1, 1) := by decide +kernel
theorem dX6_isPart_7 : decode cX6_isPart 7 = .ok (.isub, 1) := by decide +kernel
theorem dX6_isPart_8 : decode cX6_isPart 8 = .ok (.invokestatic 42, 3) := by decide +kernel
theorem dX6_isPart_11 : decode cX6_isPart 11 = .ok (.ireturn, 1) := by decide +kernel
theorem dX6_length_0 : decode cX6_length 0 = .ok (.aload_n 0, 1) := by decide +kernel
theorem dX6_length_1 : decode cX6_length 1 = .ok (.getfield 9, 3) := by decide +kernel
theorem dX6_length_4 : decode cX6_length 4 = .ok (.iconst 3, 1) := by decide +kernel
theorem dX6_length_5 : decode cX6_length 5 = .ok (.iload_n 1, 1) := by decide +kernel
theorem dX6_length_6 : decode cX6_length 6 = .ok (.imul, 1) := by decide +kernel
theorem dX6_length_7 : decode cX6_length 7 = .ok (.iaload, 1) := by decide +kernel
theorem dX6_length_8 : decode cX6_length 8 = .ok (.ireturn, 1) := by decide +kernel
theorem dX6_width_0 : decode cX6_width 0 = .ok (.aload_n 0, 1) := by decide +kernel
theorem dX6_width_1 : decode cX6_width 1 = .ok (.getfield 9, 3) := by decide +kernel
theorem dX6_width_4 : decode cX6_width 4 = .ok (.iconst 3, 1) := by decide +kernel
theorem dX6_width_5 : decode cX6_width 5 = .ok (.iload_n 1, 1) := by decide +kernel
theorem dX6_width_6 : decode cX6_width 6 = .ok (.imul, 1) := by decide +kernel
theorem dX6_width_7 : decode cX6_width 7 = .ok (.iconst 1, 1) := by decide +kernel
theorem dX6_width_8 : decode cX6_width 8 = .ok (.iadd, 1) := by decide +kernel
theorem dX6_width_9 : decode cX6_width 9 = .ok (.iaload, 1) := by decide +kernel
theorem dX6_width_10 : decode cX6_width 10 = .ok (.ireturn, 1) := by decide +kernel
theorem dX6_want_0 : decode cX6_want 0 = .ok (.aload_n 0, 1) := by decide +kernel
theorem dX6_want_1 : decode cX6_want 1 = .ok (.getfield 16, 3) := by decide +kernel
theorem dX6_want_4 : decode cX6_want 4 = .ok (.iconst 4, 1) := by decide +kernel
theorem dX6_want_5 : decode cX6_want 5 = .ok (.iload_n 1, 1) := by decide +kernel
theorem dX6_want_6 : decode cX6_want 6 = .ok (.imul, 1) := by decide +kernel
theorem dX6_want_7 : decode cX6_want 7 = .ok (.iload_n 2, 1) := by decide +kernel
theorem dX6_want_8 : decode cX6_want 8 = .ok (.iadd, 1) := by decide +kernel
theorem dX6_want_9 : decode cX6_want 9 = .ok (.iaload, 1) := by decide +kernel
theorem dX6_want_10 : decode cX6_want 10 = .ok (.ireturn, 1) := by decide +kernel
theorem dX6_addBoard_0 : decode cX6_addBoard 0 = .ok (.aload_n 0, 1) := by decide +kernel
theorem dX6_addBoard_1 : decode cX6_addBoard 1 = .ok (.iconst 0, 1) := by decide +kernel
theorem dX6_addBoard_2 : decode cX6_addBoard 2 = .ok (.putfield 36, 3) := by decide +kernel
theorem dX6_addBoard_5 : decode cX6_addBoard 5 = .ok (.iload_n 1, 1) := by decide +kernel
theorem dX6_addBoard_6 : decode cX6_addBoard 6 = .ok (.bipush 100, 2) := by decide +kernel
theorem dX6_addBoard_8 : decode cX6_addBoard 8 = .ok (.sipush 3000, 3) := by decide +kernel
theorem dX6_addBoard_11 : decode cX6_addBoard 11 = .ok (.invokestatic 42, 3) := by decide +kernel
theorem dX6_addBoard_14 : decode cX6_addBoard 14 = .ok (.ifCond .eq 24, 3) := by decide +kernel
theorem dX6_addBoard_17 : decode cX6_addBoard 17 = .ok (.iload_n 2, 1) := by decide +kernel
theorem dX6_addBoard_18 : decode cX6_addBoard 18 = .ok (.bipush 10, 2) := by decide +kernel
theorem dX6_addBoard_20 : decode cX6_addBoard 20 = .ok (.sipush 400, 3) := by decide +kernel
theorem dX6_addBoard_23 : decode cX6_addBoard 23 = .ok (.invokestatic 42, 3) := by decide +kernel
theorem dX6_addBoard_26 : decode cX6_addBoard 26 = .ok (.ifCond .eq 12, 3) := by decide +kernel
theorem dX6_addBoard_29 : decode cX6_addBoard 29 = .ok (.iload_n 3, 1) := by decide +kernel
theorem dX6_addBoard_30 : decode cX6_addBoard 30 = .ok (.iconst 0, 1) := by decide +kernel
theorem dX6_addBoard_31 : decode cX6_addBoard 31 = .ok (.iconst 3, 1) := by decide +kernel
theorem dX6_addBoard_32 : decode cX6_addBoard 32 = .ok (.invokestatic 42, 3) := by decide +kernel
theorem dX6_addBoard_35 : decode cX6_addBoard 35 = .ok (.ifCond .ne 9, 3) := by decide +kernel
theorem dX6_addBoard_38 : decode cX6_addBoard 38 = .ok (.aload_n 0, 1) := by decide +kernel
theorem dX6_addBoard_39 : decode cX6_addBoard 39 = .ok (.iconst 1, 1) := by decide +kernel
theorem dX6_addBoard_40 : decode cX6_addBoard 40 = .ok (.invokevirtual 49, 3) := by decide +kernel
theorem dX6_addBoard_43 : decode cX6_addBoard 43 = .ok (.ireturn, 1) := by decide +kernel
theorem dX6_addBoard_44 : decode cX6_addBoard 44 = .ok (.aload_n 0, 1) := by decide +kernel
theorem dX6_addBoard_45 : decode cX6_addBoard 45 = .ok (.getfield 39, 3) := by decide +kernel
theorem dX6_addBoard_48 : decode cX6_addBoard 48 = .ok (.bipush 10, 2) := by decide +kernel
theorem dX6_addBoard_50 : decode cX6_addBoard 50 = .ok (.if_icmp .ne 9, 3) := by decide +kernel
theorem dX6_addBoard_53 : decode cX6_addBoard 53 = .ok (.aload_n 0, 1) := by decide +kernel
theorem dX6_addBoard_54 : decode cX6_addBoard 54 = .ok (.iconst 2, 1) := by decide +kernel
theorem dX6_addBoard_55 : decode cX6_addBoard 55 = .ok (.invokevirtual 49, 3) := by decide +kernel
theorem dX6_addBoard_58 : decode cX6_addBoard 58 = .ok (.ireturn, 1) := by decide +kernel
theorem dX6_addBoard_59 : decode cX6_addBoard 59 = .ok (.aload_n 0, 1) := by decide +kernel
theorem dX6_addBoard_60 : decode cX6_addBoard 60 = .ok (.getfield 9, 3) := by decide +kernel
theorem dX6_addBoard_63 : decode cX6_addBoard 63 = .ok (.iconst 3, 1) := by decide +kernel
theorem dX6_addBoard_64 : decode cX6_addBoard 64 = .ok (.aload_n 0, 1) := by decide +kernel
theorem dX6_addBoard_65 : decode cX6_addBoard 65 = .ok (.getfield 39, 3) := by decide +kernel
theorem dX6_addBoard_68 : decode cX6_addBoard 68 = .ok (.imul, 1) := by decide +kernel
theorem dX6_addBoard_69 : decode cX6_addBoard 69 = .ok (.iload_n 1, 1) := by decide +kernel
theorem dX6_addBoard_70 : decode cX6_addBoard 70 = .ok (.iastore, 1) := by decide +kernel
theorem dX6_addBoard_71 : decode cX6_addBoard 71 = .ok (.aload_n 0, 1) := by decide +kernel
theorem dX6_addBoard_72 : decode cX6_addBoard 72 = .ok (.getfield 9, 3) := by decide +kernel
theorem dX6_addBoard_75 : decode cX6_addBoard 75 = .ok (.iconst 3, 1) := by decide +kernel
theorem dX6_addBoard_76 : decode cX6_addBoard 76 = .ok (.aload_n 0, 1) := by decide +kernel
theorem dX6_addBoard_77 : decode cX6_addBoard 77 = .ok (.getfield 39, 3) := by decide +kernel
theorem dX6_addBoard_80 : decode cX6_addBoard 80 = .ok (.imul, 1) := by decide +kernel
theorem dX6_addBoard_81 : decode cX6_addBoard 81 = .ok (.iconst 1, 1) := by decide +kernel
theorem dX6_addBoard_82 : decode cX6_addBoard 82 = .ok (.iadd, 1) := by decide +kernel
theorem dX6_addBoard_83 : decode cX6_addBoard 83 = .ok (.iload_n 2, 1) := by decide +kernel
theorem dX6_addBoard_84 : decode cX6_addBoard 84 = .ok (.iastore, 1) := by decide +kernel
theorem dX6_addBoard_85 : decode cX6_addBoard 85 = .ok (.aload_n 0, 1) := by decide +kernel
theorem dX6_addBoard_86 : decode cX6_addBoard 86 = .ok (.getfield 9, 3) := by decide +kernel
theorem dX6_addBoard_89 : decode cX6_addBoard 89 = .ok (.iconst 3, 1) := by decide +kernel
theorem dX6_addBoard_90 : decode cX6_addBoard 90 = .ok (.aload_n 0, 1) := by decide +kernel
theorem dX6_addBoard_91 : decode cX6_addBoard 91 = .ok (.getfield 39, 3) := by decide +kernel
theorem dX6_addBoard_94 : decode cX6_addBoard 94 = .ok (.imul, 1) := by decide +kernel
theorem dX6_addBoard_95 : decode cX6_addBoard 95 = .ok (.iconst 2, 1) := by decide +kernel
theorem dX6_addBoard_96 : decode cX6_addBoard 96 = .ok (.iadd, 1) := by decide +kernel
theorem dX6_addBoard_97 : decode cX6_addBoard 97 = .ok (.iload_n 3, 1) := by decide +kernel
theorem dX6_addBoard_98 : decode cX6_addBoard 98 = .ok (.iastore, 1) := by decide +kernel
theorem dX6_addBoard_99 : decode cX6_addBoard 99 = .ok (.aload_n 0, 1) := by decide +kernel
theorem dX6_addBoard_100 : decode cX6_addBoard 100 = .ok (.dup, 1) := by decide +kernel
theorem dX6_addBoard_101 : decode cX6_addBoard 101 = .ok (.getfield 39, 3) := by decide +kernel
theorem dX6_addBoard_104 : decode cX6_addBoard 104 = .ok (.iconst 1, 1) := by decide +kernel
theorem dX6_addBoard_105 : decode cX6_addBoard 105 = .ok (.iadd, 1) := by decide +kernel
theorem dX6_addBoard_106 : decode cX6_addBoard 106 = .ok (.putfield 39, 3) := by decide +kernel
theorem dX6_addBoard_109 : decode cX6_addBoard 109 = .ok (.aload_n 0, 1) := by decide +kernel
theorem dX6_addBoard_110 : decode cX6_addBoard 110 = .ok (.getfield 39, 3) := by decide +kernel
theorem dX6_addBoard_113 : decode cX6_addBoard 113 = .ok (.iconst 1, 1) := by decide +kernel
theorem dX6_addBoard_114 : decode cX6_addBoard 114 = .ok (.isub, 1) := by decide +kernel
theorem dX6_addBoard_115 : decode cX6_addBoard 115 = .ok (.ireturn, 1) := by decide +kernel
theorem dX6_isOn_0 : decode cX6_isOn 0 = .ok (.aload_n 0, 1) := by decide +kernel
theorem dX6_isOn_1 : decode cX6_isOn 1 = .ok (.getfield 30, 3) := by decide +kernel
theorem dX6_isOn_4 : decode cX6_isOn 4 = .ok (.iconst 4, 1) := by decide +kernel
theorem dX6_isOn_5 : decode cX6_isOn 5 = .ok (.iload_n 1, 1) := by decide +kernel
theorem dX6_isOn_6 : decode cX6_isOn 6 = .ok (.imul, 1) := by decide +kernel
theorem dX6_isOn_7 : decode cX6_isOn 7 = .ok (.iaload, 1) := by decide +kernel
theorem dX6_isOn_8 : decode cX6_isOn 8 = .ok (.iload_n 2, 1) := by decide +kernel
theorem dX6_isOn_9 : decode cX6_isOn 9 = .ok (.if_icmp .ne 7, 3) := by decide +kernel
theorem dX6_isOn_12 : decode cX6_isOn 12 = .ok (.iconst 1, 1) := by decide +kernel
theorem dX6_isOn_13 : decode cX6_isOn 13 = .ok (.goto 4, 3) := by decide +kernel
theorem dX6_isOn_16 : decode cX6_isOn 16 = .ok (.iconst 0, 1) := by decide +kernel
theorem dX6_isOn_17 : decode cX6_isOn 17 = .ok (.ireturn, 1) := by decide +kernel
theorem dX6_from_0 : decode cX6_from 0 = .ok (.aload_n 0, 1) := by decide +kernel
theorem dX6_from_1 : decode cX6_from 1 = .ok (.getfield 30, 3) := by decide +kernel
theorem dX6_from_4 : decode cX6_from 4 = .ok (.iconst 4, 1) := by decide +kernel
theorem dX6_from_5 : decode cX6_from 5 = .ok (.iload_n 1, 1) := by decide +kernel
theorem dX6_from_6 : decode cX6_from 6 = .ok (.imul, 1) := by decide +kernel
theorem dX6_from_7 : decode cX6_from 7 = .ok (.iconst 1, 1) := by decide +kernel
theorem dX6_from_8 : decode cX6_from 8 = .ok (.iadd, 1) := by decide +kernel
theorem dX6_from_9 : decode cX6_from 9 = .ok (.iaload, 1) := by decide +kernel
theorem dX6_from_10 : decode cX6_from 10 = .ok (.ireturn, 1) := by decide +kernel
theorem dX6_to_0 : decode cX6_to 0 = .ok (.aload_n 0, 1) := by decide +kernel
theorem dX6_to_1 : decode cX6_to 1 = .ok (.getfield 30, 3) := by decide +kernel
theorem dX6_to_4 : decode cX6_to 4 = .ok (.iconst 4, 1) := by decide +kernel
theorem dX6_to_5 : decode cX6_to 5 = .ok (.iload_n 1, 1) := by decide +kernel
theorem dX6_to_6 : decode cX6_to 6 = .ok (.imul, 1) := by decide +kernel
theorem dX6_to_7 : decode cX6_to 7 = .ok (.iconst 2, 1) := by decide +kernel
theorem dX6_to_8 : decode cX6_to 8 = .ok (.iadd, 1) := by decide +kernel
theorem dX6_to_9 : decode cX6_to 9 = .ok (.iaload, 1) := by decide +kernel
theorem dX6_to_10 : decode cX6_to 10 = .ok (.ireturn, 1) := by decide +kernel
theorem dX6_partOf_0 : decode cX6_partOf 0 = .ok (.aload_n 0, 1) := by decide +kernel
theorem dX6_partOf_1 : decode cX6_partOf 1 = .ok (.getfield 30, 3) := by decide +kernel
theorem dX6_partOf_4 : decode cX6_partOf 4 = .ok (.iconst 4, 1) := by decide +kernel
theorem dX6_partOf_5 : decode cX6_partOf 5 = .ok (.iload_n 1, 1) := by decide +kernel
theorem dX6_partOf_6 : decode cX6_partOf 6 = .ok (.imul, 1) := by decide +kernel
theorem dX6_partOf_7 : decode cX6_partOf 7 = .ok (.iconst 3, 1) := by decide +kernel
theorem dX6_partOf_8 : decode cX6_partOf 8 = .ok (.iadd, 1) := by decide +kernel
theorem dX6_partOf_9 : decode cX6_partOf 9 = .ok (.iaload, 1) := by decide +kernel
theorem dX6_partOf_10 : decode cX6_partOf 10 = .ok (.ireturn, 1) := by decide +kernel
theorem dX6_addDefect_0 : decode cX6_addDefect 0 = .ok (.aload_n 0, 1) := by decide +kernel
theorem dX6_addDefect_1 : decode cX6_addDefect 1 = .ok (.iconst 0, 1) := by decide +kernel
theorem dX6_addDefect_2 : decode cX6_addDefect 2 = .ok (.putfield 36, 3) := by decide +kernel
theorem dX6_addDefect_5 : decode cX6_addDefect 5 = .ok (.aload_n 0, 1) := by decide +kernel
theorem dX6_addDefect_6 : decode cX6_addDefect 6 = .ok (.iload_n 1, 1) := by decide +kernel
theorem dX6_addDefect_7 : decode cX6_addDefect 7 = .ok (.invokevirtual 53, 3) := by decide +kernel
theorem dX6_addDefect_10 : decode cX6_addDefect 10 = .ok (.ifCond .ne 9, 3) := by decide +kernel
theorem dX6_addDefect_13 : decode cX6_addDefect 13 = .ok (.aload_n 0, 1) := by decide +kernel
theorem dX6_addDefect_14 : decode cX6_addDefect 14 = .ok (.iconst 1, 1) := by decide +kernel
theorem dX6_addDefect_15 : decode cX6_addDefect 15 = .ok (.invokevirtual 49, 3) := by decide +kernel
theorem dX6_addDefect_18 : decode cX6_addDefect 18 = .ok (.ireturn, 1) := by decide +kernel
theorem dX6_addDefect_19 : decode cX6_addDefect 19 = .ok (.iload_n 2, 1) := by decide +kernel
theorem dX6_addDefect_20 : decode cX6_addDefect 20 = .ok (.ifCond .lt 27, 3) := by decide +kernel
theorem dX6_addDefect_23 : decode cX6_addDefect 23 = .ok (.iload_n 3, 1) := by decide +kernel
theorem dX6_addDefect_24 : decode cX6_addDefect 24 = .ok (.iload_n 2, 1) := by decide +kernel
theorem dX6_addDefect_25 : decode cX6_addDefect 25 = .ok (.if_icmp .le 22, 3) := by decide +kernel
theorem dX6_addDefect_28 : decode cX6_addDefect 28 = .ok (.iload_n 3, 1) := by decide +kernel
theorem dX6_addDefect_29 : decode cX6_addDefect 29 = .ok (.aload_n 0, 1) := by decide +kernel
theorem dX6_addDefect_30 : decode cX6_addDefect 30 = .ok (.iload_n 1, 1) := by decide +kernel
theorem dX6_addDefect_31 : decode cX6_addDefect 31 = .ok (.invokevirtual 57, 3) := by decide +kernel
theorem dX6_addDefect_34 : decode cX6_addDefect 34 = .ok (.if_icmp .gt 13, 3) := by decide +kernel
theorem dX6_addDefect_37 : decode cX6_addDefect 37 = .ok (.iload 4, 2) := by decide +kernel
theorem dX6_addDefect_39 : decode cX6_addDefect 39 = .ok (.iconst 1, 1) := by decide +kernel
theorem dX6_addDefect_40 : decode cX6_addDefect 40 = .ok (.iconst 3, 1) := by decide +kernel
theorem dX6_addDefect_41 : decode cX6_addDefect 41 = .ok (.invokestatic 42, 3) := by decide +kernel
theorem dX6_addDefect_44 : decode cX6_addDefect 44 = .ok (.ifCond .ne 9, 3) := by decide +kernel
theorem dX6_addDefect_47 : decode cX6_addDefect 47 = .ok (.aload_n 0, 1) := by decide +kernel
theorem dX6_addDefect_48 : decode cX6_addDefect 48 = .ok (.iconst 2, 1) := by decide +kernel
theorem dX6_addDefect_49 : decode cX6_addDefect 49 = .ok (.invokevirtual 49, 3) := by decide +kernel
theorem dX6_addDefect_52 : decode cX6_addDefect 52 = .ok (.ireturn, 1) := by decide +kernel
theorem dX6_addDefect_53 : decode cX6_addDefect 53 = .ok (.aload_n 0, 1) := by decide +kernel
theorem dX6_addDefect_54 : decode cX6_addDefect 54 = .ok (.getfield 60, 3) := by decide +kernel
theorem dX6_addDefect_57 : decode cX6_addDefect 57 = .ok (.bipush 24, 2) := by decide +kernel
theorem dX6_addDefect_59 : decode cX6_addDefect 59 = .ok (.if_icmp .ne 7, 3) := by decide +kernel
theorem dX6_addDefect_62 : decode cX6_addDefect 62 = .ok (.iconst 1, 1) := by decide +kernel
theorem dX6_addDefect_63 : decode cX6_addDefect 63 = .ok (.goto 4, 3) := by decide +kernel
theorem dX6_addDefect_66 : decode cX6_addDefect 66 = .ok (.iconst 0, 1) := by decide +kernel
theorem dX6_addDefect_67 : decode cX6_addDefect 67 = .ok (.istore 5, 2) := by decide +kernel
theorem dX6_addDefect_69 : decode cX6_addDefect 69 = .ok (.iconst 0, 1) := by decide +kernel
theorem dX6_addDefect_70 : decode cX6_addDefect 70 = .ok (.istore 6, 2) := by decide +kernel
theorem dX6_addDefect_72 : decode cX6_addDefect 72 = .ok (.iload 6, 2) := by decide +kernel
theorem dX6_addDefect_74 : decode cX6_addDefect 74 = .ok (.aload_n 0, 1) := by decide +kernel
theorem dX6_addDefect_75 : decode cX6_addDefect 75 = .ok (.getfield 63, 3) := by decide +kernel
theorem dX6_addDefect_78 : decode cX6_addDefect 78 = .ok (.if_icmp .ge 67, 3) := by decide +kernel
theorem dX6_addDefect_81 : decode cX6_addDefect 81 = .ok (.iload 5, 2) := by decide +kernel
theorem dX6_addDefect_83 : decode cX6_addDefect 83 = .ok (.ifCond .ne 49, 3) := by decide +kernel
theorem dX6_addDefect_86 : decode cX6_addDefect 86 = .ok (.aload_n 0, 1) := by decide +kernel
theorem dX6_addDefect_87 : decode cX6_addDefect 87 = .ok (.iload 6, 2) := by decide +kernel
theorem dX6_addDefect_89 : decode cX6_addDefect 89 = .ok (.iload_n 1, 1) := by decide +kernel
theorem dX6_addDefect_90 : decode cX6_addDefect 90 = .ok (.invokevirtual 66, 3) := by decide +kernel
theorem dX6_addDefect_93 : decode cX6_addDefect 93 = .ok (.ifCond .eq 43, 3) := by decide +kernel
theorem dX6_addDefect_96 : decode cX6_addDefect 96 = .ok (.aload_n 0, 1) := by decide +kernel
theorem dX6_addDefect_97 : decode cX6_addDefect 97 = .ok (.iload 6, 2) := by decide +kernel
theorem dX6_addDefect_99 : decode cX6_addDefect 99 = .ok (.invokevirtual 70, 3) := by decide +kernel
theorem dX6_addDefect_102 : decode cX6_addDefect 102 = .ok (.iload_n 3, 1) := by decide +kernel
theorem dX6_addDefect_103 : decode cX6_addDefect 103 = .ok (.if_icmp .ge 33, 3) := by decide +kernel
theorem dX6_addDefect_106 : decode cX6_addDefect 106 = .ok (.iload_n 2, 1) := by decide +kernel
theorem dX6_addDefect_107 : decode cX6_addDefect 107 = .ok (.aload_n 0, 1) := by decide +kernel
theorem dX6_addDefect_108 : decode cX6_addDefect 108 = .ok (.iload 6, 2) := by decide +kernel
theorem dX6_addDefect_110 : decode cX6_addDefect 110 = .ok (.invokevirtual 73, 3) := by decide +kernel
theorem dX6_addDefect_113 : decode cX6_addDefect 113 = .ok (.if_icmp .ge 23, 3) := by decide +kernel
theorem dX6_addDefect_116 : decode cX6_addDefect 116 = .ok (.iload 4, 2) := by decide +kernel
theorem dX6_addDefect_118 : decode cX6_addDefect 118 = .ok (.aload_n 0, 1) := by decide +kernel
theorem dX6_addDefect_119 : decode cX6_addDefect 119 = .ok (.aload_n 0, 1) := by decide +kernel
theorem dX6_addDefect_120 : decode cX6_addDefect 120 = .ok (.iload 6, 2) := by decide +kernel
theorem dX6_addDefect_122 : decode cX6_addDefect 122 = .ok (.invokevirtual 76, 3) := by decide +kernel
theorem dX6_addDefect_125 : decode cX6_addDefect 125 = .ok (.iconst 2, 1) := by decide +kernel
theorem dX6_addDefect_126 : decode cX6_addDefect 126 = .ok (.invokevirtual 79, 3) := by decide +kernel
theorem dX6_addDefect_129 : decode cX6_addDefect 129 = .ok (.if_icmp .le 7, 3) := by decide +kernel
theorem dX6_addDefect_132 : decode cX6_addDefect 132 = .ok (.iconst 1, 1) := by decide +kernel
theorem dX6_addDefect_133 : decode cX6_addDefect 133 = .ok (.goto 4, 3) := by decide +kernel
theorem dX6_addDefect_136 : decode cX6_addDefect 136 = .ok (.iconst 0, 1) := by decide +kernel
theorem dX6_addDefect_137 : decode cX6_addDefect 137 = .ok (.istore 5, 2) := by decide +kernel
theorem dX6_addDefect_139 : decode cX6_addDefect 139 = .ok (.iinc 6 1, 3) := by decide +kernel
theorem dX6_addDefect_142 : decode cX6_addDefect 142 = .ok (.goto (-70), 3) := by decide +kernel
theorem dX6_addDefect_145 : decode cX6_addDefect 145 = .ok (.iload 5, 2) := by decide +kernel
theorem dX6_addDefect_147 : decode cX6_addDefect 147 = .ok (.ifCond .eq 9, 3) := by decide +kernel
theorem dX6_addDefect_150 : decode cX6_addDefect 150 = .ok (.aload_n 0, 1) := by decide +kernel
theorem dX6_addDefect_151 : decode cX6_addDefect 151 = .ok (.iconst 3, 1) := by decide +kernel
theorem dX6_addDefect_152 : decode cX6_addDefect 152 = .ok (.invokevirtual 49, 3) := by decide +kernel
theorem dX6_addDefect_155 : decode cX6_addDefect 155 = .ok (.ireturn, 1) := by decide +kernel
theorem dX6_addDefect_156 : decode cX6_addDefect 156 = .ok (.aload_n 0, 1) := by decide +kernel
theorem dX6_addDefect_157 : decode cX6_addDefect 157 = .ok (.getfield 13, 3) := by decide +kernel
theorem dX6_addDefect_160 : decode cX6_addDefect 160 = .ok (.iconst 4, 1) := by decide +kernel
theorem dX6_addDefect_161 : decode cX6_addDefect 161 = .ok (.aload_n 0, 1) := by decide +kernel
theorem dX6_addDefect_162 : decode cX6_addDefect 162 = .ok (.getfield 60, 3) := by decide +kernel
theorem dX6_addDefect_165 : decode cX6_addDefect 165 = .ok (.imul, 1) := by decide +kernel
theorem dX6_addDefect_166 : decode cX6_addDefect 166 = .ok (.iload_n 1, 1) := by decide +kernel
theorem dX6_addDefect_167 : decode cX6_addDefect 167 = .ok (.iastore, 1) := by decide +kernel
theorem dX6_addDefect_168 : decode cX6_addDefect 168 = .ok (.aload_n 0, 1) := by decide +kernel
theorem dX6_addDefect_169 : decode cX6_addDefect 169 = .ok (.getfield 13, 3) := by decide +kernel
theorem dX6_addDefect_172 : decode cX6_addDefect 172 = .ok (.iconst 4, 1) := by decide +kernel
theorem dX6_addDefect_173 : decode cX6_addDefect 173 = .ok (.aload_n 0, 1) := by decide +kernel
theorem dX6_addDefect_174 : decode cX6_addDefect 174 = .ok (.getfield 60, 3) := by decide +kernel
theorem dX6_addDefect_177 : decode cX6_addDefect 177 = .ok (.imul, 1) := by decide +kernel
theorem dX6_addDefect_178 : decode cX6_addDefect 178 = .ok (.iconst 1, 1) := by decide +kernel
theorem dX6_addDefect_179 : decode cX6_addDefect 179 = .ok (.iadd, 1) := by decide +kernel
theorem dX6_addDefect_180 : decode cX6_addDefect 180 = .ok (.iload_n 2, 1) := by decide +kernel
theorem dX6_addDefect_181 : decode cX6_addDefect 181 = .ok (.iastore, 1) := by decide +kernel
theorem dX6_addDefect_182 : decode cX6_addDefect 182 = .ok (.aload_n 0, 1) := by decide +kernel
theorem dX6_addDefect_183 : decode cX6_addDefect 183 = .ok (.getfield 13, 3) := by decide +kernel
theorem dX6_addDefect_186 : decode cX6_addDefect 186 = .ok (.iconst 4, 1) := by decide +kernel
theorem dX6_addDefect_187 : decode cX6_addDefect 187 = .ok (.aload_n 0, 1) := by decide +kernel
theorem dX6_addDefect_188 : decode cX6_addDefect 188 = .ok (.getfield 60, 3) := by decide +kernel
theorem dX6_addDefect_191 : decode cX6_addDefect 191 = .ok (.imul, 1) := by decide +kernel
theorem dX6_addDefect_192 : decode cX6_addDefect 192 = .ok (.iconst 2, 1) := by decide +kernel
theorem dX6_addDefect_193 : decode cX6_addDefect 193 = .ok (.iadd, 1) := by decide +kernel
theorem dX6_addDefect_194 : decode cX6_addDefect 194 = .ok (.iload_n 3, 1) := by decide +kernel
theorem dX6_addDefect_195 : decode cX6_addDefect 195 = .ok (.iastore, 1) := by decide +kernel
theorem dX6_addDefect_196 : decode cX6_addDefect 196 = .ok (.aload_n 0, 1) := by decide +kernel
theorem dX6_addDefect_197 : decode cX6_addDefect 197 = .ok (.getfield 13, 3) := by decide +kernel
theorem dX6_addDefect_200 : decode cX6_addDefect 200 = .ok (.iconst 4, 1) := by decide +kernel
theorem dX6_addDefect_201 : decode cX6_addDefect 201 = .ok (.aload_n 0, 1) := by decide +kernel
theorem dX6_addDefect_202 : decode cX6_addDefect 202 = .ok (.getfield 60, 3) := by decide +kernel
theorem dX6_addDefect_205 : decode cX6_addDefect 205 = .ok (.imul, 1) := by decide +kernel
theorem dX6_addDefect_206 : decode cX6_addDefect 206 = .ok (.iconst 3, 1) := by decide +kernel
theorem dX6_addDefect_207 : decode cX6_addDefect 207 = .ok (.iadd, 1) := by decide +kernel
theorem dX6_addDefect_208 : decode cX6_addDefect 208 = .ok (.iload 4, 2) := by decide +kernel
theorem dX6_addDefect_210 : decode cX6_addDefect 210 = .ok (.iastore, 1) := by decide +kernel
theorem dX6_addDefect_211 : decode cX6_addDefect 211 = .ok (.aload_n 0, 1) := by decide +kernel
theorem dX6_addDefect_212 : decode cX6_addDefect 212 = .ok (.dup, 1) := by decide +kernel
theorem dX6_addDefect_213 : decode cX6_addDefect 213 = .ok (.getfield 60, 3) := by decide +kernel
theorem dX6_addDefect_216 : decode cX6_addDefect 216 = .ok (.iconst 1, 1) := by decide +kernel
theorem dX6_addDefect_217 : decode cX6_addDefect 217 = .ok (.iadd, 1) := by decide +kernel
theorem dX6_addDefect_218 : decode cX6_addDefect 218 = .ok (.putfield 60, 3) := by decide +kernel
theorem dX6_addDefect_221 : decode cX6_addDefect 221 = .ok (.aload_n 0, 1) := by decide +kernel
theorem dX6_addDefect_222 : decode cX6_addDefect 222 = .ok (.getfield 60, 3) := by decide +kernel
theorem dX6_addDefect_225 : decode cX6_addDefect 225 = .ok (.ireturn, 1) := by decide +kernel
theorem dX6_addPart_0 : decode cX6_addPart 0 = .ok (.aload_n 0, 1) := by decide +kernel
theorem dX6_addPart_1 : decode cX6_addPart 1 = .ok (.iconst 0, 1) := by decide +kernel
theorem dX6_addPart_2 : decode cX6_addPart 2 = .ok (.putfield 36, 3) := by decide +kernel
theorem dX6_addPart_5 : decode cX6_addPart 5 = .ok (.iload_n 1, 1) := by decide +kernel
theorem dX6_addPart_6 : decode cX6_addPart 6 = .ok (.bipush 20, 2) := by decide +kernel
theorem dX6_addPart_8 : decode cX6_addPart 8 = .ok (.sipush 3000, 3) := by decide +kernel
theorem dX6_addPart_11 : decode cX6_addPart 11 = .ok (.invokestatic 42, 3) := by decide +kernel
theorem dX6_addPart_14 : decode cX6_addPart 14 = .ok (.ifCond .eq 35, 3) := by decide +kernel
theorem dX6_addPart_17 : decode cX6_addPart 17 = .ok (.iload_n 2, 1) := by decide +kernel
theorem dX6_addPart_18 : decode cX6_addPart 18 = .ok (.bipush 10, 2) := by decide +kernel
theorem dX6_addPart_20 : decode cX6_addPart 20 = .ok (.sipush 400, 3) := by decide +kernel
theorem dX6_addPart_23 : decode cX6_addPart 23 = .ok (.invokestatic 42, 3) := by decide +kernel
theorem dX6_addPart_26 : decode cX6_addPart 26 = .ok (.ifCond .eq 23, 3) := by decide +kernel
theorem dX6_addPart_29 : decode cX6_addPart 29 = .ok (.iload_n 3, 1) := by decide +kernel
theorem dX6_addPart_30 : decode cX6_addPart 30 = .ok (.iconst 0, 1) := by decide +kernel
theorem dX6_addPart_31 : decode cX6_addPart 31 = .ok (.iconst 3, 1) := by decide +kernel
theorem dX6_addPart_32 : decode cX6_addPart 32 = .ok (.invokestatic 42, 3) := by decide +kernel
theorem dX6_addPart_35 : decode cX6_addPart 35 = .ok (.ifCond .eq 14, 3) := by decide +kernel
theorem dX6_addPart_38 : decode cX6_addPart 38 = .ok (.iload 4, 2) := by decide +kernel
theorem dX6_addPart_40 : decode cX6_addPart 40 = .ok (.iconst 1, 1) := by decide +kernel
theorem dX6_addPart_41 : decode cX6_addPart 41 = .ok (.bipush 9, 2) := by decide +kernel
theorem dX6_addPart_43 : decode cX6_addPart 43 = .ok (.invokestatic 42, 3) := by decide +kernel
theorem dX6_addPart_46 : decode cX6_addPart 46 = .ok (.ifCond .ne 9, 3) := by decide +kernel
theorem dX6_addPart_49 : decode cX6_addPart 49 = .ok (.aload_n 0, 1) := by decide +kernel
theorem dX6_addPart_50 : decode cX6_addPart 50 = .ok (.iconst 1, 1) := by decide +kernel
theorem dX6_addPart_51 : decode cX6_addPart 51 = .ok (.invokevirtual 49, 3) := by decide +kernel
theorem dX6_addPart_54 : decode cX6_addPart 54 = .ok (.ireturn, 1) := by decide +kernel
theorem dX6_addPart_55 : decode cX6_addPart 55 = .ok (.aload_n 0, 1) := by decide +kernel
theorem dX6_addPart_56 : decode cX6_addPart 56 = .ok (.getfield 46, 3) := by decide +kernel
theorem dX6_addPart_59 : decode cX6_addPart 59 = .ok (.bipush 12, 2) := by decide +kernel
theorem dX6_addPart_61 : decode cX6_addPart 61 = .ok (.if_icmp .ne 9, 3) := by decide +kernel
theorem dX6_addPart_64 : decode cX6_addPart 64 = .ok (.aload_n 0, 1) := by decide +kernel
theorem dX6_addPart_65 : decode cX6_addPart 65 = .ok (.iconst 2, 1) := by decide +kernel
theorem dX6_addPart_66 : decode cX6_addPart 66 = .ok (.invokevirtual 49, 3) := by decide +kernel
theorem dX6_addPart_69 : decode cX6_addPart 69 = .ok (.ireturn, 1) := by decide +kernel
theorem dX6_addPart_70 : decode cX6_addPart 70 = .ok (.aload_n 0, 1) := by decide +kernel
theorem dX6_addPart_71 : decode cX6_addPart 71 = .ok (.getfield 16, 3) := by decide +kernel
theorem dX6_addPart_74 : decode cX6_addPart 74 = .ok (.iconst 4, 1) := by decide +kernel
theorem dX6_addPart_75 : decode cX6_addPart 75 = .ok (.aload_n 0, 1) := by decide +kernel
theorem dX6_addPart_76 : decode cX6_addPart 76 = .ok (.getfield 46, 3) := by decide +kernel
theorem dX6_addPart_79 : decode cX6_addPart 79 = .ok (.imul, 1) := by decide +kernel
theorem dX6_addPart_80 : decode cX6_addPart 80 = .ok (.iload_n 1, 1) := by decide +kernel
theorem dX6_addPart_81 : decode cX6_addPart 81 = .ok (.iastore, 1) := by decide +kernel
theorem dX6_addPart_82 : decode cX6_addPart 82 = .ok (.aload_n 0, 1) := by decide +kernel
theorem dX6_addPart_83 : decode cX6_addPart 83 = .ok (.getfield 16, 3) := by decide +kernel
theorem dX6_addPart_86 : decode cX6_addPart 86 = .ok (.iconst 4, 1) := by decide +kernel
theorem dX6_addPart_87 : decode cX6_addPart 87 = .ok (.aload_n 0, 1) := by decide +kernel
theorem dX6_addPart_88 : decode cX6_addPart 88 = .ok (.getfield 46, 3) := by decide +kernel
theorem dX6_addPart_91 : decode cX6_addPart 91 = .ok (.imul, 1) := by decide +kernel
theorem dX6_addPart_92 : decode cX6_addPart 92 = .ok (.iconst 1, 1) := by decide +kernel
theorem dX6_addPart_93 : decode cX6_addPart 93 = .ok (.iadd, 1) := by decide +kernel
theorem dX6_addPart_94 : decode cX6_addPart 94 = .ok (.iload_n 2, 1) := by decide +kernel
theorem dX6_addPart_95 : decode cX6_addPart 95 = .ok (.iastore, 1) := by decide +kernel
theorem dX6_addPart_96 : decode cX6_addPart 96 = .ok (.aload_n 0, 1) := by decide +kernel
theorem dX6_addPart_97 : decode cX6_addPart 97 = .ok (.getfield 16, 3) := by decide +kernel
theorem dX6_addPart_100 : decode cX6_addPart 100 = .ok (.iconst 4, 1) := by decide +kernel
theorem dX6_addPart_101 : decode cX6_addPart 101 = .ok (.aload_n 0, 1) := by decide +kernel
theorem dX6_addPart_102 : decode cX6_addPart 102 = .ok (.getfield 46, 3) := by decide +kernel
theorem dX6_addPart_105 : decode cX6_addPart 105 = .ok (.imul, 1) := by decide +kernel
theorem dX6_addPart_106 : decode cX6_addPart 106 = .ok (.iconst 2, 1) := by decide +kernel
theorem dX6_addPart_107 : decode cX6_addPart 107 = .ok (.iadd, 1) := by decide +kernel
theorem dX6_addPart_108 : decode cX6_addPart 108 = .ok (.iload_n 3, 1) := by decide +kernel
theorem dX6_addPart_109 : decode cX6_addPart 109 = .ok (.iastore, 1) := by decide +kernel
theorem dX6_addPart_110 : decode cX6_addPart 110 = .ok (.aload_n 0, 1) := by decide +kernel
theorem dX6_addPart_111 : decode cX6_addPart 111 = .ok (.getfield 16, 3) := by decide +kernel
theorem dX6_addPart_114 : decode cX6_addPart 114 = .ok (.iconst 4, 1) := by decide +kernel
theorem dX6_addPart_115 : decode cX6_addPart 115 = .ok (.aload_n 0, 1) := by decide +kernel
theorem dX6_addPart_116 : decode cX6_addPart 116 = .ok (.getfield 46, 3) := by decide +kernel
theorem dX6_addPart_119 : decode cX6_addPart 119 = .ok (.imul, 1) := by decide +kernel
theorem dX6_addPart_120 : decode cX6_addPart 120 = .ok (.iconst 3, 1) := by decide +kernel
theorem dX6_addPart_121 : decode cX6_addPart 121 = .ok (.iadd, 1) := by decide +kernel
theorem dX6_addPart_122 : decode cX6_addPart 122 = .ok (.iload 4, 2) := by decide +kernel
theorem dX6_addPart_124 : decode cX6_addPart 124 = .ok (.iastore, 1) := by decide +kernel
theorem dX6_addPart_125 : decode cX6_addPart 125 = .ok (.aload_n 0, 1) := by decide +kernel
theorem dX6_addPart_126 : decode cX6_addPart 126 = .ok (.getfield 19, 3) := by decide +kernel
theorem dX6_addPart_129 : decode cX6_addPart 129 = .ok (.aload_n 0, 1) := by decide +kernel
theorem dX6_addPart_130 : decode cX6_addPart 130 = .ok (.getfield 46, 3) := by decide +kernel
theorem dX6_addPart_133 : decode cX6_addPart 133 = .ok (.iload 5, 2) := by decide +kernel
theorem dX6_addPart_135 : decode cX6_addPart 135 = .ok (.bastore, 1) := by decide +kernel
theorem dX6_addPart_136 : decode cX6_addPart 136 = .ok (.aload_n 0, 1) := by decide +kernel
theorem dX6_addPart_137 : decode cX6_addPart 137 = .ok (.dup, 1) := by decide +kernel
theorem dX6_addPart_138 : decode cX6_addPart 138 = .ok (.getfield 46, 3) := by decide +kernel
theorem dX6_addPart_141 : decode cX6_addPart 141 = .ok (.iconst 1, 1) := by decide +kernel
theorem dX6_addPart_142 : decode cX6_addPart 142 = .ok (.iadd, 1) := by decide +kernel
theorem dX6_addPart_143 : decode cX6_addPart 143 = .ok (.putfield 46, 3) := by decide +kernel
theorem dX6_addPart_146 : decode cX6_addPart 146 = .ok (.aload_n 0, 1) := by decide +kernel
theorem dX6_addPart_147 : decode cX6_addPart 147 = .ok (.getfield 46, 3) := by decide +kernel
theorem dX6_addPart_150 : decode cX6_addPart 150 = .ok (.iconst 1, 1) := by decide +kernel
theorem dX6_addPart_151 : decode cX6_addPart 151 = .ok (.isub, 1) := by decide +kernel
theorem dX6_addPart_152 : decode cX6_addPart 152 = .ok (.ireturn, 1) := by decide +kernel
theorem dX6_setSaw_0 : decode cX6_setSaw 0 = .ok (.aload_n 0, 1) := by decide +kernel
theorem dX6_setSaw_1 : decode cX6_setSaw 1 = .ok (.iconst 0, 1) := by decide +kernel
theorem dX6_setSaw_2 : decode cX6_setSaw 2 = .ok (.putfield 36, 3) := by decide +kernel
theorem dX6_setSaw_5 : decode cX6_setSaw 5 = .ok (.iload_n 1, 1) := by decide +kernel
theorem dX6_setSaw_6 : decode cX6_setSaw 6 = .ok (.iconst 0, 1) := by decide +kernel
theorem dX6_setSaw_7 : decode cX6_setSaw 7 = .ok (.bipush 10, 2) := by decide +kernel
theorem dX6_setSaw_9 : decode cX6_setSaw 9 = .ok (.invokestatic 42, 3) := by decide +kernel
theorem dX6_setSaw_12 : decode cX6_setSaw 12 = .ok (.ifCond .ne 9, 3) := by decide +kernel
theorem dX6_setSaw_15 : decode cX6_setSaw 15 = .ok (.aload_n 0, 1) := by decide +kernel
theorem dX6_setSaw_16 : decode cX6_setSaw 16 = .ok (.iconst 1, 1) := by decide +kernel
theorem dX6_setSaw_17 : decode cX6_setSaw 17 = .ok (.invokevirtual 49, 3) := by decide +kernel
theorem dX6_setSaw_20 : decode cX6_setSaw 20 = .ok (.ireturn, 1) := by decide +kernel
theorem dX6_setSaw_21 : decode cX6_setSaw 21 = .ok (.aload_n 0, 1) := by decide +kernel
theorem dX6_setSaw_22 : decode cX6_setSaw 22 = .ok (.getfield 63, 3) := by decide +kernel
theorem dX6_setSaw_25 : decode cX6_setSaw 25 = .ok (.ifCond .le 9, 3) := by decide +kernel
theorem dX6_setSaw_28 : decode cX6_setSaw 28 = .ok (.aload_n 0, 1) := by decide +kernel
theorem dX6_setSaw_29 : decode cX6_setSaw 29 = .ok (.iconst 2, 1) := by decide +kernel
theorem dX6_setSaw_30 : decode cX6_setSaw 30 = .ok (.invokevirtual 49, 3) := by decide +kernel
theorem dX6_setSaw_33 : decode cX6_setSaw 33 = .ok (.ireturn, 1) := by decide +kernel
theorem dX6_setSaw_34 : decode cX6_setSaw 34 = .ok (.aload_n 0, 1) := by decide +kernel
theorem dX6_setSaw_35 : decode cX6_setSaw 35 = .ok (.getfield 23, 3) := by decide +kernel
theorem dX6_setSaw_38 : decode cX6_setSaw 38 = .ok (.istore_n 2, 1) := by decide +kernel
theorem dX6_setSaw_39 : decode cX6_setSaw 39 = .ok (.aload_n 0, 1) := by decide +kernel
theorem dX6_setSaw_40 : decode cX6_setSaw 40 = .ok (.iload_n 1, 1) := by decide +kernel
theorem dX6_setSaw_41 : decode cX6_setSaw 41 = .ok (.putfield 23, 3) := by decide +kernel
theorem dX6_setSaw_44 : decode cX6_setSaw 44 = .ok (.iload_n 2, 1) := by decide +kernel
theorem dX6_setSaw_45 : decode cX6_setSaw 45 = .ok (.ireturn, 1) := by decide +kernel
theorem dX6_setJoint_0 : decode cX6_setJoint 0 = .ok (.aload_n 0, 1) := by decide +kernel
theorem dX6_setJoint_1 : decode cX6_setJoint 1 = .ok (.iconst 0, 1) := by decide +kernel
theorem dX6_setJoint_2 : decode cX6_setJoint 2 = .ok (.putfield 36, 3) := by decide +kernel
theorem dX6_setJoint_5 : decode cX6_setJoint 5 = .ok (.iload_n 1, 1) := by decide +kernel
theorem dX6_setJoint_6 : decode cX6_setJoint 6 = .ok (.iconst 0, 1) := by decide +kernel
theorem dX6_setJoint_7 : decode cX6_setJoint 7 = .ok (.bipush 50, 2) := by decide +kernel
theorem dX6_setJoint_9 : decode cX6_setJoint 9 = .ok (.invokestatic 42, 3) := by decide +kernel
theorem dX6_setJoint_12 : decode cX6_setJoint 12 = .ok (.ifCond .ne 9, 3) := by decide +kernel
theorem dX6_setJoint_15 : decode cX6_setJoint 15 = .ok (.aload_n 0, 1) := by decide +kernel
theorem dX6_setJoint_16 : decode cX6_setJoint 16 = .ok (.iconst 1, 1) := by decide +kernel
theorem dX6_setJoint_17 : decode cX6_setJoint 17 = .ok (.invokevirtual 49, 3) := by decide +kernel
theorem dX6_setJoint_20 : decode cX6_setJoint 20 = .ok (.ireturn, 1) := by decide +kernel
theorem dX6_setJoint_21 : decode cX6_setJoint 21 = .ok (.aload_n 0, 1) := by decide +kernel
theorem dX6_setJoint_22 : decode cX6_setJoint 22 = .ok (.getfield 27, 3) := by decide +kernel
theorem dX6_setJoint_25 : decode cX6_setJoint 25 = .ok (.istore_n 2, 1) := by decide +kernel
theorem dX6_setJoint_26 : decode cX6_setJoint 26 = .ok (.aload_n 0, 1) := by decide +kernel
theorem dX6_setJoint_27 : decode cX6_setJoint 27 = .ok (.iload_n 1, 1) := by decide +kernel
theorem dX6_setJoint_28 : decode cX6_setJoint 28 = .ok (.putfield 27, 3) := by decide +kernel
theorem dX6_setJoint_31 : decode cX6_setJoint 31 = .ok (.iload_n 2, 1) := by decide +kernel
theorem dX6_setJoint_32 : decode cX6_setJoint 32 = .ok (.ireturn, 1) := by decide +kernel
theorem dX6_gradeAt_0 : decode cX6_gradeAt 0 = .ok (.aload_n 0, 1) := by decide +kernel
theorem dX6_gradeAt_1 : decode cX6_gradeAt 1 = .ok (.getfield 9, 3) := by decide +kernel
theorem dX6_gradeAt_4 : decode cX6_gradeAt 4 = .ok (.iconst 3, 1) := by decide +kernel
theorem dX6_gradeAt_5 : decode cX6_gradeAt 5 = .ok (.iload_n 1, 1) := by decide +kernel
theorem dX6_gradeAt_6 : decode cX6_gradeAt 6 = .ok (.imul, 1) := by decide +kernel
theorem dX6_gradeAt_7 : decode cX6_gradeAt 7 = .ok (.iconst 2, 1) := by decide +kernel
theorem dX6_gradeAt_8 : decode cX6_gradeAt 8 = .ok (.iadd, 1) := by decide +kernel
theorem dX6_gradeAt_9 : decode cX6_gradeAt 9 = .ok (.iaload, 1) := by decide +kernel
theorem dX6_gradeAt_10 : decode cX6_gradeAt 10 = .ok (.istore_n 3, 1) := by decide +kernel
theorem dX6_gradeAt_11 : decode cX6_gradeAt 11 = .ok (.iconst 0, 1) := by decide +kernel
theorem dX6_gradeAt_12 : decode cX6_gradeAt 12 = .ok (.istore 4, 2) := by decide +kernel
theorem dX6_gradeAt_14 : decode cX6_gradeAt 14 = .ok (.iload 4, 2) := by decide +kernel
theorem dX6_gradeAt_16 : decode cX6_gradeAt 16 = .ok (.aload_n 0, 1) := by decide +kernel
theorem dX6_gradeAt_17 : decode cX6_gradeAt 17 = .ok (.getfield 60, 3) := by decide +kernel
theorem dX6_gradeAt_20 : decode cX6_gradeAt 20 = .ok (.if_icmp .ge 69, 3) := by decide +kernel
theorem dX6_gradeAt_23 : decode cX6_gradeAt 23 = .ok (.aload_n 0, 1) := by decide +kernel
theorem dX6_gradeAt_24 : decode cX6_gradeAt 24 = .ok (.getfield 13, 3) := by decide +kernel
theorem dX6_gradeAt_27 : decode cX6_gradeAt 27 = .ok (.iconst 4, 1) := by decide +kernel
theorem dX6_gradeAt_28 : decode cX6_gradeAt 28 = .ok (.iload 4, 2) := by decide +kernel
theorem dX6_gradeAt_30 : decode cX6_gradeAt 30 = .ok (.imul, 1) := by decide +kernel
theorem dX6_gradeAt_31 : decode cX6_gradeAt 31 = .ok (.iaload, 1) := by decide +kernel
theorem dX6_gradeAt_32 : decode cX6_gradeAt 32 = .ok (.iload_n 1, 1) := by decide +kernel
theorem dX6_gradeAt_33 : decode cX6_gradeAt 33 = .ok (.if_icmp .ne 50, 3) := by decide +kernel
theorem dX6_gradeAt_36 : decode cX6_gradeAt 36 = .ok (.iload_n 2, 1) := by decide +kernel
theorem dX6_gradeAt_37 : decode cX6_gradeAt 37 = .ok (.aload_n 0, 1) := by decide +kernel
theorem dX6_gradeAt_38 : decode cX6_gradeAt 38 = .ok (.getfield 13, 3) := by decide +kernel
theorem dX6_gradeAt_41 : decode cX6_gradeAt 41 = .ok (.iconst 4, 1) := by decide +kernel
theorem dX6_gradeAt_42 : decode cX6_gradeAt 42 = .ok (.iload 4, 2) := by decide +kernel
theorem dX6_gradeAt_44 : decode cX6_gradeAt 44 = .ok (.imul, 1) := by decide +kernel
theorem dX6_gradeAt_45 : decode cX6_gradeAt 45 = .ok (.iconst 1, 1) := by decide +kernel
theorem dX6_gradeAt_46 : decode cX6_gradeAt 46 = .ok (.iadd, 1) := by decide +kernel
theorem dX6_gradeAt_47 : decode cX6_gradeAt 47 = .ok (.iaload, 1) := by decide +kernel
theorem dX6_gradeAt_48 : decode cX6_gradeAt 48 = .ok (.aload_n 0, 1) := by decide +kernel
theorem dX6_gradeAt_49 : decode cX6_gradeAt 49 = .ok (.getfield 13, 3) := by decide +kernel
theorem dX6_gradeAt_52 : decode cX6_gradeAt 52 = .ok (.iconst 4, 1) := by decide +kernel
theorem dX6_gradeAt_53 : decode cX6_gradeAt 53 = .ok (.iload 4, 2) := by decide +kernel
theorem dX6_gradeAt_55 : decode cX6_gradeAt 55 = .ok (.imul, 1) := by decide +kernel
theorem dX6_gradeAt_56 : decode cX6_gradeAt 56 = .ok (.iconst 2, 1) := by decide +kernel
theorem dX6_gradeAt_57 : decode cX6_gradeAt 57 = .ok (.iadd, 1) := by decide +kernel
theorem dX6_gradeAt_58 : decode cX6_gradeAt 58 = .ok (.iaload, 1) := by decide +kernel
theorem dX6_gradeAt_59 : decode cX6_gradeAt 59 = .ok (.iconst 1, 1) := by decide +kernel
theorem dX6_gradeAt_60 : decode cX6_gradeAt 60 = .ok (.isub, 1) := by decide +kernel
theorem dX6_gradeAt_61 : decode cX6_gradeAt 61 = .ok (.invokestatic 42, 3) := by decide +kernel
theorem dX6_gradeAt_64 : decode cX6_gradeAt 64 = .ok (.ifCond .eq 19, 3) := by decide +kernel
theorem dX6_gradeAt_67 : decode cX6_gradeAt 67 = .ok (.iload_n 3, 1) := by decide +kernel
theorem dX6_gradeAt_68 : decode cX6_gradeAt 68 = .ok (.aload_n 0, 1) := by decide +kernel
theorem dX6_gradeAt_69 : decode cX6_gradeAt 69 = .ok (.getfield 13, 3) := by decide +kernel
theorem dX6_gradeAt_72 : decode cX6_gradeAt 72 = .ok (.iconst 4, 1) := by decide +kernel
theorem dX6_gradeAt_73 : decode cX6_gradeAt 73 = .ok (.iload 4, 2) := by decide +kernel
theorem dX6_gradeAt_75 : decode cX6_gradeAt 75 = .ok (.imul, 1) := by decide +kernel
theorem dX6_gradeAt_76 : decode cX6_gradeAt 76 = .ok (.iconst 3, 1) := by decide +kernel
theorem dX6_gradeAt_77 : decode cX6_gradeAt 77 = .ok (.iadd, 1) := by decide +kernel
theorem dX6_gradeAt_78 : decode cX6_gradeAt 78 = .ok (.iaload, 1) := by decide +kernel
theorem dX6_gradeAt_79 : decode cX6_gradeAt 79 = .ok (.invokestatic 83, 3) := by decide +kernel
theorem dX6_gradeAt_82 : decode cX6_gradeAt 82 = .ok (.istore_n 3, 1) := by decide +kernel
theorem dX6_gradeAt_83 : decode cX6_gradeAt 83 = .ok (.iinc 4 1, 3) := by decide +kernel
theorem dX6_gradeAt_86 : decode cX6_gradeAt 86 = .ok (.goto (-72), 3) := by decide +kernel
theorem dX6_gradeAt_89 : decode cX6_gradeAt 89 = .ok (.iload_n 3, 1) := by decide +kernel
theorem dX6_gradeAt_90 : decode cX6_gradeAt 90 = .ok (.ireturn, 1) := by decide +kernel
theorem dX6_grade_0 : decode cX6_grade 0 = .ok (.aload_n 0, 1) := by decide +kernel
theorem dX6_grade_1 : decode cX6_grade 1 = .ok (.iconst 0, 1) := by decide +kernel
theorem dX6_grade_2 : decode cX6_grade 2 = .ok (.putfield 36, 3) := by decide +kernel
theorem dX6_grade_5 : decode cX6_grade 5 = .ok (.aload_n 0, 1) := by decide +kernel
theorem dX6_grade_6 : decode cX6_grade 6 = .ok (.iload_n 1, 1) := by decide +kernel
theorem dX6_grade_7 : decode cX6_grade 7 = .ok (.invokevirtual 53, 3) := by decide +kernel
theorem dX6_grade_10 : decode cX6_grade 10 = .ok (.ifCond .eq 27, 3) := by decide +kernel
theorem dX6_grade_13 : decode cX6_grade 13 = .ok (.iload_n 2, 1) := by decide +kernel
theorem dX6_grade_14 : decode cX6_grade 14 = .ok (.iconst 0, 1) := by decide +kernel
theorem dX6_grade_15 : decode cX6_grade 15 = .ok (.aload_n 0, 1) := by decide +kernel
theorem dX6_grade_16 : decode cX6_grade 16 = .ok (.iload_n 1, 1) := by decide +kernel
theorem dX6_grade_17 : decode cX6_grade 17 = .ok (.invokevirtual 57, 3) := by decide +kernel
theorem dX6_grade_20 : decode cX6_grade 20 = .ok (.iconst 1, 1) := by decide +kernel
theorem dX6_grade_21 : decode cX6_grade 21 = .ok (.isub, 1) := by decide +kernel
theorem dX6_grade_22 : decode cX6_grade 22 = .ok (.invokestatic 42, 3) := by decide +kernel
theorem dX6_grade_25 : decode cX6_grade 25 = .ok (.ifCond .eq 12, 3) := by decide +kernel
theorem dX6_grade_28 : decode cX6_grade 28 = .ok (.aload_n 0, 1) := by decide +kernel
theorem dX6_grade_29 : decode cX6_grade 29 = .ok (.iload_n 1, 1) := by decide +kernel
theorem dX6_grade_30 : decode cX6_grade 30 = .ok (.iload_n 2, 1) := by decide +kernel
theorem dX6_grade_31 : decode cX6_grade 31 = .ok (.invokevirtual 88, 3) := by decide +kernel
theorem dX6_grade_34 : decode cX6_grade 34 = .ok (.goto 8, 3) := by decide +kernel
theorem dX6_grade_37 : decode cX6_grade 37 = .ok (.aload_n 0, 1) := by decide +kernel
theorem dX6_grade_38 : decode cX6_grade 38 = .ok (.iconst 1, 1) := by decide +kernel
theorem dX6_grade_39 : decode cX6_grade 39 = .ok (.invokevirtual 49, 3) := by decide +kernel
theorem dX6_grade_42 : decode cX6_grade 42 = .ok (.ireturn, 1) := by decide +kernel
theorem dX6_nextChange_0 : decode cX6_nextChange 0 = .ok (.aload_n 0, 1) := by decide +kernel
theorem dX6_nextChange_1 : decode cX6_nextChange 1 = .ok (.iload_n 1, 1) := by decide +kernel
theorem dX6_nextChange_2 : decode cX6_nextChange 2 = .ok (.invokevirtual 57, 3) := by decide +kernel
theorem dX6_nextChange_5 : decode cX6_nextChange 5 = .ok (.istore_n 3, 1) := by decide +kernel
theorem dX6_nextChange_6 : decode cX6_nextChange 6 = .ok (.iconst 0, 1) := by decide +kernel
theorem dX6_nextChange_7 : decode cX6_nextChange 7 = .ok (.istore 4, 2) := by decide +kernel
theorem dX6_nextChange_9 : decode cX6_nextChange 9 = .ok (.iload 4, 2) := by decide +kernel
theorem dX6_nextChange_11 : decode cX6_nextChange 11 = .ok (.aload_n 0, 1) := by decide +kernel
theorem dX6_nextChange_12 : decode cX6_nextChange 12 = .ok (.getfield 60, 3) := by decide +kernel
theorem dX6_nextChange_15 : decode cX6_nextChange 15 = .ok (.if_icmp .ge 87, 3) := by decide +kernel
theorem dX6_nextChange_18 : decode cX6_nextChange 18 = .ok (.aload_n 0, 1) := by decide +kernel
theorem dX6_nextChange_19 : decode cX6_nextChange 19 = .ok (.getfield 13, 3) := by decide +kernel
theorem dX6_nextChange_22 : decode cX6_nextChange 22 = .ok (.iconst 4, 1) := by decide +kernel
theorem dX6_nextChange_23 : decode cX6_nextChange 23 = .ok (.iload 4, 2) := by decide +kernel
theorem dX6_nextChange_25 : decode cX6_nextChange 25 = .ok (.imul, 1) := by decide +kernel
theorem dX6_nextChange_26 : decode cX6_nextChange 26 = .ok (.iaload, 1) := by decide +kernel
theorem dX6_nextChange_27 : decode cX6_nextChange 27 = .ok (.iload_n 1, 1) := by decide +kernel
theorem dX6_nextChange_28 : decode cX6_nextChange 28 = .ok (.if_icmp .eq 6, 3) := by decide +kernel
theorem dX6_nextChange_31 : decode cX6_nextChange 31 = .ok (.goto 65, 3) := by decide +kernel
theorem dX6_nextChange_34 : decode cX6_nextChange 34 = .ok (.aload_n 0, 1) := by decide +kernel
theorem dX6_nextChange_35 : decode cX6_nextChange 35 = .ok (.getfield 13, 3) := by decide +kernel
theorem dX6_nextChange_38 : decode cX6_nextChange 38 = .ok (.iconst 4, 1) := by decide +kernel
theorem dX6_nextChange_39 : decode cX6_nextChange 39 = .ok (.iload 4, 2) := by decide +kernel
theorem dX6_nextChange_41 : decode cX6_nextChange 41 = .ok (.imul, 1) := by decide +kernel
theorem dX6_nextChange_42 : decode cX6_nextChange 42 = .ok (.iconst 1, 1) := by decide +kernel
theorem dX6_nextChange_43 : decode cX6_nextChange 43 = .ok (.iadd, 1) := by decide +kernel
theorem dX6_nextChange_44 : decode cX6_nextChange 44 = .ok (.iaload, 1) := by decide +kernel
theorem dX6_nextChange_45 : decode cX6_nextChange 45 = .ok (.iload_n 2, 1) := by decide +kernel
theorem dX6_nextChange_46 : decode cX6_nextChange 46 = .ok (.if_icmp .le 19, 3) := by decide +kernel
theorem dX6_nextChange_49 : decode cX6_nextChange 49 = .ok (.iload_n 3, 1) := by decide +kernel
theorem dX6_nextChange_50 : decode cX6_nextChange 50 = .ok (.aload_n 0, 1) := by decide +kernel
theorem dX6_nextChange_51 : decode cX6_nextChange 51 = .ok (.getfield 13, 3) := by decide +kernel
theorem dX6_nextChange_54 : decode cX6_nextChange 54 = .ok (.iconst 4, 1) := by decide +kernel
theorem dX6_nextChange_55 : decode cX6_nextChange 55 = .ok (.iload 4, 2) := by decide +kernel
theorem dX6_nextChange_57 : decode cX6_nextChange 57 = .ok (.imul, 1) := by decide +kernel
theorem dX6_nextChange_58 : decode cX6_nextChange 58 = .ok (.iconst 1, 1) := by decide +kernel
theorem dX6_nextChange_59 : decode cX6_nextChange 59 = .ok (.iadd, 1) := by decide +kernel
theorem dX6_nextChange_60 : decode cX6_nextChange 60 = .ok (.iaload, 1) := by decide +kernel
theorem dX6_nextChange_61 : decode cX6_nextChange 61 = .ok (.invokestatic 91, 3) := by decide +kernel
theorem dX6_nextChange_64 : decode cX6_nextChange 64 = .ok (.istore_n 3, 1) := by decide +kernel
theorem dX6_nextChange_65 : decode cX6_nextChange 65 = .ok (.aload_n 0, 1) := by decide +kernel
theorem dX6_nextChange_66 : decode cX6_nextChange 66 = .ok (.getfield 13, 3) := by decide +kernel
theorem dX6_nextChange_69 : decode cX6_nextChange 69 = .ok (.iconst 4, 1) := by decide +kernel
theorem dX6_nextChange_70 : decode cX6_nextChange 70 = .ok (.iload 4, 2) := by decide +kernel
theorem dX6_nextChange_72 : decode cX6_nextChange 72 = .ok (.imul, 1) := by decide +kernel
theorem dX6_nextChange_73 : decode cX6_nextChange 73 = .ok (.iconst 2, 1) := by decide +kernel
theorem dX6_nextChange_74 : decode cX6_nextChange 74 = .ok (.iadd, 1) := by decide +kernel
theorem dX6_nextChange_75 : decode cX6_nextChange 75 = .ok (.iaload, 1) := by decide +kernel
theorem dX6_nextChange_76 : decode cX6_nextChange 76 = .ok (.iload_n 2, 1) := by decide +kernel
theorem dX6_nextChange_77 : decode cX6_nextChange 77 = .ok (.if_icmp .le 19, 3) := by decide +kernel
theorem dX6_nextChange_80 : decode cX6_nextChange 80 = .ok (.iload_n 3, 1) := by decide +kernel
theorem dX6_nextChange_81 : decode cX6_nextChange 81 = .ok (.aload_n 0, 1) := by decide +kernel
theorem dX6_nextChange_82 : decode cX6_nextChange 82 = .ok (.getfield 13, 3) := by decide +kernel
theorem dX6_nextChange_85 : decode cX6_nextChange 85 = .ok (.iconst 4, 1) := by decide +kernel
theorem dX6_nextChange_86 : decode cX6_nextChange 86 = .ok (.iload 4, 2) := by decide +kernel
theorem dX6_nextChange_88 : decode cX6_nextChange 88 = .ok (.imul, 1) := by decide +kernel
theorem dX6_nextChange_89 : decode cX6_nextChange 89 = .ok (.iconst 2, 1) := by decide +kernel
theorem dX6_nextChange_90 : decode cX6_nextChange 90 = .ok (.iadd, 1) := by decide +kernel
theorem dX6_nextChange_91 : decode cX6_nextChange 91 = .ok (.iaload, 1) := by decide +kernel
theorem dX6_nextChange_92 : decode cX6_nextChange 92 = .ok (.invokestatic 91, 3) := by decide +kernel
theorem dX6_nextChange_95 : decode cX6_nextChange 95 = .ok (.istore_n 3, 1) := by decide +kernel
theorem dX6_nextChange_96 : decode cX6_nextChange 96 = .ok (.iinc 4 1, 3) := by decide +kernel
theorem dX6_nextChange_99 : decode cX6_nextChange 99 = .ok (.goto (-90), 3) := by decide +kernel
theorem dX6_nextChange_102 : decode cX6_nextChange 102 = .ok (.iload_n 3, 1) := by decide +kernel
theorem dX6_nextChange_103 : decode cX6_nextChange 103 = .ok (.ireturn, 1) := by decide +kernel
theorem dX6_goOver_0 : decode cX6_goOver 0 = .ok (.iconst 0, 1) := by decide +kernel
theorem dX6_goOver_1 : decode cX6_goOver 1 = .ok (.istore 4, 2) := by decide +kernel
theorem dX6_goOver_3 : decode cX6_goOver 3 = .ok (.iconst 0, 1) := by decide +kernel
theorem dX6_goOver_4 : decode cX6_goOver 4 = .ok (.istore 5, 2) := by decide +kernel
theorem dX6_goOver_6 : decode cX6_goOver 6 = .ok (.iconst 0, 1) := by decide +kernel
theorem dX6_goOver_7 : decode cX6_goOver 7 = .ok (.istore 6, 2) := by decide +kernel
theorem dX6_goOver_9 : decode cX6_goOver 9 = .ok (.iload 6, 2) := by decide +kernel
theorem dX6_goOver_11 : decode cX6_goOver 11 = .ok (.aload_n 0, 1) := by decide +kernel
theorem dX6_goOver_12 : decode cX6_goOver 12 = .ok (.iload_n 1, 1) := by decide +kernel
theorem dX6_goOver_13 : decode cX6_goOver 13 = .ok (.invokevirtual 57, 3) := by decide +kernel
theorem dX6_goOver_16 : decode cX6_goOver 16 = .ok (.if_icmp .ge 81, 3) := by decide +kernel
theorem dX6_goOver_19 : decode cX6_goOver 19 = .ok (.aload_n 0, 1) := by decide +kernel
theorem dX6_goOver_20 : decode cX6_goOver 20 = .ok (.iload_n 1, 1) := by decide +kernel
theorem dX6_goOver_21 : decode cX6_goOver 21 = .ok (.iload 6, 2) := by decide +kernel
theorem dX6_goOver_23 : decode cX6_goOver 23 = .ok (.invokevirtual 88, 3) := by decide +kernel
theorem dX6_goOver_26 : decode cX6_goOver 26 = .ok (.iload_n 2, 1) := by decide +kernel
theorem dX6_goOver_27 : decode cX6_goOver 27 = .ok (.if_icmp .gt 7, 3) := by decide +kernel
theorem dX6_goOver_30 : decode cX6_goOver 30 = .ok (.iconst 1, 1) := by decide +kernel
theorem dX6_goOver_31 : decode cX6_goOver 31 = .ok (.goto 4, 3) := by decide +kernel
theorem dX6_goOver_34 : decode cX6_goOver 34 = .ok (.iconst 0, 1) := by decide +kernel
theorem dX6_goOver_35 : decode cX6_goOver 35 = .ok (.istore 7, 2) := by decide +kernel
theorem dX6_goOver_37 : decode cX6_goOver 37 = .ok (.iload 7, 2) := by decide +kernel
theorem dX6_goOver_39 : decode cX6_goOver 39 = .ok (.ifCond .eq 26, 3) := by decide +kernel
theorem dX6_goOver_42 : decode cX6_goOver 42 = .ok (.iload 5, 2) := by decide +kernel
theorem dX6_goOver_44 : decode cX6_goOver 44 = .ok (.ifCond .ne 21, 3) := by decide +kernel
theorem dX6_goOver_47 : decode cX6_goOver 47 = .ok (.iload 4, 2) := by decide +kernel
theorem dX6_goOver_49 : decode cX6_goOver 49 = .ok (.iload_n 3, 1) := by decide +kernel
theorem dX6_goOver_50 : decode cX6_goOver 50 = .ok (.if_icmp .le 6, 3) := by decide +kernel
theorem dX6_goOver_53 : decode cX6_goOver 53 = .ok (.iload 4, 2) := by decide +kernel
theorem dX6_goOver_55 : decode cX6_goOver 55 = .ok (.ireturn, 1) := by decide +kernel
theorem dX6_goOver_56 : decode cX6_goOver 56 = .ok (.iinc 4 1, 3) := by decide +kernel
theorem dX6_goOver_59 : decode cX6_goOver 59 = .ok (.aload_n 0, 1) := by decide +kernel
theorem dX6_goOver_60 : decode cX6_goOver 60 = .ok (.iload 6, 2) := by decide +kernel
theorem dX6_goOver_62 : decode cX6_goOver 62 = .ok (.putfield 94, 3) := by decide +kernel
theorem dX6_goOver_65 : decode cX6_goOver 65 = .ok (.iload 7, 2) := by decide +kernel
theorem dX6_goOver_67 : decode cX6_goOver 67 = .ok (.ifCond .eq 14, 3) := by decide +kernel
theorem dX6_goOver_70 : decode cX6_goOver 70 = .ok (.aload_n 0, 1) := by decide +kernel
theorem dX6_goOver_71 : decode cX6_goOver 71 = .ok (.aload_n 0, 1) := by decide +kernel
theorem dX6_goOver_72 : decode cX6_goOver 72 = .ok (.iload_n 1, 1) := by decide +kernel
theorem dX6_goOver_73 : decode cX6_goOver 73 = .ok (.iload 6, 2) := by decide +kernel
theorem dX6_goOver_75 : decode cX6_goOver 75 = .ok (.invokevirtual 97, 3) := by decide +kernel
theorem dX6_goOver_78 : decode cX6_goOver 78 = .ok (.putfield 100, 3) := by decide +kernel
theorem dX6_goOver_81 : decode cX6_goOver 81 = .ok (.iload 7, 2) := by decide +kernel
theorem dX6_goOver_83 : decode cX6_goOver 83 = .ok (.istore 5, 2) := by decide +kernel
theorem dX6_goOver_85 : decode cX6_goOver 85 = .ok (.aload_n 0, 1) := by decide +kernel
theorem dX6_goOver_86 : decode cX6_goOver 86 = .ok (.iload_n 1, 1) := by decide +kernel
theorem dX6_goOver_87 : decode cX6_goOver 87 = .ok (.iload 6, 2) := by decide +kernel
theorem dX6_goOver_89 : decode cX6_goOver 89 = .ok (.invokevirtual 97, 3) := by decide +kernel
theorem dX6_goOver_92 : decode cX6_goOver 92 = .ok (.istore 6, 2) := by decide +kernel
theorem dX6_goOver_94 : decode cX6_goOver 94 = .ok (.goto (-85), 3) := by decide +kernel
theorem dX6_goOver_97 : decode cX6_goOver 97 = .ok (.iload 4, 2) := by decide +kernel
theorem dX6_goOver_99 : decode cX6_goOver 99 = .ok (.ireturn, 1) := by decide +kernel
theorem dX6_stretches_0 : decode cX6_stretches 0 = .ok (.aload_n 0, 1) := by decide +kernel
theorem dX6_stretches_1 : decode cX6_stretches 1 = .ok (.iconst 0, 1) := by decide +kernel
theorem dX6_stretches_2 : decode cX6_stretches 2 = .ok (.putfield 36, 3) := by decide +kernel
theorem dX6_stretches_5 : decode cX6_stretches 5 = .ok (.aload_n 0, 1) := by decide +kernel
theorem dX6_stretches_6 : decode cX6_stretches 6 = .ok (.iload_n 1, 1) := by decide +kernel
theorem dX6_stretches_7 : decode cX6_stretches 7 = .ok (.invokevirtual 53, 3) := by decide +kernel
theorem dX6_stretches_10 : decode cX6_stretches 10 = .ok (.ifCond .ne 9, 3) := by decide +kernel
theorem dX6_stretches_13 : decode cX6_stretches 13 = .ok (.aload_n 0, 1) := by decide +kernel
theorem dX6_stretches_14 : decode cX6_stretches 14 = .ok (.iconst 1, 1) := by decide +kernel
theorem dX6_stretches_15 : decode cX6_stretches 15 = .ok (.invokevirtual 49, 3) := by decide +kernel
theorem dX6_stretches_18 : decode cX6_stretches 18 = .ok (.ireturn, 1) := by decide +kernel
theorem dX6_stretches_19 : decode cX6_stretches 19 = .ok (.iload_n 2, 1) := by decide +kernel
theorem dX6_stretches_20 : decode cX6_stretches 20 = .ok (.iconst 0, 1) := by decide +kernel
theorem dX6_stretches_21 : decode cX6_stretches 21 = .ok (.iconst 3, 1) := by decide +kernel
theorem dX6_stretches_22 : decode cX6_stretches 22 = .ok (.invokestatic 42, 3) := by decide +kernel
theorem dX6_stretches_25 : decode cX6_stretches 25 = .ok (.ifCond .eq 15, 3) := by decide +kernel
theorem dX6_stretches_28 : decode cX6_stretches 28 = .ok (.aload_n 0, 1) := by decide +kernel
theorem dX6_stretches_29 : decode cX6_stretches 29 = .ok (.iload_n 1, 1) := by decide +kernel
theorem dX6_stretches_30 : decode cX6_stretches 30 = .ok (.iload_n 2, 1) := by decide +kernel
theorem dX6_stretches_31 : decode cX6_stretches 31 = .ok (.sipush 3000, 3) := by decide +kernel
theorem dX6_stretches_34 : decode cX6_stretches 34 = .ok (.invokevirtual 103, 3) := by decide +kernel
theorem dX6_stretches_37 : decode cX6_stretches 37 = .ok (.goto 8, 3) := by decide +kernel
theorem dX6_stretches_40 : decode cX6_stretches 40 = .ok (.aload_n 0, 1) := by decide +kernel
theorem dX6_stretches_41 : decode cX6_stretches 41 = .ok (.iconst 2, 1) := by decide +kernel
theorem dX6_stretches_42 : decode cX6_stretches 42 = .ok (.invokevirtual 49, 3) := by decide +kernel
theorem dX6_stretches_45 : decode cX6_stretches 45 = .ok (.ireturn, 1) := by decide +kernel
theorem dX6_stretch_0 : decode cX6_stretch 0 = .ok (.aload_n 0, 1) := by decide +kernel
theorem dX6_stretch_1 : decode cX6_stretch 1 = .ok (.iconst 0, 1) := by decide +kernel
theorem dX6_stretch_2 : decode cX6_stretch 2 = .ok (.putfield 36, 3) := by decide +kernel
theorem dX6_stretch_5 : decode cX6_stretch 5 = .ok (.aload_n 0, 1) := by decide +kernel
theorem dX6_stretch_6 : decode cX6_stretch 6 = .ok (.iload_n 1, 1) := by decide +kernel
theorem dX6_stretch_7 : decode cX6_stretch 7 = .ok (.invokevirtual 53, 3) := by decide +kernel
theorem dX6_stretch_10 : decode cX6_stretch 10 = .ok (.ifCond .ne 9, 3) := by decide +kernel
theorem dX6_stretch_13 : decode cX6_stretch 13 = .ok (.aload_n 0, 1) := by decide +kernel
theorem dX6_stretch_14 : decode cX6_stretch 14 = .ok (.iconst 1, 1) := by decide +kernel
theorem dX6_stretch_15 : decode cX6_stretch 15 = .ok (.invokevirtual 49, 3) := by decide +kernel
theorem dX6_stretch_18 : decode cX6_stretch 18 = .ok (.ireturn, 1) := by decide +kernel
theorem dX6_stretch_19 : decode cX6_stretch 19 = .ok (.iload_n 2, 1) := by decide +kernel
theorem dX6_stretch_20 : decode cX6_stretch 20 = .ok (.iconst 0, 1) := by decide +kernel
theorem dX6_stretch_21 : decode cX6_stretch 21 = .ok (.iconst 3, 1) := by decide +kernel
theorem dX6_stretch_22 : decode cX6_stretch 22 = .ok (.invokestatic 42, 3) := by decide +kernel
theorem dX6_stretch_25 : decode cX6_stretch 25 = .ok (.ifCond .eq 18, 3) := by decide +kernel
theorem dX6_stretch_28 : decode cX6_stretch 28 = .ok (.iload_n 3, 1) := by decide +kernel
theorem dX6_stretch_29 : decode cX6_stretch 29 = .ok (.ifCond .lt 14, 3) := by decide +kernel
theorem dX6_stretch_32 : decode cX6_stretch 32 = .ok (.aload_n 0, 1) := by decide +kernel
theorem dX6_stretch_33 : decode cX6_stretch 33 = .ok (.iload_n 1, 1) := by decide +kernel
theorem dX6_stretch_34 : decode cX6_stretch 34 = .ok (.iload_n 2, 1) := by decide +kernel
theorem dX6_stretch_35 : decode cX6_stretch 35 = .ok (.iload_n 3, 1) := by decide +kernel
theorem dX6_stretch_36 : decode cX6_stretch 36 = .ok (.invokevirtual 103, 3) := by decide +kernel
theorem dX6_stretch_39 : decode cX6_stretch 39 = .ok (.iload_n 3, 1) := by decide +kernel
theorem dX6_stretch_40 : decode cX6_stretch 40 = .ok (.if_icmp .gt 9, 3) := by decide +kernel
theorem dX6_stretch_43 : decode cX6_stretch 43 = .ok (.aload_n 0, 1) := by decide +kernel
theorem dX6_stretch_44 : decode cX6_stretch 44 = .ok (.iconst 2, 1) := by decide +kernel
theorem dX6_stretch_45 : decode cX6_stretch 45 = .ok (.invokevirtual 49, 3) := by decide +kernel
theorem dX6_stretch_48 : decode cX6_stretch 48 = .ok (.ireturn, 1) := by decide +kernel
theorem dX6_stretch_49 : decode cX6_stretch 49 = .ok (.iload 4, 2) := by decide +kernel
theorem dX6_stretch_51 : decode cX6_stretch 51 = .ok (.ifCond .eq 10, 3) := by decide +kernel
theorem dX6_stretch_54 : decode cX6_stretch 54 = .ok (.aload_n 0, 1) := by decide +kernel
theorem dX6_stretch_55 : decode cX6_stretch 55 = .ok (.getfield 100, 3) := by decide +kernel
theorem dX6_stretch_58 : decode cX6_stretch 58 = .ok (.goto 7, 3) := by decide +kernel
theorem dX6_stretch_61 : decode cX6_stretch 61 = .ok (.aload_n 0, 1) := by decide +kernel
theorem dX6_stretch_62 : decode cX6_stretch 62 = .ok (.getfield 94, 3) := by decide +kernel
theorem dX6_stretch_65 : decode cX6_stretch 65 = .ok (.ireturn, 1) := by decide +kernel
theorem dX6_onward_0 : decode cX6_onward 0 = .ok (.iload 4, 2) := by decide +kernel
theorem dX6_onward_2 : decode cX6_onward 2 = .ok (.ifCond .lt 48, 3) := by decide +kernel
theorem dX6_onward_5 : decode cX6_onward 5 = .ok (.iload 4, 2) := by decide +kernel
theorem dX6_onward_7 : decode cX6_onward 7 = .ok (.iload_n 2, 1) := by decide +kernel
theorem dX6_onward_8 : decode cX6_onward 8 = .ok (.iadd, 1) := by decide +kernel
theorem dX6_onward_9 : decode cX6_onward 9 = .ok (.aload_n 0, 1) := by decide +kernel
theorem dX6_onward_10 : decode cX6_onward 10 = .ok (.iload_n 3, 1) := by decide +kernel
theorem dX6_onward_11 : decode cX6_onward 11 = .ok (.invokevirtual 57, 3) := by decide +kernel
theorem dX6_onward_14 : decode cX6_onward 14 = .ok (.if_icmp .gt 36, 3) := by decide +kernel
theorem dX6_onward_17 : decode cX6_onward 17 = .ok (.aload_n 0, 1) := by decide +kernel
theorem dX6_onward_18 : decode cX6_onward 18 = .ok (.iload_n 3, 1) := by decide +kernel
theorem dX6_onward_19 : decode cX6_onward 19 = .ok (.invokevirtual 107, 3) := by decide +kernel
theorem dX6_onward_22 : decode cX6_onward 22 = .ok (.aload_n 0, 1) := by decide +kernel
theorem dX6_onward_23 : decode cX6_onward 23 = .ok (.iload_n 1, 1) := by decide +kernel
theorem dX6_onward_24 : decode cX6_onward 24 = .ok (.iconst 1, 1) := by decide +kernel
theorem dX6_onward_25 : decode cX6_onward 25 = .ok (.invokevirtual 79, 3) := by decide +kernel
theorem dX6_onward_28 : decode cX6_onward 28 = .ok (.if_icmp .lt 22, 3) := by decide +kernel
theorem dX6_onward_31 : decode cX6_onward 31 = .ok (.aload_n 0, 1) := by decide +kernel
theorem dX6_onward_32 : decode cX6_onward 32 = .ok (.getfield 9, 3) := by decide +kernel
theorem dX6_onward_35 : decode cX6_onward 35 = .ok (.iconst 3, 1) := by decide +kernel
theorem dX6_onward_36 : decode cX6_onward 36 = .ok (.iload_n 3, 1) := by decide +kernel
theorem dX6_onward_37 : decode cX6_onward 37 = .ok (.imul, 1) := by decide +kernel
theorem dX6_onward_38 : decode cX6_onward 38 = .ok (.iconst 2, 1) := by decide +kernel
theorem dX6_onward_39 : decode cX6_onward 39 = .ok (.iadd, 1) := by decide +kernel
theorem dX6_onward_40 : decode cX6_onward 40 = .ok (.iaload, 1) := by decide +kernel
theorem dX6_onward_41 : decode cX6_onward 41 = .ok (.aload_n 0, 1) := by decide +kernel
theorem dX6_onward_42 : decode cX6_onward 42 = .ok (.iload_n 1, 1) := by decide +kernel
theorem dX6_onward_43 : decode cX6_onward 43 = .ok (.iconst 2, 1) := by decide +kernel
theorem dX6_onward_44 : decode cX6_onward 44 = .ok (.invokevirtual 79, 3) := by decide +kernel
theorem dX6_onward_47 : decode cX6_onward 47 = .ok (.if_icmp .le 7, 3) := by decide +kernel
theorem dX6_onward_50 : decode cX6_onward 50 = .ok (.sipush 3000, 3) := by decide +kernel
theorem dX6_onward_53 : decode cX6_onward 53 = .ok (.ireturn, 1) := by decide +kernel
theorem dX6_onward_54 : decode cX6_onward 54 = .ok (.iconst 0, 1) := by decide +kernel
theorem dX6_onward_55 : decode cX6_onward 55 = .ok (.istore 5, 2) := by decide +kernel
theorem dX6_onward_57 : decode cX6_onward 57 = .ok (.iload 5, 2) := by decide +kernel
theorem dX6_onward_59 : decode cX6_onward 59 = .ok (.aload_n 0, 1) := by decide +kernel
theorem dX6_onward_60 : decode cX6_onward 60 = .ok (.getfield 60, 3) := by decide +kernel
theorem dX6_onward_63 : decode cX6_onward 63 = .ok (.if_icmp .ge 88, 3) := by decide +kernel
theorem dX6_onward_66 : decode cX6_onward 66 = .ok (.aload_n 0, 1) := by decide +kernel
theorem dX6_onward_67 : decode cX6_onward 67 = .ok (.getfield 13, 3) := by decide +kernel
theorem dX6_onward_70 : decode cX6_onward 70 = .ok (.iconst 4, 1) := by decide +kernel
theorem dX6_onward_71 : decode cX6_onward 71 = .ok (.iload 5, 2) := by decide +kernel
theorem dX6_onward_73 : decode cX6_onward 73 = .ok (.imul, 1) := by decide +kernel
theorem dX6_onward_74 : decode cX6_onward 74 = .ok (.iaload, 1) := by decide +kernel
theorem dX6_onward_75 : decode cX6_onward 75 = .ok (.iload_n 3, 1) := by decide +kernel
theorem dX6_onward_76 : decode cX6_onward 76 = .ok (.if_icmp .ne 69, 3) := by decide +kernel
theorem dX6_onward_79 : decode cX6_onward 79 = .ok (.aload_n 0, 1) := by decide +kernel
theorem dX6_onward_80 : decode cX6_onward 80 = .ok (.getfield 13, 3) := by decide +kernel
theorem dX6_onward_83 : decode cX6_onward 83 = .ok (.iconst 4, 1) := by decide +kernel
theorem dX6_onward_84 : decode cX6_onward 84 = .ok (.iload 5, 2) := by decide +kernel
theorem dX6_onward_86 : decode cX6_onward 86 = .ok (.imul, 1) := by decide +kernel
theorem dX6_onward_87 : decode cX6_onward 87 = .ok (.iconst 3, 1) := by decide +kernel
theorem dX6_onward_88 : decode cX6_onward 88 = .ok (.iadd, 1) := by decide +kernel
theorem dX6_onward_89 : decode cX6_onward 89 = .ok (.iaload, 1) := by decide +kernel
theorem dX6_onward_90 : decode cX6_onward 90 = .ok (.aload_n 0, 1) := by decide +kernel
theorem dX6_onward_91 : decode cX6_onward 91 = .ok (.iload_n 1, 1) := by decide +kernel
theorem dX6_onward_92 : decode cX6_onward 92 = .ok (.iconst 2, 1) := by decide +kernel
theorem dX6_onward_93 : decode cX6_onward 93 = .ok (.invokevirtual 79, 3) := by decide +kernel
theorem dX6_onward_96 : decode cX6_onward 96 = .ok (.if_icmp .le 49, 3) := by decide +kernel
theorem dX6_onward_99 : decode cX6_onward 99 = .ok (.aload_n 0, 1) := by decide +kernel
theorem dX6_onward_100 : decode cX6_onward 100 = .ok (.getfield 13, 3) := by decide +kernel
theorem dX6_onward_103 : decode cX6_onward 103 = .ok (.iconst 4, 1) := by decide +kernel
theorem dX6_onward_104 : decode cX6_onward 104 = .ok (.iload 5, 2) := by decide +kernel
theorem dX6_onward_106 : decode cX6_onward 106 = .ok (.imul, 1) := by decide +kernel
theorem dX6_onward_107 : decode cX6_onward 107 = .ok (.iconst 1, 1) := by decide +kernel
theorem dX6_onward_108 : decode cX6_onward 108 = .ok (.iadd, 1) := by decide +kernel
theorem dX6_onward_109 : decode cX6_onward 109 = .ok (.iaload, 1) := by decide +kernel
theorem dX6_onward_110 : decode cX6_onward 110 = .ok (.iload 4, 2) := by decide +kernel
theorem dX6_onward_112 : decode cX6_onward 112 = .ok (.iload_n 2, 1) := by decide +kernel
theorem dX6_onward_113 : decode cX6_onward 113 = .ok (.iadd, 1) := by decide +kernel
theorem dX6_onward_114 : decode cX6_onward 114 = .ok (.if_icmp .ge 31, 3) := by decide +kernel
theorem dX6_onward_117 : decode cX6_onward 117 = .ok (.aload_n 0, 1) := by decide +kernel
theorem dX6_onward_118 : decode cX6_onward 118 = .ok (.getfield 13, 3) := by decide +kernel
theorem dX6_onward_121 : decode cX6_onward 121 = .ok (.iconst 4, 1) := by decide +kernel
theorem dX6_onward_122 : decode cX6_onward 122 = .ok (.iload 5, 2) := by decide +kernel
theorem dX6_onward_124 : decode cX6_onward 124 = .ok (.imul, 1) := by decide +kernel
theorem dX6_onward_125 : decode cX6_onward 125 = .ok (.iconst 2, 1) := by decide +kernel
theorem dX6_onward_126 : decode cX6_onward 126 = .ok (.iadd, 1) := by decide +kernel
theorem dX6_onward_127 : decode cX6_onward 127 = .ok (.iaload, 1) := by decide +kernel
theorem dX6_onward_128 : decode cX6_onward 128 = .ok (.iload 4, 2) := by decide +kernel
theorem dX6_onward_130 : decode cX6_onward 130 = .ok (.if_icmp .le 15, 3) := by decide +kernel
theorem dX6_onward_133 : decode cX6_onward 133 = .ok (.aload_n 0, 1) := by decide +kernel
theorem dX6_onward_134 : decode cX6_onward 134 = .ok (.getfield 13, 3) := by decide +kernel
theorem dX6_onward_137 : decode cX6_onward 137 = .ok (.iconst 4, 1) := by decide +kernel
theorem dX6_onward_138 : decode cX6_onward 138 = .ok (.iload 5, 2) := by decide +kernel
theorem dX6_onward_140 : decode cX6_onward 140 = .ok (.imul, 1) := by decide +kernel
theorem dX6_onward_141 : decode cX6_onward 141 = .ok (.iconst 2, 1) := by decide +kernel
theorem dX6_onward_142 : decode cX6_onward 142 = .ok (.iadd, 1) := by decide +kernel
theorem dX6_onward_143 : decode cX6_onward 143 = .ok (.iaload, 1) := by decide +kernel
theorem dX6_onward_144 : decode cX6_onward 144 = .ok (.ireturn, 1) := by decide +kernel
theorem dX6_onward_145 : decode cX6_onward 145 = .ok (.iinc 5 1, 3) := by decide +kernel
theorem dX6_onward_148 : decode cX6_onward 148 = .ok (.goto (-91), 3) := by decide +kernel
theorem dX6_onward_151 : decode cX6_onward 151 = .ok (.iconst 0, 1) := by decide +kernel
theorem dX6_onward_152 : decode cX6_onward 152 = .ok (.istore 5, 2) := by decide +kernel
theorem dX6_onward_154 : decode cX6_onward 154 = .ok (.iload 5, 2) := by decide +kernel
theorem dX6_onward_156 : decode cX6_onward 156 = .ok (.aload_n 0, 1) := by decide +kernel
theorem dX6_onward_157 : decode cX6_onward 157 = .ok (.getfield 63, 3) := by decide +kernel
theorem dX6_onward_160 : decode cX6_onward 160 = .ok (.if_icmp .ge 65, 3) := by decide +kernel
theorem dX6_onward_163 : decode cX6_onward 163 = .ok (.aload_n 0, 1) := by decide +kernel
theorem dX6_onward_164 : decode cX6_onward 164 = .ok (.iload 5, 2) := by decide +kernel
theorem dX6_onward_166 : decode cX6_onward 166 = .ok (.iload_n 3, 1) := by decide +kernel
theorem dX6_onward_167 : decode cX6_onward 167 = .ok (.invokevirtual 66, 3) := by decide +kernel
theorem dX6_onward_170 : decode cX6_onward 170 = .ok (.ifCond .eq 49, 3) := by decide +kernel
theorem dX6_onward_173 : decode cX6_onward 173 = .ok (.aload_n 0, 1) := by decide +kernel
theorem dX6_onward_174 : decode cX6_onward 174 = .ok (.iload 5, 2) := by decide +kernel
theorem dX6_onward_176 : decode cX6_onward 176 = .ok (.invokevirtual 70, 3) := by decide +kernel
theorem dX6_onward_179 : decode cX6_onward 179 = .ok (.iload 4, 2) := by decide +kernel
theorem dX6_onward_181 : decode cX6_onward 181 = .ok (.iload_n 2, 1) := by decide +kernel
theorem dX6_onward_182 : decode cX6_onward 182 = .ok (.iadd, 1) := by decide +kernel
theorem dX6_onward_183 : decode cX6_onward 183 = .ok (.aload_n 0, 1) := by decide +kernel
theorem dX6_onward_184 : decode cX6_onward 184 = .ok (.getfield 23, 3) := by decide +kernel
theorem dX6_onward_187 : decode cX6_onward 187 = .ok (.iadd, 1) := by decide +kernel
theorem dX6_onward_188 : decode cX6_onward 188 = .ok (.if_icmp .ge 31, 3) := by decide +kernel
theorem dX6_onward_191 : decode cX6_onward 191 = .ok (.aload_n 0, 1) := by decide +kernel
theorem dX6_onward_192 : decode cX6_onward 192 = .ok (.iload 5, 2) := by decide +kernel
theorem dX6_onward_194 : decode cX6_onward 194 = .ok (.invokevirtual 73, 3) := by decide +kernel
theorem dX6_onward_197 : decode cX6_onward 197 = .ok (.aload_n 0, 1) := by decide +kernel
theorem dX6_onward_198 : decode cX6_onward 198 = .ok (.getfield 23, 3) := by decide +kernel
theorem dX6_onward_201 : decode cX6_onward 201 = .ok (.iadd, 1) := by decide +kernel
theorem dX6_onward_202 : decode cX6_onward 202 = .ok (.iload 4, 2) := by decide +kernel
theorem dX6_onward_204 : decode cX6_onward 204 = .ok (.if_icmp .le 15, 3) := by decide +kernel
theorem dX6_onward_207 : decode cX6_onward 207 = .ok (.aload_n 0, 1) := by decide +kernel
theorem dX6_onward_208 : decode cX6_onward 208 = .ok (.iload 5, 2) := by decide +kernel
theorem dX6_onward_210 : decode cX6_onward 210 = .ok (.invokevirtual 73, 3) := by decide +kernel
theorem dX6_onward_213 : decode cX6_onward 213 = .ok (.aload_n 0, 1) := by decide +kernel
theorem dX6_onward_214 : decode cX6_onward 214 = .ok (.getfield 23, 3) := by decide +kernel
theorem dX6_onward_217 : decode cX6_onward 217 = .ok (.iadd, 1) := by decide +kernel
theorem dX6_onward_218 : decode cX6_onward 218 = .ok (.ireturn, 1) := by decide +kernel
theorem dX6_onward_219 : decode cX6_onward 219 = .ok (.iinc 5 1, 3) := by decide +kernel
theorem dX6_onward_222 : decode cX6_onward 222 = .ok (.goto (-68), 3) := by decide +kernel
theorem dX6_onward_225 : decode cX6_onward 225 = .ok (.iload 4, 2) := by decide +kernel
theorem dX6_onward_227 : decode cX6_onward 227 = .ok (.ireturn, 1) := by decide +kernel
theorem dX6_isPossible_0 : decode cX6_isPossible 0 = .ok (.iload 4, 2) := by decide +kernel
theorem dX6_isPossible_2 : decode cX6_isPossible 2 = .ok (.sipush 3000, 3) := by decide +kernel
theorem dX6_isPossible_5 : decode cX6_isPossible 5 = .ok (.if_icmp .ge 21, 3) := by decide +kernel
theorem dX6_isPossible_8 : decode cX6_isPossible 8 = .ok (.aload_n 0, 1) := by decide +kernel
theorem dX6_isPossible_9 : decode cX6_isPossible 9 = .ok (.iload_n 1, 1) := by decide +kernel
theorem dX6_isPossible_10 : decode cX6_isPossible 10 = .ok (.iload_n 2, 1) := by decide +kernel
theorem dX6_isPossible_11 : decode cX6_isPossible 11 = .ok (.iload_n 3, 1) := by decide +kernel
theorem dX6_isPossible_12 : decode cX6_isPossible 12 = .ok (.iload 4, 2) := by decide +kernel
theorem dX6_isPossible_14 : decode cX6_isPossible 14 = .ok (.invokevirtual 110, 3) := by decide +kernel
theorem dX6_isPossible_17 : decode cX6_isPossible 17 = .ok (.iload 4, 2) := by decide +kernel
theorem dX6_isPossible_19 : decode cX6_isPossible 19 = .ok (.if_icmp .ne 7, 3) := by decide +kernel
theorem dX6_isPossible_22 : decode cX6_isPossible 22 = .ok (.iconst 1, 1) := by decide +kernel
theorem dX6_isPossible_23 : decode cX6_isPossible 23 = .ok (.goto 4, 3) := by decide +kernel
theorem dX6_isPossible_26 : decode cX6_isPossible 26 = .ok (.iconst 0, 1) := by decide +kernel
theorem dX6_isPossible_27 : decode cX6_isPossible 27 = .ok (.ireturn, 1) := by decide +kernel
theorem dX6_earliestOn_0 : decode cX6_earliestOn 0 = .ok (.iconst 0, 1) := by decide +kernel
theorem dX6_earliestOn_1 : decode cX6_earliestOn 1 = .ok (.istore_n 3, 1) := by decide +kernel
theorem dX6_earliestOn_2 : decode cX6_earliestOn 2 = .ok (.iload_n 3, 1) := by decide +kernel
theorem dX6_earliestOn_3 : decode cX6_earliestOn 3 = .ok (.sipush 3000, 3) := by decide +kernel
theorem dX6_earliestOn_6 : decode cX6_earliestOn 6 = .ok (.if_icmp .ge 32, 3) := by decide +kernel
theorem dX6_earliestOn_9 : decode cX6_earliestOn 9 = .ok (.aload_n 0, 1) := by decide +kernel
theorem dX6_earliestOn_10 : decode cX6_earliestOn 10 = .ok (.iload_n 1, 1) := by decide +kernel
theorem dX6_earliestOn_11 : decode cX6_earliestOn 11 = .ok (.aload_n 0, 1) := by decide +kernel
theorem dX6_earliestOn_12 : decode cX6_earliestOn 12 = .ok (.iload_n 1, 1) := by decide +kernel
theorem dX6_earliestOn_13 : decode cX6_earliestOn 13 = .ok (.iconst 0, 1) := by decide +kernel
theorem dX6_earliestOn_14 : decode cX6_earliestOn 14 = .ok (.invokevirtual 79, 3) := by decide +kernel
theorem dX6_earliestOn_17 : decode cX6_earliestOn 17 = .ok (.iload_n 2, 1) := by decide +kernel
theorem dX6_earliestOn_18 : decode cX6_earliestOn 18 = .ok (.iload_n 3, 1) := by decide +kernel
theorem dX6_earliestOn_19 : decode cX6_earliestOn 19 = .ok (.invokevirtual 110, 3) := by decide +kernel
theorem dX6_earliestOn_22 : decode cX6_earliestOn 22 = .ok (.istore 4, 2) := by decide +kernel
theorem dX6_earliestOn_24 : decode cX6_earliestOn 24 = .ok (.iload 4, 2) := by decide +kernel
theorem dX6_earliestOn_26 : decode cX6_earliestOn 26 = .ok (.iload_n 3, 1) := by decide +kernel
theorem dX6_earliestOn_27 : decode cX6_earliestOn 27 = .ok (.if_icmp .ne 5, 3) := by decide +kernel
theorem dX6_earliestOn_30 : decode cX6_earliestOn 30 = .ok (.iload_n 3, 1) := by decide +kernel
theorem dX6_earliestOn_31 : decode cX6_earliestOn 31 = .ok (.ireturn, 1) := by decide +kernel
theorem dX6_earliestOn_32 : decode cX6_earliestOn 32 = .ok (.iload 4, 2) := by decide +kernel
theorem dX6_earliestOn_34 : decode cX6_earliestOn 34 = .ok (.istore_n 3, 1) := by decide +kernel
theorem dX6_earliestOn_35 : decode cX6_earliestOn 35 = .ok (.goto (-33), 3) := by decide +kernel
theorem dX6_earliestOn_38 : decode cX6_earliestOn 38 = .ok (.iconst (-1), 1) := by decide +kernel
theorem dX6_earliestOn_39 : decode cX6_earliestOn 39 = .ok (.ireturn, 1) := by decide +kernel
theorem dX6_fits_0 : decode cX6_fits 0 = .ok (.aload_n 0, 1) := by decide +kernel
theorem dX6_fits_1 : decode cX6_fits 1 = .ok (.aload_n 0, 1) := by decide +kernel
theorem dX6_fits_2 : decode cX6_fits 2 = .ok (.iload_n 1, 1) := by decide +kernel
theorem dX6_fits_3 : decode cX6_fits 3 = .ok (.invokevirtual 114, 3) := by decide +kernel
theorem dX6_fits_6 : decode cX6_fits 6 = .ok (.ifCond .eq 15, 3) := by decide +kernel
theorem dX6_fits_9 : decode cX6_fits 9 = .ok (.aload_n 0, 1) := by decide +kernel
theorem dX6_fits_10 : decode cX6_fits 10 = .ok (.iload_n 2, 1) := by decide +kernel
theorem dX6_fits_11 : decode cX6_fits 11 = .ok (.invokevirtual 53, 3) := by decide +kernel
theorem dX6_fits_14 : decode cX6_fits 14 = .ok (.ifCond .eq 7, 3) := by decide +kernel
theorem dX6_fits_17 : decode cX6_fits 17 = .ok (.iconst 0, 1) := by decide +kernel
theorem dX6_fits_18 : decode cX6_fits 18 = .ok (.goto 4, 3) := by decide +kernel
theorem dX6_fits_21 : decode cX6_fits 21 = .ok (.iconst 1, 1) := by decide +kernel
theorem dX6_fits_22 : decode cX6_fits 22 = .ok (.putfield 36, 3) := by decide +kernel
theorem dX6_fits_25 : decode cX6_fits 25 = .ok (.aload_n 0, 1) := by decide +kernel
theorem dX6_fits_26 : decode cX6_fits 26 = .ok (.getfield 36, 3) := by decide +kernel
theorem dX6_fits_29 : decode cX6_fits 29 = .ok (.ifCond .ne 34, 3) := by decide +kernel
theorem dX6_fits_32 : decode cX6_fits 32 = .ok (.iload_n 3, 1) := by decide +kernel
theorem dX6_fits_33 : decode cX6_fits 33 = .ok (.iconst 0, 1) := by decide +kernel
theorem dX6_fits_34 : decode cX6_fits 34 = .ok (.sipush 3000, 3) := by decide +kernel
theorem dX6_fits_37 : decode cX6_fits 37 = .ok (.invokestatic 42, 3) := by decide +kernel
theorem dX6_fits_40 : decode cX6_fits 40 = .ok (.ifCond .eq 23, 3) := by decide +kernel
theorem dX6_fits_43 : decode cX6_fits 43 = .ok (.aload_n 0, 1) := by decide +kernel
theorem dX6_fits_44 : decode cX6_fits 44 = .ok (.iload_n 1, 1) := by decide +kernel
theorem dX6_fits_45 : decode cX6_fits 45 = .ok (.aload_n 0, 1) := by decide +kernel
theorem dX6_fits_46 : decode cX6_fits 46 = .ok (.iload_n 1, 1) := by decide +kernel
theorem dX6_fits_47 : decode cX6_fits 47 = .ok (.iconst 0, 1) := by decide +kernel
theorem dX6_fits_48 : decode cX6_fits 48 = .ok (.invokevirtual 79, 3) := by decide +kernel
theorem dX6_fits_51 : decode cX6_fits 51 = .ok (.iload_n 2, 1) := by decide +kernel
theorem dX6_fits_52 : decode cX6_fits 52 = .ok (.iload_n 3, 1) := by decide +kernel
theorem dX6_fits_53 : decode cX6_fits 53 = .ok (.invokevirtual 117, 3) := by decide +kernel
theorem dX6_fits_56 : decode cX6_fits 56 = .ok (.ifCond .eq 7, 3) := by decide +kernel
theorem dX6_fits_59 : decode cX6_fits 59 = .ok (.iconst 1, 1) := by decide +kernel
theorem dX6_fits_60 : decode cX6_fits 60 = .ok (.goto 4, 3) := by decide +kernel
theorem dX6_fits_63 : decode cX6_fits 63 = .ok (.iconst 0, 1) := by decide +kernel
theorem dX6_fits_64 : decode cX6_fits 64 = .ok (.ireturn, 1) := by decide +kernel
theorem dX6_earliest_0 : decode cX6_earliest 0 = .ok (.aload_n 0, 1) := by decide +kernel
theorem dX6_earliest_1 : decode cX6_earliest 1 = .ok (.iconst 0, 1) := by decide +kernel
theorem dX6_earliest_2 : decode cX6_earliest 2 = .ok (.putfield 36, 3) := by decide +kernel
theorem dX6_earliest_5 : decode cX6_earliest 5 = .ok (.aload_n 0, 1) := by decide +kernel
theorem dX6_earliest_6 : decode cX6_earliest 6 = .ok (.iload_n 1, 1) := by decide +kernel
theorem dX6_earliest_7 : decode cX6_earliest 7 = .ok (.invokevirtual 114, 3) := by decide +kernel
theorem dX6_earliest_10 : decode cX6_earliest 10 = .ok (.ifCond .eq 20, 3) := by decide +kernel
theorem dX6_earliest_13 : decode cX6_earliest 13 = .ok (.aload_n 0, 1) := by decide +kernel
theorem dX6_earliest_14 : decode cX6_earliest 14 = .ok (.iload_n 2, 1) := by decide +kernel
theorem dX6_earliest_15 : decode cX6_earliest 15 = .ok (.invokevirtual 53, 3) := by decide +kernel
theorem dX6_earliest_18 : decode cX6_earliest 18 = .ok (.ifCond .eq 12, 3) := by decide +kernel
theorem dX6_earliest_21 : decode cX6_earliest 21 = .ok (.aload_n 0, 1) := by decide +kernel
theorem dX6_earliest_22 : decode cX6_earliest 22 = .ok (.iload_n 1, 1) := by decide +kernel
theorem dX6_earliest_23 : decode cX6_earliest 23 = .ok (.iload_n 2, 1) := by decide +kernel
theorem dX6_earliest_24 : decode cX6_earliest 24 = .ok (.invokevirtual 121, 3) := by decide +kernel
theorem dX6_earliest_27 : decode cX6_earliest 27 = .ok (.goto 8, 3) := by decide +kernel
theorem dX6_earliest_30 : decode cX6_earliest 30 = .ok (.aload_n 0, 1) := by decide +kernel
theorem dX6_earliest_31 : decode cX6_earliest 31 = .ok (.iconst 1, 1) := by decide +kernel
theorem dX6_earliest_32 : decode cX6_earliest 32 = .ok (.invokevirtual 49, 3) := by decide +kernel
theorem dX6_earliest_35 : decode cX6_earliest 35 = .ok (.ireturn, 1) := by decide +kernel
theorem dX6_add_0 : decode cX6_add 0 = .ok (.aload_n 0, 1) := by decide +kernel
theorem dX6_add_1 : decode cX6_add 1 = .ok (.getfield 30, 3) := by decide +kernel
theorem dX6_add_4 : decode cX6_add 4 = .ok (.iconst 4, 1) := by decide +kernel
theorem dX6_add_5 : decode cX6_add 5 = .ok (.aload_n 0, 1) := by decide +kernel
theorem dX6_add_6 : decode cX6_add 6 = .ok (.getfield 63, 3) := by decide +kernel
theorem dX6_add_9 : decode cX6_add 9 = .ok (.imul, 1) := by decide +kernel
theorem dX6_add_10 : decode cX6_add 10 = .ok (.iload_n 2, 1) := by decide +kernel
theorem dX6_add_11 : decode cX6_add 11 = .ok (.iastore, 1) := by decide +kernel
theorem dX6_add_12 : decode cX6_add 12 = .ok (.aload_n 0, 1) := by decide +kernel
theorem dX6_add_13 : decode cX6_add 13 = .ok (.getfield 30, 3) := by decide +kernel
theorem dX6_add_16 : decode cX6_add 16 = .ok (.iconst 4, 1) := by decide +kernel
theorem dX6_add_17 : decode cX6_add 17 = .ok (.aload_n 0, 1) := by decide +kernel
theorem dX6_add_18 : decode cX6_add 18 = .ok (.getfield 63, 3) := by decide +kernel
theorem dX6_add_21 : decode cX6_add 21 = .ok (.imul, 1) := by decide +kernel
theorem dX6_add_22 : decode cX6_add 22 = .ok (.iconst 1, 1) := by decide +kernel
theorem dX6_add_23 : decode cX6_add 23 = .ok (.iadd, 1) := by decide +kernel
theorem dX6_add_24 : decode cX6_add 24 = .ok (.iload_n 3, 1) := by decide +kernel
theorem dX6_add_25 : decode cX6_add 25 = .ok (.iastore, 1) := by decide +kernel
theorem dX6_add_26 : decode cX6_add 26 = .ok (.aload_n 0, 1) := by decide +kernel
theorem dX6_add_27 : decode cX6_add 27 = .ok (.getfield 30, 3) := by decide +kernel
theorem dX6_add_30 : decode cX6_add 30 = .ok (.iconst 4, 1) := by decide +kernel
theorem dX6_add_31 : decode cX6_add 31 = .ok (.aload_n 0, 1) := by decide +kernel
theorem dX6_add_32 : decode cX6_add 32 = .ok (.getfield 63, 3) := by decide +kernel
theorem dX6_add_35 : decode cX6_add 35 = .ok (.imul, 1) := by decide +kernel
theorem dX6_add_36 : decode cX6_add 36 = .ok (.iconst 2, 1) := by decide +kernel
theorem dX6_add_37 : decode cX6_add 37 = .ok (.iadd, 1) := by decide +kernel
theorem dX6_add_38 : decode cX6_add 38 = .ok (.iload_n 3, 1) := by decide +kernel
theorem dX6_add_39 : decode cX6_add 39 = .ok (.iload 4, 2) := by decide +kernel
theorem dX6_add_41 : decode cX6_add 41 = .ok (.iadd, 1) := by decide +kernel
theorem dX6_add_42 : decode cX6_add 42 = .ok (.iastore, 1) := by decide +kernel
theorem dX6_add_43 : decode cX6_add 43 = .ok (.aload_n 0, 1) := by decide +kernel
theorem dX6_add_44 : decode cX6_add 44 = .ok (.getfield 30, 3) := by decide +kernel
theorem dX6_add_47 : decode cX6_add 47 = .ok (.iconst 4, 1) := by decide +kernel
theorem dX6_add_48 : decode cX6_add 48 = .ok (.aload_n 0, 1) := by decide +kernel
theorem dX6_add_49 : decode cX6_add 49 = .ok (.getfield 63, 3) := by decide +kernel
theorem dX6_add_52 : decode cX6_add 52 = .ok (.imul, 1) := by decide +kernel
theorem dX6_add_53 : decode cX6_add 53 = .ok (.iconst 3, 1) := by decide +kernel
theorem dX6_add_54 : decode cX6_add 54 = .ok (.iadd, 1) := by decide +kernel
theorem dX6_add_55 : decode cX6_add 55 = .ok (.iload_n 1, 1) := by decide +kernel
theorem dX6_add_56 : decode cX6_add 56 = .ok (.iastore, 1) := by decide +kernel
theorem dX6_add_57 : decode cX6_add 57 = .ok (.aload_n 0, 1) := by decide +kernel
theorem dX6_add_58 : decode cX6_add 58 = .ok (.getfield 33, 3) := by decide +kernel
theorem dX6_add_61 : decode cX6_add 61 = .ok (.aload_n 0, 1) := by decide +kernel
theorem dX6_add_62 : decode cX6_add 62 = .ok (.getfield 63, 3) := by decide +kernel
theorem dX6_add_65 : decode cX6_add 65 = .ok (.iload 5, 2) := by decide +kernel
theorem dX6_add_67 : decode cX6_add 67 = .ok (.bastore, 1) := by decide +kernel
theorem dX6_add_68 : decode cX6_add 68 = .ok (.aload_n 0, 1) := by decide +kernel
theorem dX6_add_69 : decode cX6_add 69 = .ok (.dup, 1) := by decide +kernel
theorem dX6_add_70 : decode cX6_add 70 = .ok (.getfield 63, 3) := by decide +kernel
theorem dX6_add_73 : decode cX6_add 73 = .ok (.iconst 1, 1) := by decide +kernel
theorem dX6_add_74 : decode cX6_add 74 = .ok (.iadd, 1) := by decide +kernel
theorem dX6_add_75 : decode cX6_add 75 = .ok (.putfield 63, 3) := by decide +kernel
theorem dX6_add_78 : decode cX6_add 78 = .ok (.return_, 1) := by decide +kernel
theorem dX6_lessLeft_0 : decode cX6_lessLeft 0 = .ok (.aload_n 0, 1) := by decide +kernel
theorem dX6_lessLeft_1 : decode cX6_lessLeft 1 = .ok (.getfield 16, 3) := by decide +kernel
theorem dX6_lessLeft_4 : decode cX6_lessLeft 4 = .ok (.iconst 4, 1) := by decide +kernel
theorem dX6_lessLeft_5 : decode cX6_lessLeft 5 = .ok (.iload_n 1, 1) := by decide +kernel
theorem dX6_lessLeft_6 : decode cX6_lessLeft 6 = .ok (.imul, 1) := by decide +kernel
theorem dX6_lessLeft_7 : decode cX6_lessLeft 7 = .ok (.iconst 3, 1) := by decide +kernel
theorem dX6_lessLeft_8 : decode cX6_lessLeft 8 = .ok (.iadd, 1) := by decide +kernel
theorem dX6_lessLeft_9 : decode cX6_lessLeft 9 = .ok (.dup2, 1) := by decide +kernel
theorem dX6_lessLeft_10 : decode cX6_lessLeft 10 = .ok (.iaload, 1) := by decide +kernel
theorem dX6_lessLeft_11 : decode cX6_lessLeft 11 = .ok (.iconst 1, 1) := by decide +kernel
theorem dX6_lessLeft_12 : decode cX6_lessLeft 12 = .ok (.isub, 1) := by decide +kernel
theorem dX6_lessLeft_13 : decode cX6_lessLeft 13 = .ok (.iastore, 1) := by decide +kernel
theorem dX6_lessLeft_14 : decode cX6_lessLeft 14 = .ok (.aload_n 0, 1) := by decide +kernel
theorem dX6_lessLeft_15 : decode cX6_lessLeft 15 = .ok (.getfield 16, 3) := by decide +kernel
theorem dX6_lessLeft_18 : decode cX6_lessLeft 18 = .ok (.iconst 4, 1) := by decide +kernel
theorem dX6_lessLeft_19 : decode cX6_lessLeft 19 = .ok (.iload_n 1, 1) := by decide +kernel
theorem dX6_lessLeft_20 : decode cX6_lessLeft 20 = .ok (.imul, 1) := by decide +kernel
theorem dX6_lessLeft_21 : decode cX6_lessLeft 21 = .ok (.iconst 3, 1) := by decide +kernel
theorem dX6_lessLeft_22 : decode cX6_lessLeft 22 = .ok (.iadd, 1) := by decide +kernel
theorem dX6_lessLeft_23 : decode cX6_lessLeft 23 = .ok (.iaload, 1) := by decide +kernel
theorem dX6_lessLeft_24 : decode cX6_lessLeft 24 = .ok (.ireturn, 1) := by decide +kernel
theorem dX6_cut_0 : decode cX6_cut 0 = .ok (.aload_n 0, 1) := by decide +kernel
theorem dX6_cut_1 : decode cX6_cut 1 = .ok (.iconst 0, 1) := by decide +kernel
theorem dX6_cut_2 : decode cX6_cut 2 = .ok (.putfield 36, 3) := by decide +kernel
theorem dX6_cut_5 : decode cX6_cut 5 = .ok (.aload_n 0, 1) := by decide +kernel
theorem dX6_cut_6 : decode cX6_cut 6 = .ok (.iload_n 1, 1) := by decide +kernel
theorem dX6_cut_7 : decode cX6_cut 7 = .ok (.invokevirtual 114, 3) := by decide +kernel
theorem dX6_cut_10 : decode cX6_cut 10 = .ok (.ifCond .eq 11, 3) := by decide +kernel
theorem dX6_cut_13 : decode cX6_cut 13 = .ok (.aload_n 0, 1) := by decide +kernel
theorem dX6_cut_14 : decode cX6_cut 14 = .ok (.iload_n 2, 1) := by decide +kernel
theorem dX6_cut_15 : decode cX6_cut 15 = .ok (.invokevirtual 53, 3) := by decide +kernel
theorem dX6_cut_18 : decode cX6_cut 18 = .ok (.ifCond .ne 9, 3) := by decide +kernel
theorem dX6_cut_21 : decode cX6_cut 21 = .ok (.aload_n 0, 1) := by decide +kernel
theorem dX6_cut_22 : decode cX6_cut 22 = .ok (.iconst 1, 1) := by decide +kernel
theorem dX6_cut_23 : decode cX6_cut 23 = .ok (.invokevirtual 49, 3) := by decide +kernel
theorem dX6_cut_26 : decode cX6_cut 26 = .ok (.ireturn, 1) := by decide +kernel
theorem dX6_cut_27 : decode cX6_cut 27 = .ok (.aload_n 0, 1) := by decide +kernel
theorem dX6_cut_28 : decode cX6_cut 28 = .ok (.iload_n 1, 1) := by decide +kernel
theorem dX6_cut_29 : decode cX6_cut 29 = .ok (.iconst 3, 1) := by decide +kernel
theorem dX6_cut_30 : decode cX6_cut 30 = .ok (.invokevirtual 79, 3) := by decide +kernel
theorem dX6_cut_33 : decode cX6_cut 33 = .ok (.ifCond .eq 30, 3) := by decide +kernel
theorem dX6_cut_36 : decode cX6_cut 36 = .ok (.iload_n 3, 1) := by decide +kernel
theorem dX6_cut_37 : decode cX6_cut 37 = .ok (.iconst 0, 1) := by decide +kernel
theorem dX6_cut_38 : decode cX6_cut 38 = .ok (.sipush 3000, 3) := by decide +kernel
theorem dX6_cut_41 : decode cX6_cut 41 = .ok (.invokestatic 42, 3) := by decide +kernel
theorem dX6_cut_44 : decode cX6_cut 44 = .ok (.ifCond .eq 19, 3) := by decide +kernel
theorem dX6_cut_47 : decode cX6_cut 47 = .ok (.aload_n 0, 1) := by decide +kernel
theorem dX6_cut_48 : decode cX6_cut 48 = .ok (.iload_n 1, 1) := by decide +kernel
theorem dX6_cut_49 : decode cX6_cut 49 = .ok (.aload_n 0, 1) := by decide +kernel
theorem dX6_cut_50 : decode cX6_cut 50 = .ok (.iload_n 1, 1) := by decide +kernel
theorem dX6_cut_51 : decode cX6_cut 51 = .ok (.iconst 0, 1) := by decide +kernel
theorem dX6_cut_52 : decode cX6_cut 52 = .ok (.invokevirtual 79, 3) := by decide +kernel
theorem dX6_cut_55 : decode cX6_cut 55 = .ok (.iload_n 2, 1) := by decide +kernel
theorem dX6_cut_56 : decode cX6_cut 56 = .ok (.iload_n 3, 1) := by decide +kernel
theorem dX6_cut_57 : decode cX6_cut 57 = .ok (.invokevirtual 117, 3) := by decide +kernel
theorem dX6_cut_60 : decode cX6_cut 60 = .ok (.ifCond .ne 9, 3) := by decide +kernel
theorem dX6_cut_63 : decode cX6_cut 63 = .ok (.aload_n 0, 1) := by decide +kernel
theorem dX6_cut_64 : decode cX6_cut 64 = .ok (.iconst 2, 1) := by decide +kernel
theorem dX6_cut_65 : decode cX6_cut 65 = .ok (.invokevirtual 49, 3) := by decide +kernel
theorem dX6_cut_68 : decode cX6_cut 68 = .ok (.ireturn, 1) := by decide +kernel
theorem dX6_cut_69 : decode cX6_cut 69 = .ok (.aload_n 0, 1) := by decide +kernel
theorem dX6_cut_70 : decode cX6_cut 70 = .ok (.iload_n 1, 1) := by decide +kernel
theorem dX6_cut_71 : decode cX6_cut 71 = .ok (.iload_n 2, 1) := by decide +kernel
theorem dX6_cut_72 : decode cX6_cut 72 = .ok (.iload_n 3, 1) := by decide +kernel
theorem dX6_cut_73 : decode cX6_cut 73 = .ok (.aload_n 0, 1) := by decide +kernel
theorem dX6_cut_74 : decode cX6_cut 74 = .ok (.iload_n 1, 1) := by decide +kernel
theorem dX6_cut_75 : decode cX6_cut 75 = .ok (.iconst 0, 1) := by decide +kernel
theorem dX6_cut_76 : decode cX6_cut 76 = .ok (.invokevirtual 79, 3) := by decide +kernel
theorem dX6_cut_79 : decode cX6_cut 79 = .ok (.iconst 0, 1) := by decide +kernel
theorem dX6_cut_80 : decode cX6_cut 80 = .ok (.invokevirtual 124, 3) := by decide +kernel
theorem dX6_cut_83 : decode cX6_cut 83 = .ok (.aload_n 0, 1) := by decide +kernel
theorem dX6_cut_84 : decode cX6_cut 84 = .ok (.iload_n 1, 1) := by decide +kernel
theorem dX6_cut_85 : decode cX6_cut 85 = .ok (.invokevirtual 128, 3) := by decide +kernel
theorem dX6_cut_88 : decode cX6_cut 88 = .ok (.ireturn, 1) := by decide +kernel
theorem dX6_join_0 : decode cX6_join 0 = .ok (.aload_n 0, 1) := by decide +kernel
theorem dX6_join_1 : decode cX6_join 1 = .ok (.iconst 0, 1) := by decide +kernel
theorem dX6_join_2 : decode cX6_join 2 = .ok (.putfield 36, 3) := by decide +kernel
theorem dX6_join_5 : decode cX6_join 5 = .ok (.aload_n 0, 1) := by decide +kernel
theorem dX6_join_6 : decode cX6_join 6 = .ok (.iload_n 1, 1) := by decide +kernel
theorem dX6_join_7 : decode cX6_join 7 = .ok (.invokevirtual 114, 3) := by decide +kernel
theorem dX6_join_10 : decode cX6_join 10 = .ok (.ifCond .eq 20, 3) := by decide +kernel
theorem dX6_join_13 : decode cX6_join 13 = .ok (.aload_n 0, 1) := by decide +kernel
theorem dX6_join_14 : decode cX6_join 14 = .ok (.iload_n 2, 1) := by decide +kernel
theorem dX6_join_15 : decode cX6_join 15 = .ok (.invokevirtual 53, 3) := by decide +kernel
theorem dX6_join_18 : decode cX6_join 18 = .ok (.ifCond .eq 12, 3) := by decide +kernel
theorem dX6_join_21 : decode cX6_join 21 = .ok (.aload_n 0, 1) := by decide +kernel
theorem dX6_join_22 : decode cX6_join 22 = .ok (.iload 5, 2) := by decide +kernel
theorem dX6_join_24 : decode cX6_join 24 = .ok (.invokevirtual 53, 3) := by decide +kernel
theorem dX6_join_27 : decode cX6_join 27 = .ok (.ifCond .ne 9, 3) := by decide +kernel
theorem dX6_join_30 : decode cX6_join 30 = .ok (.aload_n 0, 1) := by decide +kernel
theorem dX6_join_31 : decode cX6_join 31 = .ok (.iconst 1, 1) := by decide +kernel
theorem dX6_join_32 : decode cX6_join 32 = .ok (.invokevirtual 49, 3) := by decide +kernel
theorem dX6_join_35 : decode cX6_join 35 = .ok (.ireturn, 1) := by decide +kernel
theorem dX6_join_36 : decode cX6_join 36 = .ok (.iload 4, 2) := by decide +kernel
theorem dX6_join_38 : decode cX6_join 38 = .ok (.bipush 50, 2) := by decide +kernel
theorem dX6_join_40 : decode cX6_join 40 = .ok (.if_icmp .lt 22, 3) := by decide +kernel
theorem dX6_join_43 : decode cX6_join 43 = .ok (.iload 4, 2) := by decide +kernel
theorem dX6_join_45 : decode cX6_join 45 = .ok (.aload_n 0, 1) := by decide +kernel
theorem dX6_join_46 : decode cX6_join 46 = .ok (.iload_n 1, 1) := by decide +kernel
theorem dX6_join_47 : decode cX6_join 47 = .ok (.iconst 0, 1) := by decide +kernel
theorem dX6_join_48 : decode cX6_join 48 = .ok (.invokevirtual 79, 3) := by decide +kernel
theorem dX6_join_51 : decode cX6_join 51 = .ok (.aload_n 0, 1) := by decide +kernel
theorem dX6_join_52 : decode cX6_join 52 = .ok (.getfield 27, 3) := by decide +kernel
theorem dX6_join_55 : decode cX6_join 55 = .ok (.iadd, 1) := by decide +kernel
theorem dX6_join_56 : decode cX6_join 56 = .ok (.bipush 50, 2) := by decide +kernel
theorem dX6_join_58 : decode cX6_join 58 = .ok (.isub, 1) := by decide +kernel
theorem dX6_join_59 : decode cX6_join 59 = .ok (.if_icmp .le 9, 3) := by decide +kernel
theorem dX6_join_62 : decode cX6_join 62 = .ok (.aload_n 0, 1) := by decide +kernel
theorem dX6_join_63 : decode cX6_join 63 = .ok (.iconst 2, 1) := by decide +kernel
theorem dX6_join_64 : decode cX6_join 64 = .ok (.invokevirtual 49, 3) := by decide +kernel
theorem dX6_join_67 : decode cX6_join 67 = .ok (.ireturn, 1) := by decide +kernel
theorem dX6_join_68 : decode cX6_join 68 = .ok (.aload_n 0, 1) := by decide +kernel
theorem dX6_join_69 : decode cX6_join 69 = .ok (.iload_n 1, 1) := by decide +kernel
theorem dX6_join_70 : decode cX6_join 70 = .ok (.iconst 0, 1) := by decide +kernel
theorem dX6_join_71 : decode cX6_join 71 = .ok (.invokevirtual 79, 3) := by decide +kernel
theorem dX6_join_74 : decode cX6_join 74 = .ok (.aload_n 0, 1) := by decide +kernel
theorem dX6_join_75 : decode cX6_join 75 = .ok (.getfield 27, 3) := by decide +kernel
theorem dX6_join_78 : decode cX6_join 78 = .ok (.iadd, 1) := by decide +kernel
theorem dX6_join_79 : decode cX6_join 79 = .ok (.iload 4, 2) := by decide +kernel
theorem dX6_join_81 : decode cX6_join 81 = .ok (.isub, 1) := by decide +kernel
theorem dX6_join_82 : decode cX6_join 82 = .ok (.istore 7, 2) := by decide +kernel
theorem dX6_join_84 : decode cX6_join 84 = .ok (.aload_n 0, 1) := by decide +kernel
theorem dX6_join_85 : decode cX6_join 85 = .ok (.iload_n 1, 1) := by decide +kernel
theorem dX6_join_86 : decode cX6_join 86 = .ok (.iconst 3, 1) := by decide +kernel
theorem dX6_join_87 : decode cX6_join 87 = .ok (.invokevirtual 79, 3) := by decide +kernel
theorem dX6_join_90 : decode cX6_join 90 = .ok (.ifCond .eq 47, 3) := by decide +kernel
theorem dX6_join_93 : decode cX6_join 93 = .ok (.aload_n 0, 1) := by decide +kernel
theorem dX6_join_94 : decode cX6_join 94 = .ok (.getfield 19, 3) := by decide +kernel
theorem dX6_join_97 : decode cX6_join 97 = .ok (.iload_n 1, 1) := by decide +kernel
theorem dX6_join_98 : decode cX6_join 98 = .ok (.baload, 1) := by decide +kernel
theorem dX6_join_99 : decode cX6_join 99 = .ok (.ifCond .eq 38, 3) := by decide +kernel
theorem dX6_join_102 : decode cX6_join 102 = .ok (.iload_n 3, 1) := by decide +kernel
theorem dX6_join_103 : decode cX6_join 103 = .ok (.iconst 0, 1) := by decide +kernel
theorem dX6_join_104 : decode cX6_join 104 = .ok (.sipush 3000, 3) := by decide +kernel
theorem dX6_join_107 : decode cX6_join 107 = .ok (.invokestatic 42, 3) := by decide +kernel
theorem dX6_join_110 : decode cX6_join 110 = .ok (.ifCond .eq 27, 3) := by decide +kernel
theorem dX6_join_113 : decode cX6_join 113 = .ok (.iload 6, 2) := by decide +kernel
theorem dX6_join_115 : decode cX6_join 115 = .ok (.iconst 0, 1) := by decide +kernel
theorem dX6_join_116 : decode cX6_join 116 = .ok (.sipush 3000, 3) := by decide +kernel
theorem dX6_join_119 : decode cX6_join 119 = .ok (.invokestatic 42, 3) := by decide +kernel
theorem dX6_join_122 : decode cX6_join 122 = .ok (.ifCond .eq 15, 3) := by decide +kernel
theorem dX6_join_125 : decode cX6_join 125 = .ok (.aload_n 0, 1) := by decide +kernel
theorem dX6_join_126 : decode cX6_join 126 = .ok (.iload_n 1, 1) := by decide +kernel
theorem dX6_join_127 : decode cX6_join 127 = .ok (.iload 4, 2) := by decide +kernel
theorem dX6_join_129 : decode cX6_join 129 = .ok (.iload_n 2, 1) := by decide +kernel
theorem dX6_join_130 : decode cX6_join 130 = .ok (.iload_n 3, 1) := by decide +kernel
theorem dX6_join_131 : decode cX6_join 131 = .ok (.invokevirtual 117, 3) := by decide +kernel
theorem dX6_join_134 : decode cX6_join 134 = .ok (.ifCond .ne 9, 3) := by decide +kernel
theorem dX6_join_137 : decode cX6_join 137 = .ok (.aload_n 0, 1) := by decide +kernel
theorem dX6_join_138 : decode cX6_join 138 = .ok (.iconst 3, 1) := by decide +kernel
theorem dX6_join_139 : decode cX6_join 139 = .ok (.invokevirtual 49, 3) := by decide +kernel
theorem dX6_join_142 : decode cX6_join 142 = .ok (.ireturn, 1) := by decide +kernel
theorem dX6_join_143 : decode cX6_join 143 = .ok (.aload_n 0, 1) := by decide +kernel
theorem dX6_join_144 : decode cX6_join 144 = .ok (.iload_n 1, 1) := by decide +kernel
theorem dX6_join_145 : decode cX6_join 145 = .ok (.iload_n 2, 1) := by decide +kernel
theorem dX6_join_146 : decode cX6_join 146 = .ok (.iload_n 3, 1) := by decide +kernel
theorem dX6_join_147 : decode cX6_join 147 = .ok (.iload 4, 2) := by decide +kernel
theorem dX6_join_149 : decode cX6_join 149 = .ok (.iconst 1, 1) := by decide +kernel
theorem dX6_join_150 : decode cX6_join 150 = .ok (.invokevirtual 124, 3) := by decide +kernel
theorem dX6_join_153 : decode cX6_join 153 = .ok (.aload_n 0, 1) := by decide +kernel
theorem dX6_join_154 : decode cX6_join 154 = .ok (.iload_n 1, 1) := by decide +kernel
theorem dX6_join_155 : decode cX6_join 155 = .ok (.iload 7, 2) := by decide +kernel
theorem dX6_join_157 : decode cX6_join 157 = .ok (.iload 5, 2) := by decide +kernel
theorem dX6_join_159 : decode cX6_join 159 = .ok (.iload 6, 2) := by decide +kernel
theorem dX6_join_161 : decode cX6_join 161 = .ok (.invokevirtual 117, 3) := by decide +kernel
theorem dX6_join_164 : decode cX6_join 164 = .ok (.ifCond .ne 19, 3) := by decide +kernel
theorem dX6_join_167 : decode cX6_join 167 = .ok (.aload_n 0, 1) := by decide +kernel
theorem dX6_join_168 : decode cX6_join 168 = .ok (.dup, 1) := by decide +kernel
theorem dX6_join_169 : decode cX6_join 169 = .ok (.getfield 63, 3) := by decide +kernel
theorem dX6_join_172 : decode cX6_join 172 = .ok (.iconst 1, 1) := by decide +kernel
theorem dX6_join_173 : decode cX6_join 173 = .ok (.isub, 1) := by decide +kernel
theorem dX6_join_174 : decode cX6_join 174 = .ok (.putfield 63, 3) := by decide +kernel
theorem dX6_join_177 : decode cX6_join 177 = .ok (.aload_n 0, 1) := by decide +kernel
theorem dX6_join_178 : decode cX6_join 178 = .ok (.iconst 3, 1) := by decide +kernel
theorem dX6_join_179 : decode cX6_join 179 = .ok (.invokevirtual 49, 3) := by decide +kernel
theorem dX6_join_182 : decode cX6_join 182 = .ok (.ireturn, 1) := by decide +kernel
theorem dX6_join_183 : decode cX6_join 183 = .ok (.aload_n 0, 1) := by decide +kernel
theorem dX6_join_184 : decode cX6_join 184 = .ok (.iload_n 1, 1) := by decide +kernel
theorem dX6_join_185 : decode cX6_join 185 = .ok (.iload 5, 2) := by decide +kernel
theorem dX6_join_187 : decode cX6_join 187 = .ok (.iload 6, 2) := by decide +kernel
theorem dX6_join_189 : decode cX6_join 189 = .ok (.iload 7, 2) := by decide +kernel
theorem dX6_join_191 : decode cX6_join 191 = .ok (.iconst 1, 1) := by decide +kernel
theorem dX6_join_192 : decode cX6_join 192 = .ok (.invokevirtual 124, 3) := by decide +kernel
theorem dX6_join_195 : decode cX6_join 195 = .ok (.aload_n 0, 1) := by decide +kernel
theorem dX6_join_196 : decode cX6_join 196 = .ok (.iload_n 1, 1) := by decide +kernel
theorem dX6_join_197 : decode cX6_join 197 = .ok (.invokevirtual 128, 3) := by decide +kernel
theorem dX6_join_200 : decode cX6_join 200 = .ok (.ireturn, 1) := by decide +kernel
theorem dX6_undo_0 : decode cX6_undo 0 = .ok (.aload_n 0, 1) := by decide +kernel
theorem dX6_undo_1 : decode cX6_undo 1 = .ok (.iconst 0, 1) := by decide +kernel
theorem dX6_undo_2 : decode cX6_undo 2 = .ok (.putfield 36, 3) := by decide +kernel
theorem dX6_undo_5 : decode cX6_undo 5 = .ok (.aload_n 0, 1) := by decide +kernel
theorem dX6_undo_6 : decode cX6_undo 6 = .ok (.getfield 63, 3) := by decide +kernel
theorem dX6_undo_9 : decode cX6_undo 9 = .ok (.ifCond .ne 9, 3) := by decide +kernel
theorem dX6_undo_12 : decode cX6_undo 12 = .ok (.aload_n 0, 1) := by decide +kernel
theorem dX6_undo_13 : decode cX6_undo 13 = .ok (.iconst 1, 1) := by decide +kernel
theorem dX6_undo_14 : decode cX6_undo 14 = .ok (.invokevirtual 49, 3) := by decide +kernel
theorem dX6_undo_17 : decode cX6_undo 17 = .ok (.ireturn, 1) := by decide +kernel
theorem dX6_undo_18 : decode cX6_undo 18 = .ok (.aload_n 0, 1) := by decide +kernel
theorem dX6_undo_19 : decode cX6_undo 19 = .ok (.aload_n 0, 1) := by decide +kernel
theorem dX6_undo_20 : decode cX6_undo 20 = .ok (.getfield 63, 3) := by decide +kernel
theorem dX6_undo_23 : decode cX6_undo 23 = .ok (.iconst 1, 1) := by decide +kernel
theorem dX6_undo_24 : decode cX6_undo 24 = .ok (.isub, 1) := by decide +kernel
theorem dX6_undo_25 : decode cX6_undo 25 = .ok (.invokevirtual 76, 3) := by decide +kernel
theorem dX6_undo_28 : decode cX6_undo 28 = .ok (.istore_n 1, 1) := by decide +kernel
theorem dX6_undo_29 : decode cX6_undo 29 = .ok (.aload_n 0, 1) := by decide +kernel
theorem dX6_undo_30 : decode cX6_undo 30 = .ok (.dup, 1) := by decide +kernel
theorem dX6_undo_31 : decode cX6_undo 31 = .ok (.getfield 63, 3) := by decide +kernel
theorem dX6_undo_34 : decode cX6_undo 34 = .ok (.aload_n 0, 1) := by decide +kernel
theorem dX6_undo_35 : decode cX6_undo 35 = .ok (.getfield 33, 3) := by decide +kernel
theorem dX6_undo_38 : decode cX6_undo 38 = .ok (.aload_n 0, 1) := by decide +kernel
theorem dX6_undo_39 : decode cX6_undo 39 = .ok (.getfield 63, 3) := by decide +kernel
theorem dX6_undo_42 : decode cX6_undo 42 = .ok (.iconst 1, 1) := by decide +kernel
theorem dX6_undo_43 : decode cX6_undo 43 = .ok (.isub, 1) := by decide +kernel
theorem dX6_undo_44 : decode cX6_undo 44 = .ok (.baload, 1) := by decide +kernel
theorem dX6_undo_45 : decode cX6_undo 45 = .ok (.ifCond .eq 7, 3) := by decide +kernel
theorem dX6_undo_48 : decode cX6_undo 48 = .ok (.iconst 2, 1) := by decide +kernel
theorem dX6_undo_49 : decode cX6_undo 49 = .ok (.goto 4, 3) := by decide +kernel
theorem dX6_undo_52 : decode cX6_undo 52 = .ok (.iconst 1, 1) := by decide +kernel
theorem dX6_undo_53 : decode cX6_undo 53 = .ok (.isub, 1) := by decide +kernel
theorem dX6_undo_54 : decode cX6_undo 54 = .ok (.putfield 63, 3) := by decide +kernel
theorem dX6_undo_57 : decode cX6_undo 57 = .ok (.aload_n 0, 1) := by decide +kernel
theorem dX6_undo_58 : decode cX6_undo 58 = .ok (.getfield 16, 3) := by decide +kernel
theorem dX6_undo_61 : decode cX6_undo 61 = .ok (.iconst 4, 1) := by decide +kernel
theorem dX6_undo_62 : decode cX6_undo 62 = .ok (.iload_n 1, 1) := by decide +kernel
theorem dX6_undo_63 : decode cX6_undo 63 = .ok (.imul, 1) := by decide +kernel
theorem dX6_undo_64 : decode cX6_undo 64 = .ok (.iconst 3, 1) := by decide +kernel
theorem dX6_undo_65 : decode cX6_undo 65 = .ok (.iadd, 1) := by decide +kernel
theorem dX6_undo_66 : decode cX6_undo 66 = .ok (.dup2, 1) := by decide +kernel
theorem dX6_undo_67 : decode cX6_undo 67 = .ok (.iaload, 1) := by decide +kernel
theorem dX6_undo_68 : decode cX6_undo 68 = .ok (.iconst 1, 1) := by decide +kernel
theorem dX6_undo_69 : decode cX6_undo 69 = .ok (.iadd, 1) := by decide +kernel
theorem dX6_undo_70 : decode cX6_undo 70 = .ok (.iastore, 1) := by decide +kernel
theorem dX6_undo_71 : decode cX6_undo 71 = .ok (.iload_n 1, 1) := by decide +kernel
theorem dX6_undo_72 : decode cX6_undo 72 = .ok (.ireturn, 1) := by decide +kernel
theorem dX6_roomFrom_0 : decode cX6_roomFrom 0 = .ok (.iconst 0, 1) := by decide +kernel
theorem dX6_roomFrom_1 : decode cX6_roomFrom 1 = .ok (.istore_n 3, 1) := by decide +kernel
theorem dX6_roomFrom_2 : decode cX6_roomFrom 2 = .ok (.iconst 0, 1) := by decide +kernel
theorem dX6_roomFrom_3 : decode cX6_roomFrom 3 = .ok (.istore 4, 2) := by decide +kernel
theorem dX6_roomFrom_5 : decode cX6_roomFrom 5 = .ok (.iload 4, 2) := by decide +kernel
theorem dX6_roomFrom_7 : decode cX6_roomFrom 7 = .ok (.aload_n 0, 1) := by decide +kernel
theorem dX6_roomFrom_8 : decode cX6_roomFrom 8 = .ok (.getfield 63, 3) := by decide +kernel
theorem dX6_roomFrom_11 : decode cX6_roomFrom 11 = .ok (.if_icmp .ge 45, 3) := by decide +kernel
theorem dX6_roomFrom_14 : decode cX6_roomFrom 14 = .ok (.aload_n 0, 1) := by decide +kernel
theorem dX6_roomFrom_15 : decode cX6_roomFrom 15 = .ok (.iload 4, 2) := by decide +kernel
theorem dX6_roomFrom_17 : decode cX6_roomFrom 17 = .ok (.iload_n 1, 1) := by decide +kernel
theorem dX6_roomFrom_18 : decode cX6_roomFrom 18 = .ok (.invokevirtual 66, 3) := by decide +kernel
theorem dX6_roomFrom_21 : decode cX6_roomFrom 21 = .ok (.ifCond .eq 29, 3) := by decide +kernel
theorem dX6_roomFrom_24 : decode cX6_roomFrom 24 = .ok (.aload_n 0, 1) := by decide +kernel
theorem dX6_roomFrom_25 : decode cX6_roomFrom 25 = .ok (.iload 4, 2) := by decide +kernel
theorem dX6_roomFrom_27 : decode cX6_roomFrom 27 = .ok (.invokevirtual 73, 3) := by decide +kernel
theorem dX6_roomFrom_30 : decode cX6_roomFrom 30 = .ok (.iload_n 2, 1) := by decide +kernel
theorem dX6_roomFrom_31 : decode cX6_roomFrom 31 = .ok (.if_icmp .gt 19, 3) := by decide +kernel
theorem dX6_roomFrom_34 : decode cX6_roomFrom 34 = .ok (.iload_n 3, 1) := by decide +kernel
theorem dX6_roomFrom_35 : decode cX6_roomFrom 35 = .ok (.aload_n 0, 1) := by decide +kernel
theorem dX6_roomFrom_36 : decode cX6_roomFrom 36 = .ok (.iload 4, 2) := by decide +kernel
theorem dX6_roomFrom_38 : decode cX6_roomFrom 38 = .ok (.invokevirtual 73, 3) := by decide +kernel
theorem dX6_roomFrom_41 : decode cX6_roomFrom 41 = .ok (.aload_n 0, 1) := by decide +kernel
theorem dX6_roomFrom_42 : decode cX6_roomFrom 42 = .ok (.getfield 23, 3) := by decide +kernel
theorem dX6_roomFrom_45 : decode cX6_roomFrom 45 = .ok (.iadd, 1) := by decide +kernel
theorem dX6_roomFrom_46 : decode cX6_roomFrom 46 = .ok (.invokestatic 83, 3) := by decide +kernel
theorem dX6_roomFrom_49 : decode cX6_roomFrom 49 = .ok (.istore_n 3, 1) := by decide +kernel
theorem dX6_roomFrom_50 : decode cX6_roomFrom 50 = .ok (.iinc 4 1, 3) := by decide +kernel
theorem dX6_roomFrom_53 : decode cX6_roomFrom 53 = .ok (.goto (-48), 3) := by decide +kernel
theorem dX6_roomFrom_56 : decode cX6_roomFrom 56 = .ok (.iload_n 3, 1) := by decide +kernel
theorem dX6_roomFrom_57 : decode cX6_roomFrom 57 = .ok (.ireturn, 1) := by decide +kernel
theorem dX6_roomTo_0 : decode cX6_roomTo 0 = .ok (.aload_n 0, 1) := by decide +kernel
theorem dX6_roomTo_1 : decode cX6_roomTo 1 = .ok (.iload_n 1, 1) := by decide +kernel
theorem dX6_roomTo_2 : decode cX6_roomTo 2 = .ok (.invokevirtual 57, 3) := by decide +kernel
theorem dX6_roomTo_5 : decode cX6_roomTo 5 = .ok (.istore_n 3, 1) := by decide +kernel
theorem dX6_roomTo_6 : decode cX6_roomTo 6 = .ok (.iconst 0, 1) := by decide +kernel
theorem dX6_roomTo_7 : decode cX6_roomTo 7 = .ok (.istore 4, 2) := by decide +kernel
theorem dX6_roomTo_9 : decode cX6_roomTo 9 = .ok (.iload 4, 2) := by decide +kernel
theorem dX6_roomTo_11 : decode cX6_roomTo 11 = .ok (.aload_n 0, 1) := by decide +kernel
theorem dX6_roomTo_12 : decode cX6_roomTo 12 = .ok (.getfield 63, 3) := by decide +kernel
theorem dX6_roomTo_15 : decode cX6_roomTo 15 = .ok (.if_icmp .ge 45, 3) := by decide +kernel
theorem dX6_roomTo_18 : decode cX6_roomTo 18 = .ok (.aload_n 0, 1) := by decide +kernel
theorem dX6_roomTo_19 : decode cX6_roomTo 19 = .ok (.iload 4, 2) := by decide +kernel
theorem dX6_roomTo_21 : decode cX6_roomTo 21 = .ok (.iload_n 1, 1) := by decide +kernel
theorem dX6_roomTo_22 : decode cX6_roomTo 22 = .ok (.invokevirtual 66, 3) := by decide +kernel
theorem dX6_roomTo_25 : decode cX6_roomTo 25 = .ok (.ifCond .eq 29, 3) := by decide +kernel
theorem dX6_roomTo_28 : decode cX6_roomTo 28 = .ok (.aload_n 0, 1) := by decide +kernel
theorem dX6_roomTo_29 : decode cX6_roomTo 29 = .ok (.iload 4, 2) := by decide +kernel
theorem dX6_roomTo_31 : decode cX6_roomTo 31 = .ok (.invokevirtual 70, 3) := by decide +kernel
theorem dX6_roomTo_34 : decode cX6_roomTo 34 = .ok (.iload_n 2, 1) := by decide +kernel
theorem dX6_roomTo_35 : decode cX6_roomTo 35 = .ok (.if_icmp .le 19, 3) := by decide +kernel
theorem dX6_roomTo_38 : decode cX6_roomTo 38 = .ok (.iload_n 3, 1) := by decide +kernel
theorem dX6_roomTo_39 : decode cX6_roomTo 39 = .ok (.aload_n 0, 1) := by decide +kernel
theorem dX6_roomTo_40 : decode cX6_roomTo 40 = .ok (.iload 4, 2) := by decide +kernel
theorem dX6_roomTo_42 : decode cX6_roomTo 42 = .ok (.invokevirtual 70, 3) := by decide +kernel
theorem dX6_roomTo_45 : decode cX6_roomTo 45 = .ok (.aload_n 0, 1) := by decide +kernel
theorem dX6_roomTo_46 : decode cX6_roomTo 46 = .ok (.getfield 23, 3) := by decide +kernel
theorem dX6_roomTo_49 : decode cX6_roomTo 49 = .ok (.isub, 1) := by decide +kernel
theorem dX6_roomTo_50 : decode cX6_roomTo 50 = .ok (.invokestatic 91, 3) := by decide +kernel
theorem dX6_roomTo_53 : decode cX6_roomTo 53 = .ok (.istore_n 3, 1) := by decide +kernel
theorem dX6_roomTo_54 : decode cX6_roomTo 54 = .ok (.iinc 4 1, 3) := by decide +kernel
theorem dX6_roomTo_57 : decode cX6_roomTo 57 = .ok (.goto (-48), 3) := by decide +kernel
theorem dX6_roomTo_60 : decode cX6_roomTo 60 = .ok (.iload_n 3, 1) := by decide +kernel
theorem dX6_roomTo_61 : decode cX6_roomTo 61 = .ok (.ireturn, 1) := by decide +kernel
theorem dX6_isAhead_0 : decode cX6_isAhead 0 = .ok (.aload_n 0, 1) := by decide +kernel
theorem dX6_isAhead_1 : decode cX6_isAhead 1 = .ok (.iload_n 1, 1) := by decide +kernel
theorem dX6_isAhead_2 : decode cX6_isAhead 2 = .ok (.iconst 0, 1) := by decide +kernel
theorem dX6_isAhead_3 : decode cX6_isAhead 3 = .ok (.invokevirtual 79, 3) := by decide +kernel
theorem dX6_isAhead_6 : decode cX6_isAhead 6 = .ok (.aload_n 0, 1) := by decide +kernel
theorem dX6_isAhead_7 : decode cX6_isAhead 7 = .ok (.iload_n 2, 1) := by decide +kernel
theorem dX6_isAhead_8 : decode cX6_isAhead 8 = .ok (.iconst 0, 1) := by decide +kernel
theorem dX6_isAhead_9 : decode cX6_isAhead 9 = .ok (.invokevirtual 79, 3) := by decide +kernel
theorem dX6_isAhead_12 : decode cX6_isAhead 12 = .ok (.if_icmp .eq 24, 3) := by decide +kernel
theorem dX6_isAhead_15 : decode cX6_isAhead 15 = .ok (.aload_n 0, 1) := by decide +kernel
theorem dX6_isAhead_16 : decode cX6_isAhead 16 = .ok (.iload_n 1, 1) := by decide +kernel
theorem dX6_isAhead_17 : decode cX6_isAhead 17 = .ok (.iconst 0, 1) := by decide +kernel
theorem dX6_isAhead_18 : decode cX6_isAhead 18 = .ok (.invokevirtual 79, 3) := by decide +kernel
theorem dX6_isAhead_21 : decode cX6_isAhead 21 = .ok (.aload_n 0, 1) := by decide +kernel
theorem dX6_isAhead_22 : decode cX6_isAhead 22 = .ok (.iload_n 2, 1) := by decide +kernel
theorem dX6_isAhead_23 : decode cX6_isAhead 23 = .ok (.iconst 0, 1) := by decide +kernel
theorem dX6_isAhead_24 : decode cX6_isAhead 24 = .ok (.invokevirtual 79, 3) := by decide +kernel
theorem dX6_isAhead_27 : decode cX6_isAhead 27 = .ok (.if_icmp .le 7, 3) := by decide +kernel
theorem dX6_isAhead_30 : decode cX6_isAhead 30 = .ok (.iconst 1, 1) := by decide +kernel
theorem dX6_isAhead_31 : decode cX6_isAhead 31 = .ok (.goto 4, 3) := by decide +kernel
theorem dX6_isAhead_34 : decode cX6_isAhead 34 = .ok (.iconst 0, 1) := by decide +kernel
theorem dX6_isAhead_35 : decode cX6_isAhead 35 = .ok (.ireturn, 1) := by decide +kernel
theorem dX6_isAhead_36 : decode cX6_isAhead 36 = .ok (.aload_n 0, 1) := by decide +kernel
theorem dX6_isAhead_37 : decode cX6_isAhead 37 = .ok (.iload_n 1, 1) := by decide +kernel
theorem dX6_isAhead_38 : decode cX6_isAhead 38 = .ok (.iconst 2, 1) := by decide +kernel
theorem dX6_isAhead_39 : decode cX6_isAhead 39 = .ok (.invokevirtual 79, 3) := by decide +kernel
theorem dX6_isAhead_42 : decode cX6_isAhead 42 = .ok (.aload_n 0, 1) := by decide +kernel
theorem dX6_isAhead_43 : decode cX6_isAhead 43 = .ok (.iload_n 2, 1) := by decide +kernel
theorem dX6_isAhead_44 : decode cX6_isAhead 44 = .ok (.iconst 2, 1) := by decide +kernel
theorem dX6_isAhead_45 : decode cX6_isAhead 45 = .ok (.invokevirtual 79, 3) := by decide +kernel
theorem dX6_isAhead_48 : decode cX6_isAhead 48 = .ok (.if_icmp .ge 7, 3) := by decide +kernel
theorem dX6_isAhead_51 : decode cX6_isAhead 51 = .ok (.iconst 1, 1) := by decide +kernel
theorem dX6_isAhead_52 : decode cX6_isAhead 52 = .ok (.goto 4, 3) := by decide +kernel
theorem dX6_isAhead_55 : decode cX6_isAhead 55 = .ok (.iconst 0, 1) := by decide +kernel
theorem dX6_isAhead_56 : decode cX6_isAhead 56 = .ok (.ireturn, 1) := by decide +kernel
theorem dX6_planOne_0 : decode cX6_planOne 0 = .ok (.iconst (-1), 1) := by decide +kernel
theorem dX6_planOne_1 : decode cX6_planOne 1 = .ok (.istore_n 1, 1) := by decide +kernel
theorem dX6_planOne_2 : decode cX6_planOne 2 = .ok (.iconst 0, 1) := by decide +kernel
theorem dX6_planOne_3 : decode cX6_planOne 3 = .ok (.istore_n 2, 1) := by decide +kernel
theorem dX6_planOne_4 : decode cX6_planOne 4 = .ok (.iload_n 2, 1) := by decide +kernel
theorem dX6_planOne_5 : decode cX6_planOne 5 = .ok (.aload_n 0, 1) := by decide +kernel
theorem dX6_planOne_6 : decode cX6_planOne 6 = .ok (.getfield 46, 3) := by decide +kernel
theorem dX6_planOne_9 : decode cX6_planOne 9 = .ok (.if_icmp .ge 79, 3) := by decide +kernel
theorem dX6_planOne_12 : decode cX6_planOne 12 = .ok (.iconst 0, 1) := by decide +kernel
theorem dX6_planOne_13 : decode cX6_planOne 13 = .ok (.istore_n 3, 1) := by decide +kernel
theorem dX6_planOne_14 : decode cX6_planOne 14 = .ok (.iconst 0, 1) := by decide +kernel
theorem dX6_planOne_15 : decode cX6_planOne 15 = .ok (.istore 4, 2) := by decide +kernel
theorem dX6_planOne_17 : decode cX6_planOne 17 = .ok (.iload 4, 2) := by decide +kernel
theorem dX6_planOne_19 : decode cX6_planOne 19 = .ok (.aload_n 0, 1) := by decide +kernel
theorem dX6_planOne_20 : decode cX6_planOne 20 = .ok (.getfield 39, 3) := by decide +kernel
theorem dX6_planOne_23 : decode cX6_planOne 23 = .ok (.if_icmp .ge 39, 3) := by decide +kernel
theorem dX6_planOne_26 : decode cX6_planOne 26 = .ok (.aload_n 0, 1) := by decide +kernel
theorem dX6_planOne_27 : decode cX6_planOne 27 = .ok (.iload_n 2, 1) := by decide +kernel
theorem dX6_planOne_28 : decode cX6_planOne 28 = .ok (.iconst 3, 1) := by decide +kernel
theorem dX6_planOne_29 : decode cX6_planOne 29 = .ok (.invokevirtual 79, 3) := by decide +kernel
theorem dX6_planOne_32 : decode cX6_planOne 32 = .ok (.ifCond .le 30, 3) := by decide +kernel
theorem dX6_planOne_35 : decode cX6_planOne 35 = .ok (.iload_n 3, 1) := by decide +kernel
theorem dX6_planOne_36 : decode cX6_planOne 36 = .ok (.ifCond .ne 26, 3) := by decide +kernel
theorem dX6_planOne_39 : decode cX6_planOne 39 = .ok (.aload_n 0, 1) := by decide +kernel
theorem dX6_planOne_40 : decode cX6_planOne 40 = .ok (.iload_n 2, 1) := by decide +kernel
theorem dX6_planOne_41 : decode cX6_planOne 41 = .ok (.iload 4, 2) := by decide +kernel
theorem dX6_planOne_43 : decode cX6_planOne 43 = .ok (.invokevirtual 121, 3) := by decide +kernel
theorem dX6_planOne_46 : decode cX6_planOne 46 = .ok (.iconst (-1), 1) := by decide +kernel
theorem dX6_planOne_47 : decode cX6_planOne 47 = .ok (.if_icmp .eq 7, 3) := by decide +kernel
theorem dX6_planOne_50 : decode cX6_planOne 50 = .ok (.iconst 1, 1) := by decide +kernel
theorem dX6_planOne_51 : decode cX6_planOne 51 = .ok (.goto 4, 3) := by decide +kernel
theorem dX6_planOne_54 : decode cX6_planOne 54 = .ok (.iconst 0, 1) := by decide +kernel
theorem dX6_planOne_55 : decode cX6_planOne 55 = .ok (.istore_n 3, 1) := by decide +kernel
theorem dX6_planOne_56 : decode cX6_planOne 56 = .ok (.iinc 4 1, 3) := by decide +kernel
theorem dX6_planOne_59 : decode cX6_planOne 59 = .ok (.goto (-42), 3) := by decide +kernel
theorem dX6_planOne_62 : decode cX6_planOne 62 = .ok (.iload_n 3, 1) := by decide +kernel
theorem dX6_planOne_63 : decode cX6_planOne 63 = .ok (.ifCond .eq 19, 3) := by decide +kernel
theorem dX6_planOne_66 : decode cX6_planOne 66 = .ok (.iload_n 1, 1) := by decide +kernel
theorem dX6_planOne_67 : decode cX6_planOne 67 = .ok (.iconst (-1), 1) := by decide +kernel
theorem dX6_planOne_68 : decode cX6_planOne 68 = .ok (.if_icmp .eq 12, 3) := by decide +kernel
theorem dX6_planOne_71 : decode cX6_planOne 71 = .ok (.aload_n 0, 1) := by decide +kernel
theorem dX6_planOne_72 : decode cX6_planOne 72 = .ok (.iload_n 2, 1) := by decide +kernel
theorem dX6_planOne_73 : decode cX6_planOne 73 = .ok (.iload_n 1, 1) := by decide +kernel
theorem dX6_planOne_74 : decode cX6_planOne 74 = .ok (.invokevirtual 131, 3) := by decide +kernel
theorem dX6_planOne_77 : decode cX6_planOne 77 = .ok (.ifCond .eq 5, 3) := by decide +kernel
theorem dX6_planOne_80 : decode cX6_planOne 80 = .ok (.iload_n 2, 1) := by decide +kernel
theorem dX6_planOne_81 : decode cX6_planOne 81 = .ok (.istore_n 1, 1) := by decide +kernel
theorem dX6_planOne_82 : decode cX6_planOne 82 = .ok (.iinc 2 1, 3) := by decide +kernel
theorem dX6_planOne_85 : decode cX6_planOne 85 = .ok (.goto (-81), 3) := by decide +kernel
theorem dX6_planOne_88 : decode cX6_planOne 88 = .ok (.iload_n 1, 1) := by decide +kernel
theorem dX6_planOne_89 : decode cX6_planOne 89 = .ok (.iconst (-1), 1) := by decide +kernel
theorem dX6_planOne_90 : decode cX6_planOne 90 = .ok (.if_icmp .ne 5, 3) := by decide +kernel
theorem dX6_planOne_93 : decode cX6_planOne 93 = .ok (.iconst 0, 1) := by decide +kernel
theorem dX6_planOne_94 : decode cX6_planOne 94 = .ok (.ireturn, 1) := by decide +kernel
theorem dX6_planOne_95 : decode cX6_planOne 95 = .ok (.iconst (-1), 1) := by decide +kernel
theorem dX6_planOne_96 : decode cX6_planOne 96 = .ok (.istore_n 2, 1) := by decide +kernel
theorem dX6_planOne_97 : decode cX6_planOne 97 = .ok (.iconst 0, 1) := by decide +kernel
theorem dX6_planOne_98 : decode cX6_planOne 98 = .ok (.istore_n 3, 1) := by decide +kernel
theorem dX6_planOne_99 : decode cX6_planOne 99 = .ok (.iconst 0, 1) := by decide +kernel
theorem dX6_planOne_100 : decode cX6_planOne 100 = .ok (.istore 4, 2) := by decide +kernel
theorem dX6_planOne_102 : decode cX6_planOne 102 = .ok (.iload 4, 2) := by decide +kernel
theorem dX6_planOne_104 : decode cX6_planOne 104 = .ok (.aload_n 0, 1) := by decide +kernel
theorem dX6_planOne_105 : decode cX6_planOne 105 = .ok (.getfield 39, 3) := by decide +kernel
theorem dX6_planOne_108 : decode cX6_planOne 108 = .ok (.if_icmp .ge 66, 3) := by decide +kernel
theorem dX6_planOne_111 : decode cX6_planOne 111 = .ok (.aload_n 0, 1) := by decide +kernel
theorem dX6_planOne_112 : decode cX6_planOne 112 = .ok (.iload_n 1, 1) := by decide +kernel
theorem dX6_planOne_113 : decode cX6_planOne 113 = .ok (.iload 4, 2) := by decide +kernel
theorem dX6_planOne_115 : decode cX6_planOne 115 = .ok (.invokevirtual 121, 3) := by decide +kernel
theorem dX6_planOne_118 : decode cX6_planOne 118 = .ok (.istore 5, 2) := by decide +kernel
theorem dX6_planOne_120 : decode cX6_planOne 120 = .ok (.iload 5, 2) := by decide +kernel
theorem dX6_planOne_122 : decode cX6_planOne 122 = .ok (.iconst (-1), 1) := by decide +kernel
theorem dX6_planOne_123 : decode cX6_planOne 123 = .ok (.if_icmp .ne 6, 3) := by decide +kernel
theorem dX6_planOne_126 : decode cX6_planOne 126 = .ok (.goto 42, 3) := by decide +kernel
theorem dX6_planOne_129 : decode cX6_planOne 129 = .ok (.aload_n 0, 1) := by decide +kernel
theorem dX6_planOne_130 : decode cX6_planOne 130 = .ok (.iload 4, 2) := by decide +kernel
theorem dX6_planOne_132 : decode cX6_planOne 132 = .ok (.iload 5, 2) := by decide +kernel
theorem dX6_planOne_134 : decode cX6_planOne 134 = .ok (.invokevirtual 134, 3) := by decide +kernel
theorem dX6_planOne_137 : decode cX6_planOne 137 = .ok (.aload_n 0, 1) := by decide +kernel
theorem dX6_planOne_138 : decode cX6_planOne 138 = .ok (.iload 4, 2) := by decide +kernel
theorem dX6_planOne_140 : decode cX6_planOne 140 = .ok (.iload 5, 2) := by decide +kernel
theorem dX6_planOne_142 : decode cX6_planOne 142 = .ok (.invokevirtual 137, 3) := by decide +kernel
theorem dX6_planOne_145 : decode cX6_planOne 145 = .ok (.isub, 1) := by decide +kernel
theorem dX6_planOne_146 : decode cX6_planOne 146 = .ok (.istore 6, 2) := by decide +kernel
theorem dX6_planOne_148 : decode cX6_planOne 148 = .ok (.iload_n 2, 1) := by decide +kernel
theorem dX6_planOne_149 : decode cX6_planOne 149 = .ok (.iconst (-1), 1) := by decide +kernel
theorem dX6_planOne_150 : decode cX6_planOne 150 = .ok (.if_icmp .eq 12, 3) := by decide +kernel
theorem dX6_planOne_153 : decode cX6_planOne 153 = .ok (.iload 6, 2) := by decide +kernel
theorem dX6_planOne_155 : decode cX6_planOne 155 = .ok (.iload_n 3, 1) := by decide +kernel
theorem dX6_planOne_156 : decode cX6_planOne 156 = .ok (.if_icmp .lt 6, 3) := by decide +kernel
theorem dX6_planOne_159 : decode cX6_planOne 159 = .ok (.goto 9, 3) := by decide +kernel
theorem dX6_planOne_162 : decode cX6_planOne 162 = .ok (.iload 4, 2) := by decide +kernel
theorem dX6_planOne_164 : decode cX6_planOne 164 = .ok (.istore_n 2, 1) := by decide +kernel
theorem dX6_planOne_165 : decode cX6_planOne 165 = .ok (.iload 6, 2) := by decide +kernel
theorem dX6_planOne_167 : decode cX6_planOne 167 = .ok (.istore_n 3, 1) := by decide +kernel
theorem dX6_planOne_168 : decode cX6_planOne 168 = .ok (.iinc 4 1, 3) := by decide +kernel
theorem dX6_planOne_171 : decode cX6_planOne 171 = .ok (.goto (-69), 3) := by decide +kernel
theorem dX6_planOne_174 : decode cX6_planOne 174 = .ok (.aload_n 0, 1) := by decide +kernel
theorem dX6_planOne_175 : decode cX6_planOne 175 = .ok (.iload_n 1, 1) := by decide +kernel
theorem dX6_planOne_176 : decode cX6_planOne 176 = .ok (.iload_n 2, 1) := by decide +kernel
theorem dX6_planOne_177 : decode cX6_planOne 177 = .ok (.aload_n 0, 1) := by decide +kernel
theorem dX6_planOne_178 : decode cX6_planOne 178 = .ok (.iload_n 1, 1) := by decide +kernel
theorem dX6_planOne_179 : decode cX6_planOne 179 = .ok (.iload_n 2, 1) := by decide +kernel
theorem dX6_planOne_180 : decode cX6_planOne 180 = .ok (.invokevirtual 121, 3) := by decide +kernel
theorem dX6_planOne_183 : decode cX6_planOne 183 = .ok (.aload_n 0, 1) := by decide +kernel
theorem dX6_planOne_184 : decode cX6_planOne 184 = .ok (.iload_n 1, 1) := by decide +kernel
theorem dX6_planOne_185 : decode cX6_planOne 185 = .ok (.iconst 0, 1) := by decide +kernel
theorem dX6_planOne_186 : decode cX6_planOne 186 = .ok (.invokevirtual 79, 3) := by decide +kernel
theorem dX6_planOne_189 : decode cX6_planOne 189 = .ok (.iconst 0, 1) := by decide +kernel
theorem dX6_planOne_190 : decode cX6_planOne 190 = .ok (.invokevirtual 124, 3) := by decide +kernel
theorem dX6_planOne_193 : decode cX6_planOne 193 = .ok (.aload_n 0, 1) := by decide +kernel
theorem dX6_planOne_194 : decode cX6_planOne 194 = .ok (.iload_n 1, 1) := by decide +kernel
theorem dX6_planOne_195 : decode cX6_planOne 195 = .ok (.invokevirtual 128, 3) := by decide +kernel
theorem dX6_planOne_198 : decode cX6_planOne 198 = .ok (.ifCond .lt 7, 3) := by decide +kernel
theorem dX6_planOne_201 : decode cX6_planOne 201 = .ok (.iconst 1, 1) := by decide +kernel
theorem dX6_planOne_202 : decode cX6_planOne 202 = .ok (.goto 4, 3) := by decide +kernel
theorem dX6_planOne_205 : decode cX6_planOne 205 = .ok (.iconst 0, 1) := by decide +kernel
theorem dX6_planOne_206 : decode cX6_planOne 206 = .ok (.ireturn, 1) := by decide +kernel
theorem dX6_plan_0 : decode cX6_plan 0 = .ok (.aload_n 0, 1) := by decide +kernel
theorem dX6_plan_1 : decode cX6_plan 1 = .ok (.iconst 0, 1) := by decide +kernel
theorem dX6_plan_2 : decode cX6_plan 2 = .ok (.putfield 36, 3) := by decide +kernel
theorem dX6_plan_5 : decode cX6_plan 5 = .ok (.iconst 0, 1) := by decide +kernel
theorem dX6_plan_6 : decode cX6_plan 6 = .ok (.istore_n 1, 1) := by decide +kernel
theorem dX6_plan_7 : decode cX6_plan 7 = .ok (.aload_n 0, 1) := by decide +kernel
theorem dX6_plan_8 : decode cX6_plan 8 = .ok (.invokevirtual 140, 3) := by decide +kernel
theorem dX6_plan_11 : decode cX6_plan 11 = .ok (.ifCond .eq 9, 3) := by decide +kernel
theorem dX6_plan_14 : decode cX6_plan 14 = .ok (.iinc 1 1, 3) := by decide +kernel
theorem dX6_plan_17 : decode cX6_plan 17 = .ok (.goto (-10), 3) := by decide +kernel
theorem dX6_plan_20 : decode cX6_plan 20 = .ok (.iload_n 1, 1) := by decide +kernel
theorem dX6_plan_21 : decode cX6_plan 21 = .ok (.ireturn, 1) := by decide +kernel
theorem dX6_left_0 : decode cX6_left 0 = .ok (.aload_n 0, 1) := by decide +kernel
theorem dX6_left_1 : decode cX6_left 1 = .ok (.iconst 0, 1) := by decide +kernel
theorem dX6_left_2 : decode cX6_left 2 = .ok (.putfield 36, 3) := by decide +kernel
theorem dX6_left_5 : decode cX6_left 5 = .ok (.aload_n 0, 1) := by decide +kernel
theorem dX6_left_6 : decode cX6_left 6 = .ok (.iload_n 1, 1) := by decide +kernel
theorem dX6_left_7 : decode cX6_left 7 = .ok (.invokevirtual 114, 3) := by decide +kernel
theorem dX6_left_10 : decode cX6_left 10 = .ok (.ifCond .eq 12, 3) := by decide +kernel
theorem dX6_left_13 : decode cX6_left 13 = .ok (.aload_n 0, 1) := by decide +kernel
theorem dX6_left_14 : decode cX6_left 14 = .ok (.iload_n 1, 1) := by decide +kernel
theorem dX6_left_15 : decode cX6_left 15 = .ok (.iconst 3, 1) := by decide +kernel
theorem dX6_left_16 : decode cX6_left 16 = .ok (.invokevirtual 79, 3) := by decide +kernel
theorem dX6_left_19 : decode cX6_left 19 = .ok (.goto 8, 3) := by decide +kernel
theorem dX6_left_22 : decode cX6_left 22 = .ok (.aload_n 0, 1) := by decide +kernel
theorem dX6_left_23 : decode cX6_left 23 = .ok (.iconst 1, 1) := by decide +kernel
theorem dX6_left_24 : decode cX6_left 24 = .ok (.invokevirtual 49, 3) := by decide +kernel
theorem dX6_left_27 : decode cX6_left 27 = .ok (.ireturn, 1) := by decide +kernel
theorem dX6_piecesOf_0 : decode cX6_piecesOf 0 = .ok (.iconst 0, 1) := by decide +kernel
theorem dX6_piecesOf_1 : decode cX6_piecesOf 1 = .ok (.istore_n 2, 1) := by decide +kernel
theorem dX6_piecesOf_2 : decode cX6_piecesOf 2 = .ok (.iconst 0, 1) := by decide +kernel
theorem dX6_piecesOf_3 : decode cX6_piecesOf 3 = .ok (.istore_n 3, 1) := by decide +kernel
theorem dX6_piecesOf_4 : decode cX6_piecesOf 4 = .ok (.iload_n 3, 1) := by decide +kernel
theorem dX6_piecesOf_5 : decode cX6_piecesOf 5 = .ok (.aload_n 0, 1) := by decide +kernel
theorem dX6_piecesOf_6 : decode cX6_piecesOf 6 = .ok (.getfield 63, 3) := by decide +kernel
theorem dX6_piecesOf_9 : decode cX6_piecesOf 9 = .ok (.if_icmp .ge 26, 3) := by decide +kernel
theorem dX6_piecesOf_12 : decode cX6_piecesOf 12 = .ok (.iload_n 2, 1) := by decide +kernel
theorem dX6_piecesOf_13 : decode cX6_piecesOf 13 = .ok (.aload_n 0, 1) := by decide +kernel
theorem dX6_piecesOf_14 : decode cX6_piecesOf 14 = .ok (.iload_n 3, 1) := by decide +kernel
theorem dX6_piecesOf_15 : decode cX6_piecesOf 15 = .ok (.iload_n 1, 1) := by decide +kernel
theorem dX6_piecesOf_16 : decode cX6_piecesOf 16 = .ok (.invokevirtual 66, 3) := by decide +kernel
theorem dX6_piecesOf_19 : decode cX6_piecesOf 19 = .ok (.ifCond .eq 7, 3) := by decide +kernel
theorem dX6_piecesOf_22 : decode cX6_piecesOf 22 = .ok (.iconst 1, 1) := by decide +kernel
theorem dX6_piecesOf_23 : decode cX6_piecesOf 23 = .ok (.goto 4, 3) := by decide +kernel
theorem dX6_piecesOf_26 : decode cX6_piecesOf 26 = .ok (.iconst 0, 1) := by decide +kernel
theorem dX6_piecesOf_27 : decode cX6_piecesOf 27 = .ok (.iadd, 1) := by decide +kernel
theorem dX6_piecesOf_28 : decode cX6_piecesOf 28 = .ok (.istore_n 2, 1) := by decide +kernel
theorem dX6_piecesOf_29 : decode cX6_piecesOf 29 = .ok (.iinc 3 1, 3) := by decide +kernel
theorem dX6_piecesOf_32 : decode cX6_piecesOf 32 = .ok (.goto (-28), 3) := by decide +kernel
theorem dX6_piecesOf_35 : decode cX6_piecesOf 35 = .ok (.iload_n 2, 1) := by decide +kernel
theorem dX6_piecesOf_36 : decode cX6_piecesOf 36 = .ok (.ireturn, 1) := by decide +kernel
theorem dX6_pieces_0 : decode cX6_pieces 0 = .ok (.aload_n 0, 1) := by decide +kernel
theorem dX6_pieces_1 : decode cX6_pieces 1 = .ok (.iconst 0, 1) := by decide +kernel
theorem dX6_pieces_2 : decode cX6_pieces 2 = .ok (.putfield 36, 3) := by decide +kernel
theorem dX6_pieces_5 : decode cX6_pieces 5 = .ok (.aload_n 0, 1) := by decide +kernel
theorem dX6_pieces_6 : decode cX6_pieces 6 = .ok (.iload_n 1, 1) := by decide +kernel
theorem dX6_pieces_7 : decode cX6_pieces 7 = .ok (.invokevirtual 53, 3) := by decide +kernel
theorem dX6_pieces_10 : decode cX6_pieces 10 = .ok (.ifCond .eq 11, 3) := by decide +kernel
theorem dX6_pieces_13 : decode cX6_pieces 13 = .ok (.aload_n 0, 1) := by decide +kernel
theorem dX6_pieces_14 : decode cX6_pieces 14 = .ok (.iload_n 1, 1) := by decide +kernel
theorem dX6_pieces_15 : decode cX6_pieces 15 = .ok (.invokevirtual 144, 3) := by decide +kernel
theorem dX6_pieces_18 : decode cX6_pieces 18 = .ok (.goto 8, 3) := by decide +kernel
theorem dX6_pieces_21 : decode cX6_pieces 21 = .ok (.aload_n 0, 1) := by decide +kernel
theorem dX6_pieces_22 : decode cX6_pieces 22 = .ok (.iconst 1, 1) := by decide +kernel
theorem dX6_pieces_23 : decode cX6_pieces 23 = .ok (.invokevirtual 49, 3) := by decide +kernel
theorem dX6_pieces_26 : decode cX6_pieces 26 = .ok (.ireturn, 1) := by decide +kernel
theorem dX6_pieceFrom_0 : decode cX6_pieceFrom 0 = .ok (.iconst (-1), 1) := by decide +kernel
theorem dX6_pieceFrom_1 : decode cX6_pieceFrom 1 = .ok (.istore_n 3, 1) := by decide +kernel
theorem dX6_pieceFrom_2 : decode cX6_pieceFrom 2 = .ok (.iconst 0, 1) := by decide +kernel
theorem dX6_pieceFrom_3 : decode cX6_pieceFrom 3 = .ok (.istore 4, 2) := by decide +kernel
theorem dX6_pieceFrom_5 : decode cX6_pieceFrom 5 = .ok (.iload 4, 2) := by decide +kernel
theorem dX6_pieceFrom_7 : decode cX6_pieceFrom 7 = .ok (.aload_n 0, 1) := by decide +kernel
theorem dX6_pieceFrom_8 : decode cX6_pieceFrom 8 = .ok (.getfield 63, 3) := by decide +kernel
theorem dX6_pieceFrom_11 : decode cX6_pieceFrom 11 = .ok (.if_icmp .ge 51, 3) := by decide +kernel
theorem dX6_pieceFrom_14 : decode cX6_pieceFrom 14 = .ok (.aload_n 0, 1) := by decide +kernel
theorem dX6_pieceFrom_15 : decode cX6_pieceFrom 15 = .ok (.iload 4, 2) := by decide +kernel
theorem dX6_pieceFrom_17 : decode cX6_pieceFrom 17 = .ok (.iload_n 1, 1) := by decide +kernel
theorem dX6_pieceFrom_18 : decode cX6_pieceFrom 18 = .ok (.invokevirtual 66, 3) := by decide +kernel
theorem dX6_pieceFrom_21 : decode cX6_pieceFrom 21 = .ok (.ifCond .eq 35, 3) := by decide +kernel
theorem dX6_pieceFrom_24 : decode cX6_pieceFrom 24 = .ok (.aload_n 0, 1) := by decide +kernel
theorem dX6_pieceFrom_25 : decode cX6_pieceFrom 25 = .ok (.iload 4, 2) := by decide +kernel
theorem dX6_pieceFrom_27 : decode cX6_pieceFrom 27 = .ok (.invokevirtual 70, 3) := by decide +kernel
theorem dX6_pieceFrom_30 : decode cX6_pieceFrom 30 = .ok (.iload_n 2, 1) := by decide +kernel
theorem dX6_pieceFrom_31 : decode cX6_pieceFrom 31 = .ok (.if_icmp .lt 25, 3) := by decide +kernel
theorem dX6_pieceFrom_34 : decode cX6_pieceFrom 34 = .ok (.iload_n 3, 1) := by decide +kernel
theorem dX6_pieceFrom_35 : decode cX6_pieceFrom 35 = .ok (.iconst (-1), 1) := by decide +kernel
theorem dX6_pieceFrom_36 : decode cX6_pieceFrom 36 = .ok (.if_icmp .eq 17, 3) := by decide +kernel
theorem dX6_pieceFrom_39 : decode cX6_pieceFrom 39 = .ok (.aload_n 0, 1) := by decide +kernel
theorem dX6_pieceFrom_40 : decode cX6_pieceFrom 40 = .ok (.iload 4, 2) := by decide +kernel
theorem dX6_pieceFrom_42 : decode cX6_pieceFrom 42 = .ok (.invokevirtual 70, 3) := by decide +kernel
theorem dX6_pieceFrom_45 : decode cX6_pieceFrom 45 = .ok (.aload_n 0, 1) := by decide +kernel
theorem dX6_pieceFrom_46 : decode cX6_pieceFrom 46 = .ok (.iload_n 3, 1) := by decide +kernel
theorem dX6_pieceFrom_47 : decode cX6_pieceFrom 47 = .ok (.invokevirtual 70, 3) := by decide +kernel
theorem dX6_pieceFrom_50 : decode cX6_pieceFrom 50 = .ok (.if_icmp .ge 6, 3) := by decide +kernel
theorem dX6_pieceFrom_53 : decode cX6_pieceFrom 53 = .ok (.iload 4, 2) := by decide +kernel
theorem dX6_pieceFrom_55 : decode cX6_pieceFrom 55 = .ok (.istore_n 3, 1) := by decide +kernel
theorem dX6_pieceFrom_56 : decode cX6_pieceFrom 56 = .ok (.iinc 4 1, 3) := by decide +kernel
theorem dX6_pieceFrom_59 : decode cX6_pieceFrom 59 = .ok (.goto (-54), 3) := by decide +kernel
theorem dX6_pieceFrom_62 : decode cX6_pieceFrom 62 = .ok (.iload_n 3, 1) := by decide +kernel
theorem dX6_pieceFrom_63 : decode cX6_pieceFrom 63 = .ok (.ireturn, 1) := by decide +kernel
theorem dX6_told_0 : decode cX6_told 0 = .ok (.iload_n 2, 1) := by decide +kernel
theorem dX6_told_1 : decode cX6_told 1 = .ok (.ifCond .ne 11, 3) := by decide +kernel
theorem dX6_told_4 : decode cX6_told 4 = .ok (.aload_n 0, 1) := by decide +kernel
theorem dX6_told_5 : decode cX6_told 5 = .ok (.iload_n 1, 1) := by decide +kernel
theorem dX6_told_6 : decode cX6_told 6 = .ok (.invokevirtual 76, 3) := by decide +kernel
theorem dX6_told_9 : decode cX6_told 9 = .ok (.goto 35, 3) := by decide +kernel
theorem dX6_told_12 : decode cX6_told 12 = .ok (.iload_n 2, 1) := by decide +kernel
theorem dX6_told_13 : decode cX6_told 13 = .ok (.iconst 3, 1) := by decide +kernel
theorem dX6_told_14 : decode cX6_told 14 = .ok (.if_icmp .ge 16, 3) := by decide +kernel
theorem dX6_told_17 : decode cX6_told 17 = .ok (.aload_n 0, 1) := by decide +kernel
theorem dX6_told_18 : decode cX6_told 18 = .ok (.getfield 30, 3) := by decide +kernel
theorem dX6_told_21 : decode cX6_told 21 = .ok (.iconst 4, 1) := by decide +kernel
theorem dX6_told_22 : decode cX6_told 22 = .ok (.iload_n 1, 1) := by decide +kernel
theorem dX6_told_23 : decode cX6_told 23 = .ok (.imul, 1) := by decide +kernel
theorem dX6_told_24 : decode cX6_told 24 = .ok (.iload_n 2, 1) := by decide +kernel
theorem dX6_told_25 : decode cX6_told 25 = .ok (.iadd, 1) := by decide +kernel
theorem dX6_told_26 : decode cX6_told 26 = .ok (.iaload, 1) := by decide +kernel
theorem dX6_told_27 : decode cX6_told 27 = .ok (.goto 17, 3) := by decide +kernel
theorem dX6_told_30 : decode cX6_told 30 = .ok (.aload_n 0, 1) := by decide +kernel
theorem dX6_told_31 : decode cX6_told 31 = .ok (.getfield 33, 3) := by decide +kernel
theorem dX6_told_34 : decode cX6_told 34 = .ok (.iload_n 1, 1) := by decide +kernel
theorem dX6_told_35 : decode cX6_told 35 = .ok (.baload, 1) := by decide +kernel
theorem dX6_told_36 : decode cX6_told 36 = .ok (.ifCond .eq 7, 3) := by decide +kernel
theorem dX6_told_39 : decode cX6_told 39 = .ok (.iconst 1, 1) := by decide +kernel
theorem dX6_told_40 : decode cX6_told 40 = .ok (.goto 4, 3) := by decide +kernel
theorem dX6_told_43 : decode cX6_told 43 = .ok (.iconst 0, 1) := by decide +kernel
theorem dX6_told_44 : decode cX6_told 44 = .ok (.ireturn, 1) := by decide +kernel
theorem dX6_piece_0 : decode cX6_piece 0 = .ok (.aload_n 0, 1) := by decide +kernel
theorem dX6_piece_1 : decode cX6_piece 1 = .ok (.iconst 0, 1) := by decide +kernel
theorem dX6_piece_2 : decode cX6_piece 2 = .ok (.putfield 36, 3) := by decide +kernel
theorem dX6_piece_5 : decode cX6_piece 5 = .ok (.aload_n 0, 1) := by decide +kernel
theorem dX6_piece_6 : decode cX6_piece 6 = .ok (.iload_n 1, 1) := by decide +kernel
theorem dX6_piece_7 : decode cX6_piece 7 = .ok (.invokevirtual 53, 3) := by decide +kernel
theorem dX6_piece_10 : decode cX6_piece 10 = .ok (.ifCond .eq 27, 3) := by decide +kernel
theorem dX6_piece_13 : decode cX6_piece 13 = .ok (.iload_n 2, 1) := by decide +kernel
theorem dX6_piece_14 : decode cX6_piece 14 = .ok (.iconst 0, 1) := by decide +kernel
theorem dX6_piece_15 : decode cX6_piece 15 = .ok (.aload_n 0, 1) := by decide +kernel
theorem dX6_piece_16 : decode cX6_piece 16 = .ok (.iload_n 1, 1) := by decide +kernel
theorem dX6_piece_17 : decode cX6_piece 17 = .ok (.invokevirtual 144, 3) := by decide +kernel
theorem dX6_piece_20 : decode cX6_piece 20 = .ok (.iconst 1, 1) := by decide +kernel
theorem dX6_piece_21 : decode cX6_piece 21 = .ok (.isub, 1) := by decide +kernel
theorem dX6_piece_22 : decode cX6_piece 22 = .ok (.invokestatic 42, 3) := by decide +kernel
theorem dX6_piece_25 : decode cX6_piece 25 = .ok (.ifCond .eq 12, 3) := by decide +kernel
theorem dX6_piece_28 : decode cX6_piece 28 = .ok (.iload_n 3, 1) := by decide +kernel
theorem dX6_piece_29 : decode cX6_piece 29 = .ok (.iconst 0, 1) := by decide +kernel
theorem dX6_piece_30 : decode cX6_piece 30 = .ok (.iconst 3, 1) := by decide +kernel
theorem dX6_piece_31 : decode cX6_piece 31 = .ok (.invokestatic 42, 3) := by decide +kernel
theorem dX6_piece_34 : decode cX6_piece 34 = .ok (.ifCond .ne 9, 3) := by decide +kernel
theorem dX6_piece_37 : decode cX6_piece 37 = .ok (.aload_n 0, 1) := by decide +kernel
theorem dX6_piece_38 : decode cX6_piece 38 = .ok (.iconst 1, 1) := by decide +kernel
theorem dX6_piece_39 : decode cX6_piece 39 = .ok (.invokevirtual 49, 3) := by decide +kernel
theorem dX6_piece_42 : decode cX6_piece 42 = .ok (.ireturn, 1) := by decide +kernel
theorem dX6_piece_43 : decode cX6_piece 43 = .ok (.aload_n 0, 1) := by decide +kernel
theorem dX6_piece_44 : decode cX6_piece 44 = .ok (.iload_n 1, 1) := by decide +kernel
theorem dX6_piece_45 : decode cX6_piece 45 = .ok (.iconst 0, 1) := by decide +kernel
theorem dX6_piece_46 : decode cX6_piece 46 = .ok (.invokevirtual 147, 3) := by decide +kernel
theorem dX6_piece_49 : decode cX6_piece 49 = .ok (.istore 4, 2) := by decide +kernel
theorem dX6_piece_51 : decode cX6_piece 51 = .ok (.iconst 0, 1) := by decide +kernel
theorem dX6_piece_52 : decode cX6_piece 52 = .ok (.istore 5, 2) := by decide +kernel
theorem dX6_piece_54 : decode cX6_piece 54 = .ok (.iload 5, 2) := by decide +kernel
theorem dX6_piece_56 : decode cX6_piece 56 = .ok (.iload_n 2, 1) := by decide +kernel
theorem dX6_piece_57 : decode cX6_piece 57 = .ok (.if_icmp .ge 22, 3) := by decide +kernel
theorem dX6_piece_60 : decode cX6_piece 60 = .ok (.aload_n 0, 1) := by decide +kernel
theorem dX6_piece_61 : decode cX6_piece 61 = .ok (.iload_n 1, 1) := by decide +kernel
theorem dX6_piece_62 : decode cX6_piece 62 = .ok (.aload_n 0, 1) := by decide +kernel
theorem dX6_piece_63 : decode cX6_piece 63 = .ok (.iload 4, 2) := by decide +kernel
theorem dX6_piece_65 : decode cX6_piece 65 = .ok (.invokevirtual 73, 3) := by decide +kernel
theorem dX6_piece_68 : decode cX6_piece 68 = .ok (.invokevirtual 147, 3) := by decide +kernel
theorem dX6_piece_71 : decode cX6_piece 71 = .ok (.istore 4, 2) := by decide +kernel
theorem dX6_piece_73 : decode cX6_piece 73 = .ok (.iinc 5 1, 3) := by decide +kernel
theorem dX6_piece_76 : decode cX6_piece 76 = .ok (.goto (-22), 3) := by decide +kernel
theorem dX6_piece_79 : decode cX6_piece 79 = .ok (.aload_n 0, 1) := by decide +kernel
theorem dX6_piece_80 : decode cX6_piece 80 = .ok (.iload 4, 2) := by decide +kernel
theorem dX6_piece_82 : decode cX6_piece 82 = .ok (.iload_n 3, 1) := by decide +kernel
theorem dX6_piece_83 : decode cX6_piece 83 = .ok (.invokevirtual 150, 3) := by decide +kernel
theorem dX6_piece_86 : decode cX6_piece 86 = .ok (.ireturn, 1) := by decide +kernel
theorem dX6_cuts_0 : decode cX6_cuts 0 = .ok (.aload_n 0, 1) := by decide +kernel
theorem dX6_cuts_1 : decode cX6_cuts 1 = .ok (.iconst 0, 1) := by decide +kernel
theorem dX6_cuts_2 : decode cX6_cuts 2 = .ok (.putfield 36, 3) := by decide +kernel
theorem dX6_cuts_5 : decode cX6_cuts 5 = .ok (.aload_n 0, 1) := by decide +kernel
theorem dX6_cuts_6 : decode cX6_cuts 6 = .ok (.iload_n 1, 1) := by decide +kernel
theorem dX6_cuts_7 : decode cX6_cuts 7 = .ok (.invokevirtual 53, 3) := by decide +kernel
theorem dX6_cuts_10 : decode cX6_cuts 10 = .ok (.ifCond .ne 9, 3) := by decide +kernel
theorem dX6_cuts_13 : decode cX6_cuts 13 = .ok (.aload_n 0, 1) := by decide +kernel
theorem dX6_cuts_14 : decode cX6_cuts 14 = .ok (.iconst 1, 1) := by decide +kernel
theorem dX6_cuts_15 : decode cX6_cuts 15 = .ok (.invokevirtual 49, 3) := by decide +kernel
theorem dX6_cuts_18 : decode cX6_cuts 18 = .ok (.ireturn, 1) := by decide +kernel
theorem dX6_cuts_19 : decode cX6_cuts 19 = .ok (.iconst 0, 1) := by decide +kernel
theorem dX6_cuts_20 : decode cX6_cuts 20 = .ok (.istore_n 2, 1) := by decide +kernel
theorem dX6_cuts_21 : decode cX6_cuts 21 = .ok (.iconst (-1), 1) := by decide +kernel
theorem dX6_cuts_22 : decode cX6_cuts 22 = .ok (.istore_n 3, 1) := by decide +kernel
theorem dX6_cuts_23 : decode cX6_cuts 23 = .ok (.aload_n 0, 1) := by decide +kernel
theorem dX6_cuts_24 : decode cX6_cuts 24 = .ok (.iload_n 1, 1) := by decide +kernel
theorem dX6_cuts_25 : decode cX6_cuts 25 = .ok (.iconst 0, 1) := by decide +kernel
theorem dX6_cuts_26 : decode cX6_cuts 26 = .ok (.invokevirtual 147, 3) := by decide +kernel
theorem dX6_cuts_29 : decode cX6_cuts 29 = .ok (.istore 4, 2) := by decide +kernel
theorem dX6_cuts_31 : decode cX6_cuts 31 = .ok (.iload 4, 2) := by decide +kernel
theorem dX6_cuts_33 : decode cX6_cuts 33 = .ok (.iconst (-1), 1) := by decide +kernel
theorem dX6_cuts_34 : decode cX6_cuts 34 = .ok (.if_icmp .eq 75, 3) := by decide +kernel
theorem dX6_cuts_37 : decode cX6_cuts 37 = .ok (.aload_n 0, 1) := by decide +kernel
theorem dX6_cuts_38 : decode cX6_cuts 38 = .ok (.iload 4, 2) := by decide +kernel
theorem dX6_cuts_40 : decode cX6_cuts 40 = .ok (.invokevirtual 70, 3) := by decide +kernel
theorem dX6_cuts_43 : decode cX6_cuts 43 = .ok (.ifCond .le 30, 3) := by decide +kernel
theorem dX6_cuts_46 : decode cX6_cuts 46 = .ok (.iload_n 3, 1) := by decide +kernel
theorem dX6_cuts_47 : decode cX6_cuts 47 = .ok (.iconst (-1), 1) := by decide +kernel
theorem dX6_cuts_48 : decode cX6_cuts 48 = .ok (.if_icmp .eq 22, 3) := by decide +kernel
theorem dX6_cuts_51 : decode cX6_cuts 51 = .ok (.aload_n 0, 1) := by decide +kernel
theorem dX6_cuts_52 : decode cX6_cuts 52 = .ok (.iload 4, 2) := by decide +kernel
theorem dX6_cuts_54 : decode cX6_cuts 54 = .ok (.invokevirtual 70, 3) := by decide +kernel
theorem dX6_cuts_57 : decode cX6_cuts 57 = .ok (.aload_n 0, 1) := by decide +kernel
theorem dX6_cuts_58 : decode cX6_cuts 58 = .ok (.iload_n 3, 1) := by decide +kernel
theorem dX6_cuts_59 : decode cX6_cuts 59 = .ok (.invokevirtual 73, 3) := by decide +kernel
theorem dX6_cuts_62 : decode cX6_cuts 62 = .ok (.isub, 1) := by decide +kernel
theorem dX6_cuts_63 : decode cX6_cuts 63 = .ok (.aload_n 0, 1) := by decide +kernel
theorem dX6_cuts_64 : decode cX6_cuts 64 = .ok (.getfield 23, 3) := by decide +kernel
theorem dX6_cuts_67 : decode cX6_cuts 67 = .ok (.if_icmp .eq 6, 3) := by decide +kernel
theorem dX6_cuts_70 : decode cX6_cuts 70 = .ok (.iinc 2 1, 3) := by decide +kernel
theorem dX6_cuts_73 : decode cX6_cuts 73 = .ok (.aload_n 0, 1) := by decide +kernel
theorem dX6_cuts_74 : decode cX6_cuts 74 = .ok (.iload 4, 2) := by decide +kernel
theorem dX6_cuts_76 : decode cX6_cuts 76 = .ok (.invokevirtual 73, 3) := by decide +kernel
theorem dX6_cuts_79 : decode cX6_cuts 79 = .ok (.aload_n 0, 1) := by decide +kernel
theorem dX6_cuts_80 : decode cX6_cuts 80 = .ok (.iload_n 1, 1) := by decide +kernel
theorem dX6_cuts_81 : decode cX6_cuts 81 = .ok (.invokevirtual 57, 3) := by decide +kernel
theorem dX6_cuts_84 : decode cX6_cuts 84 = .ok (.if_icmp .ge 6, 3) := by decide +kernel
theorem dX6_cuts_87 : decode cX6_cuts 87 = .ok (.iinc 2 1, 3) := by decide +kernel
theorem dX6_cuts_90 : decode cX6_cuts 90 = .ok (.iload 4, 2) := by decide +kernel
theorem dX6_cuts_92 : decode cX6_cuts 92 = .ok (.istore_n 3, 1) := by decide +kernel
theorem dX6_cuts_93 : decode cX6_cuts 93 = .ok (.aload_n 0, 1) := by decide +kernel
theorem dX6_cuts_94 : decode cX6_cuts 94 = .ok (.iload_n 1, 1) := by decide +kernel
theorem dX6_cuts_95 : decode cX6_cuts 95 = .ok (.aload_n 0, 1) := by decide +kernel
theorem dX6_cuts_96 : decode cX6_cuts 96 = .ok (.iload 4, 2) := by decide +kernel
theorem dX6_cuts_98 : decode cX6_cuts 98 = .ok (.invokevirtual 73, 3) := by decide +kernel
theorem dX6_cuts_101 : decode cX6_cuts 101 = .ok (.invokevirtual 147, 3) := by decide +kernel
theorem dX6_cuts_104 : decode cX6_cuts 104 = .ok (.istore 4, 2) := by decide +kernel
theorem dX6_cuts_106 : decode cX6_cuts 106 = .ok (.goto (-75), 3) := by decide +kernel
theorem dX6_cuts_109 : decode cX6_cuts 109 = .ok (.iload_n 2, 1) := by decide +kernel
theorem dX6_cuts_110 : decode cX6_cuts 110 = .ok (.ireturn, 1) := by decide +kernel
theorem dX6_longestRoom_0 : decode cX6_longestRoom 0 = .ok (.aload_n 0, 1) := by decide +kernel
theorem dX6_longestRoom_1 : decode cX6_longestRoom 1 = .ok (.iconst 0, 1) := by decide +kernel
theorem dX6_longestRoom_2 : decode cX6_longestRoom 2 = .ok (.putfield 36, 3) := by decide +kernel
theorem dX6_longestRoom_5 : decode cX6_longestRoom 5 = .ok (.aload_n 0, 1) := by decide +kernel
theorem dX6_longestRoom_6 : decode cX6_longestRoom 6 = .ok (.iload_n 1, 1) := by decide +kernel
theorem dX6_longestRoom_7 : decode cX6_longestRoom 7 = .ok (.invokevirtual 53, 3) := by decide +kernel
theorem dX6_longestRoom_10 : decode cX6_longestRoom 10 = .ok (.ifCond .ne 9, 3) := by decide +kernel
theorem dX6_longestRoom_13 : decode cX6_longestRoom 13 = .ok (.aload_n 0, 1) := by decide +kernel
theorem dX6_longestRoom_14 : decode cX6_longestRoom 14 = .ok (.iconst 1, 1) := by decide +kernel
theorem dX6_longestRoom_15 : decode cX6_longestRoom 15 = .ok (.invokevirtual 49, 3) := by decide +kernel
theorem dX6_longestRoom_18 : decode cX6_longestRoom 18 = .ok (.ireturn, 1) := by decide +kernel
theorem dX6_longestRoom_19 : decode cX6_longestRoom 19 = .ok (.iconst 0, 1) := by decide +kernel
theorem dX6_longestRoom_20 : decode cX6_longestRoom 20 = .ok (.istore_n 2, 1) := by decide +kernel
theorem dX6_longestRoom_21 : decode cX6_longestRoom 21 = .ok (.iconst 0, 1) := by decide +kernel
theorem dX6_longestRoom_22 : decode cX6_longestRoom 22 = .ok (.istore_n 3, 1) := by decide +kernel
theorem dX6_longestRoom_23 : decode cX6_longestRoom 23 = .ok (.aload_n 0, 1) := by decide +kernel
theorem dX6_longestRoom_24 : decode cX6_longestRoom 24 = .ok (.iload_n 1, 1) := by decide +kernel
theorem dX6_longestRoom_25 : decode cX6_longestRoom 25 = .ok (.iconst 0, 1) := by decide +kernel
theorem dX6_longestRoom_26 : decode cX6_longestRoom 26 = .ok (.invokevirtual 147, 3) := by decide +kernel
theorem dX6_longestRoom_29 : decode cX6_longestRoom 29 = .ok (.istore 4, 2) := by decide +kernel
theorem dX6_longestRoom_31 : decode cX6_longestRoom 31 = .ok (.iload 4, 2) := by decide +kernel
theorem dX6_longestRoom_33 : decode cX6_longestRoom 33 = .ok (.iconst (-1), 1) := by decide +kernel
theorem dX6_longestRoom_34 : decode cX6_longestRoom 34 = .ok (.if_icmp .eq 49, 3) := by decide +kernel
theorem dX6_longestRoom_37 : decode cX6_longestRoom 37 = .ok (.iload_n 2, 1) := by decide +kernel
theorem dX6_longestRoom_38 : decode cX6_longestRoom 38 = .ok (.aload_n 0, 1) := by decide +kernel
theorem dX6_longestRoom_39 : decode cX6_longestRoom 39 = .ok (.iload 4, 2) := by decide +kernel
theorem dX6_longestRoom_41 : decode cX6_longestRoom 41 = .ok (.invokevirtual 70, 3) := by decide +kernel
theorem dX6_longestRoom_44 : decode cX6_longestRoom 44 = .ok (.aload_n 0, 1) := by decide +kernel
theorem dX6_longestRoom_45 : decode cX6_longestRoom 45 = .ok (.getfield 23, 3) := by decide +kernel
theorem dX6_longestRoom_48 : decode cX6_longestRoom 48 = .ok (.isub, 1) := by decide +kernel
theorem dX6_longestRoom_49 : decode cX6_longestRoom 49 = .ok (.iload_n 3, 1) := by decide +kernel
theorem dX6_longestRoom_50 : decode cX6_longestRoom 50 = .ok (.isub, 1) := by decide +kernel
theorem dX6_longestRoom_51 : decode cX6_longestRoom 51 = .ok (.invokestatic 83, 3) := by decide +kernel
theorem dX6_longestRoom_54 : decode cX6_longestRoom 54 = .ok (.istore_n 2, 1) := by decide +kernel
theorem dX6_longestRoom_55 : decode cX6_longestRoom 55 = .ok (.aload_n 0, 1) := by decide +kernel
theorem dX6_longestRoom_56 : decode cX6_longestRoom 56 = .ok (.iload 4, 2) := by decide +kernel
theorem dX6_longestRoom_58 : decode cX6_longestRoom 58 = .ok (.invokevirtual 73, 3) := by decide +kernel
theorem dX6_longestRoom_61 : decode cX6_longestRoom 61 = .ok (.aload_n 0, 1) := by decide +kernel
theorem dX6_longestRoom_62 : decode cX6_longestRoom 62 = .ok (.getfield 23, 3) := by decide +kernel
theorem dX6_longestRoom_65 : decode cX6_longestRoom 65 = .ok (.iadd, 1) := by decide +kernel
theorem dX6_longestRoom_66 : decode cX6_longestRoom 66 = .ok (.istore_n 3, 1) := by decide +kernel
theorem dX6_longestRoom_67 : decode cX6_longestRoom 67 = .ok (.aload_n 0, 1) := by decide +kernel
theorem dX6_longestRoom_68 : decode cX6_longestRoom 68 = .ok (.iload_n 1, 1) := by decide +kernel
theorem dX6_longestRoom_69 : decode cX6_longestRoom 69 = .ok (.aload_n 0, 1) := by decide +kernel
theorem dX6_longestRoom_70 : decode cX6_longestRoom 70 = .ok (.iload 4, 2) := by decide +kernel
theorem dX6_longestRoom_72 : decode cX6_longestRoom 72 = .ok (.invokevirtual 73, 3) := by decide +kernel
theorem dX6_longestRoom_75 : decode cX6_longestRoom 75 = .ok (.invokevirtual 147, 3) := by decide +kernel
theorem dX6_longestRoom_78 : decode cX6_longestRoom 78 = .ok (.istore 4, 2) := by decide +kernel
theorem dX6_longestRoom_80 : decode cX6_longestRoom 80 = .ok (.goto (-49), 3) := by decide +kernel
theorem dX6_longestRoom_83 : decode cX6_longestRoom 83 = .ok (.iload_n 2, 1) := by decide +kernel
theorem dX6_longestRoom_84 : decode cX6_longestRoom 84 = .ok (.aload_n 0, 1) := by decide +kernel
theorem dX6_longestRoom_85 : decode cX6_longestRoom 85 = .ok (.iload_n 1, 1) := by decide +kernel
theorem dX6_longestRoom_86 : decode cX6_longestRoom 86 = .ok (.invokevirtual 57, 3) := by decide +kernel
theorem dX6_longestRoom_89 : decode cX6_longestRoom 89 = .ok (.iload_n 3, 1) := by decide +kernel
theorem dX6_longestRoom_90 : decode cX6_longestRoom 90 = .ok (.isub, 1) := by decide +kernel
theorem dX6_longestRoom_91 : decode cX6_longestRoom 91 = .ok (.invokestatic 83, 3) := by decide +kernel
theorem dX6_longestRoom_94 : decode cX6_longestRoom 94 = .ok (.ireturn, 1) := by decide +kernel
theorem dX6_bestUse_0 : decode cX6_bestUse 0 = .ok (.aload_n 0, 1) := by decide +kernel
theorem dX6_bestUse_1 : decode cX6_bestUse 1 = .ok (.iconst 0, 1) := by decide +kernel
theorem dX6_bestUse_2 : decode cX6_bestUse 2 = .ok (.putfield 36, 3) := by decide +kernel
theorem dX6_bestUse_5 : decode cX6_bestUse 5 = .ok (.aload_n 0, 1) := by decide +kernel
theorem dX6_bestUse_6 : decode cX6_bestUse 6 = .ok (.iload_n 1, 1) := by decide +kernel
theorem dX6_bestUse_7 : decode cX6_bestUse 7 = .ok (.invokevirtual 53, 3) := by decide +kernel
theorem dX6_bestUse_10 : decode cX6_bestUse 10 = .ok (.ifCond .ne 9, 3) := by decide +kernel
theorem dX6_bestUse_13 : decode cX6_bestUse 13 = .ok (.aload_n 0, 1) := by decide +kernel
theorem dX6_bestUse_14 : decode cX6_bestUse 14 = .ok (.iconst 1, 1) := by decide +kernel
theorem dX6_bestUse_15 : decode cX6_bestUse 15 = .ok (.invokevirtual 49, 3) := by decide +kernel
theorem dX6_bestUse_18 : decode cX6_bestUse 18 = .ok (.ireturn, 1) := by decide +kernel
theorem dX6_bestUse_19 : decode cX6_bestUse 19 = .ok (.iload_n 2, 1) := by decide +kernel
theorem dX6_bestUse_20 : decode cX6_bestUse 20 = .ok (.iconst 0, 1) := by decide +kernel
theorem dX6_bestUse_21 : decode cX6_bestUse 21 = .ok (.iconst 3, 1) := by decide +kernel
theorem dX6_bestUse_22 : decode cX6_bestUse 22 = .ok (.invokestatic 42, 3) := by decide +kernel
theorem dX6_bestUse_25 : decode cX6_bestUse 25 = .ok (.ifCond .eq 14, 3) := by decide +kernel
theorem dX6_bestUse_28 : decode cX6_bestUse 28 = .ok (.iload_n 3, 1) := by decide +kernel
theorem dX6_bestUse_29 : decode cX6_bestUse 29 = .ok (.iconst 0, 1) := by decide +kernel
theorem dX6_bestUse_30 : decode cX6_bestUse 30 = .ok (.sipush 3000, 3) := by decide +kernel
theorem dX6_bestUse_33 : decode cX6_bestUse 33 = .ok (.invokestatic 42, 3) := by decide +kernel
theorem dX6_bestUse_36 : decode cX6_bestUse 36 = .ok (.ifCond .ne 9, 3) := by decide +kernel
theorem dX6_bestUse_39 : decode cX6_bestUse 39 = .ok (.aload_n 0, 1) := by decide +kernel
theorem dX6_bestUse_40 : decode cX6_bestUse 40 = .ok (.iconst 2, 1) := by decide +kernel
theorem dX6_bestUse_41 : decode cX6_bestUse 41 = .ok (.invokevirtual 49, 3) := by decide +kernel
theorem dX6_bestUse_44 : decode cX6_bestUse 44 = .ok (.ireturn, 1) := by decide +kernel
theorem dX6_bestUse_45 : decode cX6_bestUse 45 = .ok (.iload_n 3, 1) := by decide +kernel
theorem dX6_bestUse_46 : decode cX6_bestUse 46 = .ok (.aload_n 0, 1) := by decide +kernel
theorem dX6_bestUse_47 : decode cX6_bestUse 47 = .ok (.getfield 23, 3) := by decide +kernel
theorem dX6_bestUse_50 : decode cX6_bestUse 50 = .ok (.iadd, 1) := by decide +kernel
theorem dX6_bestUse_51 : decode cX6_bestUse 51 = .ok (.istore 4, 2) := by decide +kernel
theorem dX6_bestUse_53 : decode cX6_bestUse 53 = .ok (.iload 4, 2) := by decide +kernel
theorem dX6_bestUse_55 : decode cX6_bestUse 55 = .ok (.iconst 1, 1) := by decide +kernel
theorem dX6_bestUse_56 : decode cX6_bestUse 56 = .ok (.iadd, 1) := by decide +kernel
theorem dX6_bestUse_57 : decode cX6_bestUse 57 = .ok (.newarray .int, 2) := by decide +kernel
theorem dX6_bestUse_59 : decode cX6_bestUse 59 = .ok (.astore 5, 2) := by decide +kernel
theorem dX6_bestUse_61 : decode cX6_bestUse 61 = .ok (.iconst 0, 1) := by decide +kernel
theorem dX6_bestUse_62 : decode cX6_bestUse 62 = .ok (.istore 6, 2) := by decide +kernel
theorem dX6_bestUse_64 : decode cX6_bestUse 64 = .ok (.iload 6, 2) := by decide +kernel
theorem dX6_bestUse_66 : decode cX6_bestUse 66 = .ok (.aload_n 0, 1) := by decide +kernel
theorem dX6_bestUse_67 : decode cX6_bestUse 67 = .ok (.getfield 46, 3) := by decide +kernel
theorem dX6_bestUse_70 : decode cX6_bestUse 70 = .ok (.if_icmp .ge 119, 3) := by decide +kernel
theorem dX6_bestUse_73 : decode cX6_bestUse 73 = .ok (.aload_n 0, 1) := by decide +kernel
theorem dX6_bestUse_74 : decode cX6_bestUse 74 = .ok (.iload 6, 2) := by decide +kernel
theorem dX6_bestUse_76 : decode cX6_bestUse 76 = .ok (.iconst 1, 1) := by decide +kernel
theorem dX6_bestUse_77 : decode cX6_bestUse 77 = .ok (.invokevirtual 79, 3) := by decide +kernel
theorem dX6_bestUse_80 : decode cX6_bestUse 80 = .ok (.aload_n 0, 1) := by decide +kernel
theorem dX6_bestUse_81 : decode cX6_bestUse 81 = .ok (.iload_n 1, 1) := by decide +kernel
theorem dX6_bestUse_82 : decode cX6_bestUse 82 = .ok (.invokevirtual 107, 3) := by decide +kernel
theorem dX6_bestUse_85 : decode cX6_bestUse 85 = .ok (.if_icmp .gt 98, 3) := by decide +kernel
theorem dX6_bestUse_88 : decode cX6_bestUse 88 = .ok (.aload_n 0, 1) := by decide +kernel
theorem dX6_bestUse_89 : decode cX6_bestUse 89 = .ok (.iload 6, 2) := by decide +kernel
theorem dX6_bestUse_91 : decode cX6_bestUse 91 = .ok (.iconst 2, 1) := by decide +kernel
theorem dX6_bestUse_92 : decode cX6_bestUse 92 = .ok (.invokevirtual 79, 3) := by decide +kernel
theorem dX6_bestUse_95 : decode cX6_bestUse 95 = .ok (.iload_n 2, 1) := by decide +kernel
theorem dX6_bestUse_96 : decode cX6_bestUse 96 = .ok (.if_icmp .ge 6, 3) := by decide +kernel
theorem dX6_bestUse_99 : decode cX6_bestUse 99 = .ok (.goto 84, 3) := by decide +kernel
theorem dX6_bestUse_102 : decode cX6_bestUse 102 = .ok (.aload_n 0, 1) := by decide +kernel
theorem dX6_bestUse_103 : decode cX6_bestUse 103 = .ok (.iload 6, 2) := by decide +kernel
theorem dX6_bestUse_105 : decode cX6_bestUse 105 = .ok (.iconst 0, 1) := by decide +kernel
theorem dX6_bestUse_106 : decode cX6_bestUse 106 = .ok (.invokevirtual 79, 3) := by decide +kernel
theorem dX6_bestUse_109 : decode cX6_bestUse 109 = .ok (.aload_n 0, 1) := by decide +kernel
theorem dX6_bestUse_110 : decode cX6_bestUse 110 = .ok (.getfield 23, 3) := by decide +kernel
theorem dX6_bestUse_113 : decode cX6_bestUse 113 = .ok (.iadd, 1) := by decide +kernel
theorem dX6_bestUse_114 : decode cX6_bestUse 114 = .ok (.istore 7, 2) := by decide +kernel
theorem dX6_bestUse_116 : decode cX6_bestUse 116 = .ok (.iconst 0, 1) := by decide +kernel
theorem dX6_bestUse_117 : decode cX6_bestUse 117 = .ok (.istore 8, 2) := by decide +kernel
theorem dX6_bestUse_119 : decode cX6_bestUse 119 = .ok (.iload 8, 2) := by decide +kernel
theorem dX6_bestUse_121 : decode cX6_bestUse 121 = .ok (.aload_n 0, 1) := by decide +kernel
theorem dX6_bestUse_122 : decode cX6_bestUse 122 = .ok (.iload 6, 2) := by decide +kernel
theorem dX6_bestUse_124 : decode cX6_bestUse 124 = .ok (.iconst 3, 1) := by decide +kernel
theorem dX6_bestUse_125 : decode cX6_bestUse 125 = .ok (.invokevirtual 79, 3) := by decide +kernel
theorem dX6_bestUse_128 : decode cX6_bestUse 128 = .ok (.if_icmp .ge 55, 3) := by decide +kernel
theorem dX6_bestUse_131 : decode cX6_bestUse 131 = .ok (.iload 4, 2) := by decide +kernel
theorem dX6_bestUse_133 : decode cX6_bestUse 133 = .ok (.istore 9, 2) := by decide +kernel
theorem dX6_bestUse_135 : decode cX6_bestUse 135 = .ok (.iload 9, 2) := by decide +kernel
theorem dX6_bestUse_137 : decode cX6_bestUse 137 = .ok (.iload 7, 2) := by decide +kernel
theorem dX6_bestUse_139 : decode cX6_bestUse 139 = .ok (.if_icmp .lt 38, 3) := by decide +kernel
theorem dX6_bestUse_142 : decode cX6_bestUse 142 = .ok (.aload 5, 2) := by decide +kernel
theorem dX6_bestUse_144 : decode cX6_bestUse 144 = .ok (.iload 9, 2) := by decide +kernel
theorem dX6_bestUse_146 : decode cX6_bestUse 146 = .ok (.aload 5, 2) := by decide +kernel
theorem dX6_bestUse_148 : decode cX6_bestUse 148 = .ok (.iload 9, 2) := by decide +kernel
theorem dX6_bestUse_150 : decode cX6_bestUse 150 = .ok (.iaload, 1) := by decide +kernel
theorem dX6_bestUse_151 : decode cX6_bestUse 151 = .ok (.aload 5, 2) := by decide +kernel
theorem dX6_bestUse_153 : decode cX6_bestUse 153 = .ok (.iload 9, 2) := by decide +kernel
theorem dX6_bestUse_155 : decode cX6_bestUse 155 = .ok (.iload 7, 2) := by decide +kernel
theorem dX6_bestUse_157 : decode cX6_bestUse 157 = .ok (.isub, 1) := by decide +kernel
theorem dX6_bestUse_158 : decode cX6_bestUse 158 = .ok (.iaload, 1) := by decide +kernel
theorem dX6_bestUse_159 : decode cX6_bestUse 159 = .ok (.aload_n 0, 1) := by decide +kernel
theorem dX6_bestUse_160 : decode cX6_bestUse 160 = .ok (.iload 6, 2) := by decide +kernel
theorem dX6_bestUse_162 : decode cX6_bestUse 162 = .ok (.iconst 0, 1) := by decide +kernel
theorem dX6_bestUse_163 : decode cX6_bestUse 163 = .ok (.invokevirtual 79, 3) := by decide +kernel
theorem dX6_bestUse_166 : decode cX6_bestUse 166 = .ok (.iadd, 1) := by decide +kernel
theorem dX6_bestUse_167 : decode cX6_bestUse 167 = .ok (.invokestatic 83, 3) := by decide +kernel
theorem dX6_bestUse_170 : decode cX6_bestUse 170 = .ok (.iastore, 1) := by decide +kernel
theorem dX6_bestUse_171 : decode cX6_bestUse 171 = .ok (.iinc 9 (-1), 3) := by decide +kernel
theorem dX6_bestUse_174 : decode cX6_bestUse 174 = .ok (.goto (-39), 3) := by decide +kernel
theorem dX6_bestUse_177 : decode cX6_bestUse 177 = .ok (.iinc 8 1, 3) := by decide +kernel
theorem dX6_bestUse_180 : decode cX6_bestUse 180 = .ok (.goto (-61), 3) := by decide +kernel
theorem dX6_bestUse_183 : decode cX6_bestUse 183 = .ok (.iinc 6 1, 3) := by decide +kernel
theorem dX6_bestUse_186 : decode cX6_bestUse 186 = .ok (.goto (-122), 3) := by decide +kernel
theorem dX6_bestUse_189 : decode cX6_bestUse 189 = .ok (.aload 5, 2) := by decide +kernel
theorem dX6_bestUse_191 : decode cX6_bestUse 191 = .ok (.iload 4, 2) := by decide +kernel
theorem dX6_bestUse_193 : decode cX6_bestUse 193 = .ok (.iaload, 1) := by decide +kernel
theorem dX6_bestUse_194 : decode cX6_bestUse 194 = .ok (.ireturn, 1) := by decide +kernel
theorem dX6_used_0 : decode cX6_used 0 = .ok (.aload_n 0, 1) := by decide +kernel
theorem dX6_used_1 : decode cX6_used 1 = .ok (.iconst 0, 1) := by decide +kernel
theorem dX6_used_2 : decode cX6_used 2 = .ok (.putfield 36, 3) := by decide +kernel
theorem dX6_used_5 : decode cX6_used 5 = .ok (.lconst 0, 1) := by decide +kernel
theorem dX6_used_6 : decode cX6_used 6 = .ok (.lstore_n 1, 1) := by decide +kernel
theorem dX6_used_7 : decode cX6_used 7 = .ok (.lconst 0, 1) := by decide +kernel
theorem dX6_used_8 : decode cX6_used 8 = .ok (.lstore_n 3, 1) := by decide +kernel
theorem dX6_used_9 : decode cX6_used 9 = .ok (.iconst 0, 1) := by decide +kernel
theorem dX6_used_10 : decode cX6_used 10 = .ok (.istore 5, 2) := by decide +kernel
theorem dX6_used_12 : decode cX6_used 12 = .ok (.iload 5, 2) := by decide +kernel
theorem dX6_used_14 : decode cX6_used 14 = .ok (.aload_n 0, 1) := by decide +kernel
theorem dX6_used_15 : decode cX6_used 15 = .ok (.getfield 39, 3) := by decide +kernel
theorem dX6_used_18 : decode cX6_used 18 = .ok (.if_icmp .ge 102, 3) := by decide +kernel
theorem dX6_used_21 : decode cX6_used 21 = .ok (.aload_n 0, 1) := by decide +kernel
theorem dX6_used_22 : decode cX6_used 22 = .ok (.iload 5, 2) := by decide +kernel
theorem dX6_used_24 : decode cX6_used 24 = .ok (.invokevirtual 144, 3) := by decide +kernel
theorem dX6_used_27 : decode cX6_used 27 = .ok (.ifCond .ne 6, 3) := by decide +kernel
theorem dX6_used_30 : decode cX6_used 30 = .ok (.goto 84, 3) := by decide +kernel
theorem dX6_used_33 : decode cX6_used 33 = .ok (.lload_n 3, 1) := by decide +kernel
theorem dX6_used_34 : decode cX6_used 34 = .ok (.aload_n 0, 1) := by decide +kernel
theorem dX6_used_35 : decode cX6_used 35 = .ok (.iload 5, 2) := by decide +kernel
theorem dX6_used_37 : decode cX6_used 37 = .ok (.invokevirtual 57, 3) := by decide +kernel
theorem dX6_used_40 : decode cX6_used 40 = .ok (.i2l, 1) := by decide +kernel
theorem dX6_used_41 : decode cX6_used 41 = .ok (.aload_n 0, 1) := by decide +kernel
theorem dX6_used_42 : decode cX6_used 42 = .ok (.iload 5, 2) := by decide +kernel
theorem dX6_used_44 : decode cX6_used 44 = .ok (.invokevirtual 107, 3) := by decide +kernel
theorem dX6_used_47 : decode cX6_used 47 = .ok (.i2l, 1) := by decide +kernel
theorem dX6_used_48 : decode cX6_used 48 = .ok (.lmul, 1) := by decide +kernel
theorem dX6_used_49 : decode cX6_used 49 = .ok (.ladd, 1) := by decide +kernel
theorem dX6_used_50 : decode cX6_used 50 = .ok (.lstore_n 3, 1) := by decide +kernel
theorem dX6_used_51 : decode cX6_used 51 = .ok (.iconst 0, 1) := by decide +kernel
theorem dX6_used_52 : decode cX6_used 52 = .ok (.istore 6, 2) := by decide +kernel
theorem dX6_used_54 : decode cX6_used 54 = .ok (.iload 6, 2) := by decide +kernel
theorem dX6_used_56 : decode cX6_used 56 = .ok (.aload_n 0, 1) := by decide +kernel
theorem dX6_used_57 : decode cX6_used 57 = .ok (.getfield 63, 3) := by decide +kernel
theorem dX6_used_60 : decode cX6_used 60 = .ok (.if_icmp .ge 54, 3) := by decide +kernel
theorem dX6_used_63 : decode cX6_used 63 = .ok (.lload_n 1, 1) := by decide +kernel
theorem dX6_used_64 : decode cX6_used 64 = .ok (.aload_n 0, 1) := by decide +kernel
theorem dX6_used_65 : decode cX6_used 65 = .ok (.iload 6, 2) := by decide +kernel
theorem dX6_used_67 : decode cX6_used 67 = .ok (.iload 5, 2) := by decide +kernel
theorem dX6_used_69 : decode cX6_used 69 = .ok (.invokevirtual 66, 3) := by decide +kernel
theorem dX6_used_72 : decode cX6_used 72 = .ok (.ifCond .eq 33, 3) := by decide +kernel
theorem dX6_used_75 : decode cX6_used 75 = .ok (.aload_n 0, 1) := by decide +kernel
theorem dX6_used_76 : decode cX6_used 76 = .ok (.iload 6, 2) := by decide +kernel
theorem dX6_used_78 : decode cX6_used 78 = .ok (.invokevirtual 73, 3) := by decide +kernel
theorem dX6_used_81 : decode cX6_used 81 = .ok (.aload_n 0, 1) := by decide +kernel
theorem dX6_used_82 : decode cX6_used 82 = .ok (.iload 6, 2) := by decide +kernel
theorem dX6_used_84 : decode cX6_used 84 = .ok (.invokevirtual 70, 3) := by decide +kernel
theorem dX6_used_87 : decode cX6_used 87 = .ok (.isub, 1) := by decide +kernel
theorem dX6_used_88 : decode cX6_used 88 = .ok (.i2l, 1) := by decide +kernel
theorem dX6_used_89 : decode cX6_used 89 = .ok (.aload_n 0, 1) := by decide +kernel
theorem dX6_used_90 : decode cX6_used 90 = .ok (.aload_n 0, 1) := by decide +kernel
theorem dX6_used_91 : decode cX6_used 91 = .ok (.iload 6, 2) := by decide +kernel
theorem dX6_used_93 : decode cX6_used 93 = .ok (.invokevirtual 76, 3) := by decide +kernel
theorem dX6_used_96 : decode cX6_used 96 = .ok (.iconst 1, 1) := by decide +kernel
theorem dX6_used_97 : decode cX6_used 97 = .ok (.invokevirtual 79, 3) := by decide +kernel
theorem dX6_used_100 : decode cX6_used 100 = .ok (.i2l, 1) := by decide +kernel
theorem dX6_used_101 : decode cX6_used 101 = .ok (.lmul, 1) := by decide +kernel
theorem dX6_used_102 : decode cX6_used 102 = .ok (.goto 4, 3) := by decide +kernel
theorem dX6_used_105 : decode cX6_used 105 = .ok (.lconst 0, 1) := by decide +kernel
theorem dX6_used_106 : decode cX6_used 106 = .ok (.ladd, 1) := by decide +kernel
theorem dX6_used_107 : decode cX6_used 107 = .ok (.lstore_n 1, 1) := by decide +kernel
theorem dX6_used_108 : decode cX6_used 108 = .ok (.iinc 6 1, 3) := by decide +kernel
theorem dX6_used_111 : decode cX6_used 111 = .ok (.goto (-57), 3) := by decide +kernel
theorem dX6_used_114 : decode cX6_used 114 = .ok (.iinc 5 1, 3) := by decide +kernel
theorem dX6_used_117 : decode cX6_used 117 = .ok (.goto (-105), 3) := by decide +kernel
theorem dX6_used_120 : decode cX6_used 120 = .ok (.lload_n 3, 1) := by decide +kernel
theorem dX6_used_121 : decode cX6_used 121 = .ok (.lconst 0, 1) := by decide +kernel
theorem dX6_used_122 : decode cX6_used 122 = .ok (.lcmp, 1) := by decide +kernel
theorem dX6_used_123 : decode cX6_used 123 = .ok (.ifCond .ne 7, 3) := by decide +kernel
theorem dX6_used_126 : decode cX6_used 126 = .ok (.dconst 0, 1) := by decide +kernel
theorem dX6_used_127 : decode cX6_used 127 = .ok (.goto 8, 3) := by decide +kernel
theorem dX6_used_130 : decode cX6_used 130 = .ok (.lload_n 1, 1) := by decide +kernel
theorem dX6_used_131 : decode cX6_used 131 = .ok (.l2d, 1) := by decide +kernel
theorem dX6_used_132 : decode cX6_used 132 = .ok (.lload_n 3, 1) := by decide +kernel
theorem dX6_used_133 : decode cX6_used 133 = .ok (.l2d, 1) := by decide +kernel
theorem dX6_used_134 : decode cX6_used 134 = .ok (.ddiv, 1) := by decide +kernel
theorem dX6_used_135 : decode cX6_used 135 = .ok (.dreturn, 1) := by decide +kernel
theorem dX6_digest_0 : decode cX6_digest 0 = .ok (.aload_n 0, 1) := by decide +kernel
theorem dX6_digest_1 : decode cX6_digest 1 = .ok (.iconst 0, 1) := by decide +kernel
theorem dX6_digest_2 : decode cX6_digest 2 = .ok (.putfield 36, 3) := by decide +kernel
theorem dX6_digest_5 : decode cX6_digest 5 = .ok (.ldc2_w 153, 3) := by decide +kernel
theorem dX6_digest_8 : decode cX6_digest 8 = .ok (.aload_n 0, 1) := by decide +kernel
theorem dX6_digest_9 : decode cX6_digest 9 = .ok (.getfield 23, 3) := by decide +kernel
theorem dX6_digest_12 : decode cX6_digest 12 = .ok (.i2l, 1) := by decide +kernel
theorem dX6_digest_13 : decode cX6_digest 13 = .ok (.ladd, 1) := by decide +kernel
theorem dX6_digest_14 : decode cX6_digest 14 = .ok (.ldc2_w 155, 3) := by decide +kernel
theorem dX6_digest_17 : decode cX6_digest 17 = .ok (.lmul, 1) := by decide +kernel
theorem dX6_digest_18 : decode cX6_digest 18 = .ok (.aload_n 0, 1) := by decide +kernel
theorem dX6_digest_19 : decode cX6_digest 19 = .ok (.getfield 27, 3) := by decide +kernel
theorem dX6_digest_22 : decode cX6_digest 22 = .ok (.i2l, 1) := by decide +kernel
theorem dX6_digest_23 : decode cX6_digest 23 = .ok (.ladd, 1) := by decide +kernel
theorem dX6_digest_24 : decode cX6_digest 24 = .ok (.ldc2_w 155, 3) := by decide +kernel
theorem dX6_digest_27 : decode cX6_digest 27 = .ok (.lmul, 1) := by decide +kernel
theorem dX6_digest_28 : decode cX6_digest 28 = .ok (.aload_n 0, 1) := by decide +kernel
theorem dX6_digest_29 : decode cX6_digest 29 = .ok (.getfield 60, 3) := by decide +kernel
theorem dX6_digest_32 : decode cX6_digest 32 = .ok (.i2l, 1) := by decide +kernel
theorem dX6_digest_33 : decode cX6_digest 33 = .ok (.ladd, 1) := by decide +kernel
theorem dX6_digest_34 : decode cX6_digest 34 = .ok (.lstore_n 1, 1) := by decide +kernel
theorem dX6_digest_35 : decode cX6_digest 35 = .ok (.lload_n 1, 1) := by decide +kernel
theorem dX6_digest_36 : decode cX6_digest 36 = .ok (.ldc2_w 155, 3) := by decide +kernel
theorem dX6_digest_39 : decode cX6_digest 39 = .ok (.lmul, 1) := by decide +kernel
theorem dX6_digest_40 : decode cX6_digest 40 = .ok (.aload_n 0, 1) := by decide +kernel
theorem dX6_digest_41 : decode cX6_digest 41 = .ok (.getfield 46, 3) := by decide +kernel
theorem dX6_digest_44 : decode cX6_digest 44 = .ok (.i2l, 1) := by decide +kernel
theorem dX6_digest_45 : decode cX6_digest 45 = .ok (.ladd, 1) := by decide +kernel
theorem dX6_digest_46 : decode cX6_digest 46 = .ok (.lstore_n 1, 1) := by decide +kernel
theorem dX6_digest_47 : decode cX6_digest 47 = .ok (.iconst 0, 1) := by decide +kernel
theorem dX6_digest_48 : decode cX6_digest 48 = .ok (.istore_n 3, 1) := by decide +kernel
theorem dX6_digest_49 : decode cX6_digest 49 = .ok (.iload_n 3, 1) := by decide +kernel
theorem dX6_digest_50 : decode cX6_digest 50 = .ok (.aload_n 0, 1) := by decide +kernel
theorem dX6_digest_51 : decode cX6_digest 51 = .ok (.getfield 46, 3) := by decide +kernel
theorem dX6_digest_54 : decode cX6_digest 54 = .ok (.if_icmp .ge 23, 3) := by decide +kernel
theorem dX6_digest_57 : decode cX6_digest 57 = .ok (.lload_n 1, 1) := by decide +kernel
theorem dX6_digest_58 : decode cX6_digest 58 = .ok (.ldc2_w 155, 3) := by decide +kernel
theorem dX6_digest_61 : decode cX6_digest 61 = .ok (.lmul, 1) := by decide +kernel
theorem dX6_digest_62 : decode cX6_digest 62 = .ok (.aload_n 0, 1) := by decide +kernel
theorem dX6_digest_63 : decode cX6_digest 63 = .ok (.iload_n 3, 1) := by decide +kernel
theorem dX6_digest_64 : decode cX6_digest 64 = .ok (.iconst 3, 1) := by decide +kernel
theorem dX6_digest_65 : decode cX6_digest 65 = .ok (.invokevirtual 79, 3) := by decide +kernel
theorem dX6_digest_68 : decode cX6_digest 68 = .ok (.i2l, 1) := by decide +kernel
theorem dX6_digest_69 : decode cX6_digest 69 = .ok (.ladd, 1) := by decide +kernel
theorem dX6_digest_70 : decode cX6_digest 70 = .ok (.lstore_n 1, 1) := by decide +kernel
theorem dX6_digest_71 : decode cX6_digest 71 = .ok (.iinc 3 1, 3) := by decide +kernel
theorem dX6_digest_74 : decode cX6_digest 74 = .ok (.goto (-25), 3) := by decide +kernel
theorem dX6_digest_77 : decode cX6_digest 77 = .ok (.lload_n 1, 1) := by decide +kernel
theorem dX6_digest_78 : decode cX6_digest 78 = .ok (.ldc2_w 155, 3) := by decide +kernel
theorem dX6_digest_81 : decode cX6_digest 81 = .ok (.lmul, 1) := by decide +kernel
theorem dX6_digest_82 : decode cX6_digest 82 = .ok (.aload_n 0, 1) := by decide +kernel
theorem dX6_digest_83 : decode cX6_digest 83 = .ok (.getfield 39, 3) := by decide +kernel
theorem dX6_digest_86 : decode cX6_digest 86 = .ok (.i2l, 1) := by decide +kernel
theorem dX6_digest_87 : decode cX6_digest 87 = .ok (.ladd, 1) := by decide +kernel
theorem dX6_digest_88 : decode cX6_digest 88 = .ok (.lstore_n 1, 1) := by decide +kernel
theorem dX6_digest_89 : decode cX6_digest 89 = .ok (.iconst 0, 1) := by decide +kernel
theorem dX6_digest_90 : decode cX6_digest 90 = .ok (.istore_n 3, 1) := by decide +kernel
theorem dX6_digest_91 : decode cX6_digest 91 = .ok (.iload_n 3, 1) := by decide +kernel
theorem dX6_digest_92 : decode cX6_digest 92 = .ok (.aload_n 0, 1) := by decide +kernel
theorem dX6_digest_93 : decode cX6_digest 93 = .ok (.getfield 39, 3) := by decide +kernel
theorem dX6_digest_96 : decode cX6_digest 96 = .ok (.if_icmp .ge 83, 3) := by decide +kernel
theorem dX6_digest_99 : decode cX6_digest 99 = .ok (.lload_n 1, 1) := by decide +kernel
theorem dX6_digest_100 : decode cX6_digest 100 = .ok (.ldc2_w 155, 3) := by decide +kernel
theorem dX6_digest_103 : decode cX6_digest 103 = .ok (.lmul, 1) := by decide +kernel
theorem dX6_digest_104 : decode cX6_digest 104 = .ok (.aload_n 0, 1) := by decide +kernel
theorem dX6_digest_105 : decode cX6_digest 105 = .ok (.iload_n 3, 1) := by decide +kernel
theorem dX6_digest_106 : decode cX6_digest 106 = .ok (.invokevirtual 144, 3) := by decide +kernel
theorem dX6_digest_109 : decode cX6_digest 109 = .ok (.i2l, 1) := by decide +kernel
theorem dX6_digest_110 : decode cX6_digest 110 = .ok (.ladd, 1) := by decide +kernel
theorem dX6_digest_111 : decode cX6_digest 111 = .ok (.lstore_n 1, 1) := by decide +kernel
theorem dX6_digest_112 : decode cX6_digest 112 = .ok (.aload_n 0, 1) := by decide +kernel
theorem dX6_digest_113 : decode cX6_digest 113 = .ok (.iload_n 3, 1) := by decide +kernel
theorem dX6_digest_114 : decode cX6_digest 114 = .ok (.iconst 0, 1) := by decide +kernel
theorem dX6_digest_115 : decode cX6_digest 115 = .ok (.invokevirtual 147, 3) := by decide +kernel
theorem dX6_digest_118 : decode cX6_digest 118 = .ok (.istore 4, 2) := by decide +kernel
theorem dX6_digest_120 : decode cX6_digest 120 = .ok (.iload 4, 2) := by decide +kernel
theorem dX6_digest_122 : decode cX6_digest 122 = .ok (.iconst (-1), 1) := by decide +kernel
theorem dX6_digest_123 : decode cX6_digest 123 = .ok (.if_icmp .eq 50, 3) := by decide +kernel
theorem dX6_digest_126 : decode cX6_digest 126 = .ok (.iconst 0, 1) := by decide +kernel
theorem dX6_digest_127 : decode cX6_digest 127 = .ok (.istore 5, 2) := by decide +kernel
theorem dX6_digest_129 : decode cX6_digest 129 = .ok (.iload 5, 2) := by decide +kernel
theorem dX6_digest_131 : decode cX6_digest 131 = .ok (.iconst 4, 1) := by decide +kernel
theorem dX6_digest_132 : decode cX6_digest 132 = .ok (.if_icmp .ge 25, 3) := by decide +kernel
theorem dX6_digest_135 : decode cX6_digest 135 = .ok (.lload_n 1, 1) := by decide +kernel
theorem dX6_digest_136 : decode cX6_digest 136 = .ok (.ldc2_w 155, 3) := by decide +kernel
theorem dX6_digest_139 : decode cX6_digest 139 = .ok (.lmul, 1) := by decide +kernel
theorem dX6_digest_140 : decode cX6_digest 140 = .ok (.aload_n 0, 1) := by decide +kernel
theorem dX6_digest_141 : decode cX6_digest 141 = .ok (.iload 4, 2) := by decide +kernel
theorem dX6_digest_143 : decode cX6_digest 143 = .ok (.iload 5, 2) := by decide +kernel
theorem dX6_digest_145 : decode cX6_digest 145 = .ok (.invokevirtual 150, 3) := by decide +kernel
theorem dX6_digest_148 : decode cX6_digest 148 = .ok (.i2l, 1) := by decide +kernel
theorem dX6_digest_149 : decode cX6_digest 149 = .ok (.ladd, 1) := by decide +kernel
theorem dX6_digest_150 : decode cX6_digest 150 = .ok (.lstore_n 1, 1) := by decide +kernel
theorem dX6_digest_151 : decode cX6_digest 151 = .ok (.iinc 5 1, 3) := by decide +kernel
theorem dX6_digest_154 : decode cX6_digest 154 = .ok (.goto (-25), 3) := by decide +kernel
theorem dX6_digest_157 : decode cX6_digest 157 = .ok (.aload_n 0, 1) := by decide +kernel
theorem dX6_digest_158 : decode cX6_digest 158 = .ok (.iload_n 3, 1) := by decide +kernel
theorem dX6_digest_159 : decode cX6_digest 159 = .ok (.aload_n 0, 1) := by decide +kernel
theorem dX6_digest_160 : decode cX6_digest 160 = .ok (.iload 4, 2) := by decide +kernel
theorem dX6_digest_162 : decode cX6_digest 162 = .ok (.invokevirtual 73, 3) := by decide +kernel
theorem dX6_digest_165 : decode cX6_digest 165 = .ok (.invokevirtual 147, 3) := by decide +kernel
theorem dX6_digest_168 : decode cX6_digest 168 = .ok (.istore 4, 2) := by decide +kernel
theorem dX6_digest_170 : decode cX6_digest 170 = .ok (.goto (-50), 3) := by decide +kernel
theorem dX6_digest_173 : decode cX6_digest 173 = .ok (.iinc 3 1, 3) := by decide +kernel
theorem dX6_digest_176 : decode cX6_digest 176 = .ok (.goto (-85), 3) := by decide +kernel
theorem dX6_digest_179 : decode cX6_digest 179 = .ok (.lload_n 1, 1) := by decide +kernel
theorem dX6_digest_180 : decode cX6_digest 180 = .ok (.lreturn, 1) := by decide +kernel
end
section
theorem dL_addBoard_0 : decode cL_addBoard 0 = .ok (.aload 4, 2) := by decide +kernel
theorem dL_addBoard_2 : decode cL_addBoard 2 = .ok (.iconst 0, 1) := by decide +kernel
theorem dL_addBoard_3 : decode cL_addBoard 3 = .ok (.aload_n 0, 1) := by decide +kernel
theorem dL_addBoard_4 : decode cL_addBoard 4 = .ok (.iload_n 1, 1) := by decide +kernel
theorem dL_addBoard_5 : decode cL_addBoard 5 = .ok (.iload_n 2, 1) := by decide +kernel
theorem dL_addBoard_6 : decode cL_addBoard 6 = .ok (.iload_n 3, 1) := by decide +kernel
theorem dL_addBoard_7 : decode cL_addBoard 7 = .ok (.invokevirtual 7, 3) := by decide +kernel
theorem dL_addBoard_10 : decode cL_addBoard 10 = .ok (.i2l, 1) := by decide +kernel
theorem dL_addBoard_11 : decode cL_addBoard 11 = .ok (.lastore, 1) := by decide +kernel
theorem dL_addBoard_12 : decode cL_addBoard 12 = .ok (.goto 11, 3) := by decide +kernel
theorem dL_addBoard_15 : decode cL_addBoard 15 = .ok (.astore 5, 2) := by decide +kernel
theorem dL_addBoard_17 : decode cL_addBoard 17 = .ok (.iconst 1, 1) := by decide +kernel
theorem dL_addBoard_18 : decode cL_addBoard 18 = .ok (.ireturn, 1) := by decide +kernel
theorem dL_addBoard_19 : decode cL_addBoard 19 = .ok (.astore 5, 2) := by decide +kernel
theorem dL_addBoard_21 : decode cL_addBoard 21 = .ok (.iconst 2, 1) := by decide +kernel
theorem dL_addBoard_22 : decode cL_addBoard 22 = .ok (.ireturn, 1) := by decide +kernel
theorem dL_addBoard_23 : decode cL_addBoard 23 = .ok (.iconst 0, 1) := by decide +kernel
theorem dL_addBoard_24 : decode cL_addBoard 24 = .ok (.ireturn, 1) := by decide +kernel
theorem dL_addDefect_0 : decode cL_addDefect 0 = .ok (.aload 5, 2) := by decide +kernel
theorem dL_addDefect_2 : decode cL_addDefect 2 = .ok (.iconst 0, 1) := by decide +kernel
theorem dL_addDefect_3 : decode cL_addDefect 3 = .ok (.aload_n 0, 1) := by decide +kernel
theorem dL_addDefect_4 : decode cL_addDefect 4 = .ok (.iload_n 1, 1) := by decide +kernel
theorem dL_addDefect_5 : decode cL_addDefect 5 = .ok (.iload_n 2, 1) := by decide +kernel
theorem dL_addDefect_6 : decode cL_addDefect 6 = .ok (.iload_n 3, 1) := by decide +kernel
theorem dL_addDefect_7 : decode cL_addDefect 7 = .ok (.iload 4, 2) := by decide +kernel
theorem dL_addDefect_9 : decode cL_addDefect 9 = .ok (.invokevirtual 17, 3) := by decide +kernel
theorem dL_addDefect_12 : decode cL_addDefect 12 = .ok (.i2l, 1) := by decide +kernel
theorem dL_addDefect_13 : decode cL_addDefect 13 = .ok (.lastore, 1) := by decide +kernel
theorem dL_addDefect_14 : decode cL_addDefect 14 = .ok (.goto 15, 3) := by decide +kernel
theorem dL_addDefect_17 : decode cL_addDefect 17 = .ok (.astore 6, 2) := by decide +kernel
theorem dL_addDefect_19 : decode cL_addDefect 19 = .ok (.iconst 1, 1) := by decide +kernel
theorem dL_addDefect_20 : decode cL_addDefect 20 = .ok (.ireturn, 1) := by decide +kernel
theorem dL_addDefect_21 : decode cL_addDefect 21 = .ok (.astore 6, 2) := by decide +kernel
theorem dL_addDefect_23 : decode cL_addDefect 23 = .ok (.iconst 2, 1) := by decide +kernel
theorem dL_addDefect_24 : decode cL_addDefect 24 = .ok (.ireturn, 1) := by decide +kernel
theorem dL_addDefect_25 : decode cL_addDefect 25 = .ok (.astore 6, 2) := by decide +kernel
theorem dL_addDefect_27 : decode cL_addDefect 27 = .ok (.iconst 3, 1) := by decide +kernel
theorem dL_addDefect_28 : decode cL_addDefect 28 = .ok (.ireturn, 1) := by decide +kernel
theorem dL_addDefect_29 : decode cL_addDefect 29 = .ok (.iconst 0, 1) := by decide +kernel
theorem dL_addDefect_30 : decode cL_addDefect 30 = .ok (.ireturn, 1) := by decide +kernel
theorem dL_addPart_0 : decode cL_addPart 0 = .ok (.aload 6, 2) := by decide +kernel
theorem dL_addPart_2 : decode cL_addPart 2 = .ok (.iconst 0, 1) := by decide +kernel
theorem dL_addPart_3 : decode cL_addPart 3 = .ok (.aload_n 0, 1) := by decide +kernel
theorem dL_addPart_4 : decode cL_addPart 4 = .ok (.iload_n 1, 1) := by decide +kernel
theorem dL_addPart_5 : decode cL_addPart 5 = .ok (.iload_n 2, 1) := by decide +kernel
theorem dL_addPart_6 : decode cL_addPart 6 = .ok (.iload_n 3, 1) := by decide +kernel
theorem dL_addPart_7 : decode cL_addPart 7 = .ok (.iload 4, 2) := by decide +kernel
theorem dL_addPart_9 : decode cL_addPart 9 = .ok (.iload 5, 2) := by decide +kernel
theorem dL_addPart_11 : decode cL_addPart 11 = .ok (.invokevirtual 23, 3) := by decide +kernel
theorem dL_addPart_14 : decode cL_addPart 14 = .ok (.i2l, 1) := by decide +kernel
theorem dL_addPart_15 : decode cL_addPart 15 = .ok (.lastore, 1) := by decide +kernel
theorem dL_addPart_16 : decode cL_addPart 16 = .ok (.goto 11, 3) := by decide +kernel
theorem dL_addPart_19 : decode cL_addPart 19 = .ok (.astore 7, 2) := by decide +kernel
theorem dL_addPart_21 : decode cL_addPart 21 = .ok (.iconst 1, 1) := by decide +kernel
theorem dL_addPart_22 : decode cL_addPart 22 = .ok (.ireturn, 1) := by decide +kernel
theorem dL_addPart_23 : decode cL_addPart 23 = .ok (.astore 7, 2) := by decide +kernel
theorem dL_addPart_25 : decode cL_addPart 25 = .ok (.iconst 2, 1) := by decide +kernel
theorem dL_addPart_26 : decode cL_addPart 26 = .ok (.ireturn, 1) := by decide +kernel
theorem dL_addPart_27 : decode cL_addPart 27 = .ok (.iconst 0, 1) := by decide +kernel
theorem dL_addPart_28 : decode cL_addPart 28 = .ok (.ireturn, 1) := by decide +kernel
theorem dL_setSaw_0 : decode cL_setSaw 0 = .ok (.aload_n 2, 1) := by decide +kernel
theorem dL_setSaw_1 : decode cL_setSaw 1 = .ok (.iconst 0, 1) := by decide +kernel
theorem dL_setSaw_2 : decode cL_setSaw 2 = .ok (.aload_n 0, 1) := by decide +kernel
theorem dL_setSaw_3 : decode cL_setSaw 3 = .ok (.iload_n 1, 1) := by decide +kernel
theorem dL_setSaw_4 : decode cL_setSaw 4 = .ok (.invokevirtual 27, 3) := by decide +kernel
theorem dL_setSaw_7 : decode cL_setSaw 7 = .ok (.i2l, 1) := by decide +kernel
theorem dL_setSaw_8 : decode cL_setSaw 8 = .ok (.lastore, 1) := by decide +kernel
theorem dL_setSaw_9 : decode cL_setSaw 9 = .ok (.goto 9, 3) := by decide +kernel
theorem dL_setSaw_12 : decode cL_setSaw 12 = .ok (.astore_n 3, 1) := by decide +kernel
theorem dL_setSaw_13 : decode cL_setSaw 13 = .ok (.iconst 1, 1) := by decide +kernel
theorem dL_setSaw_14 : decode cL_setSaw 14 = .ok (.ireturn, 1) := by decide +kernel
theorem dL_setSaw_15 : decode cL_setSaw 15 = .ok (.astore_n 3, 1) := by decide +kernel
theorem dL_setSaw_16 : decode cL_setSaw 16 = .ok (.iconst 2, 1) := by decide +kernel
theorem dL_setSaw_17 : decode cL_setSaw 17 = .ok (.ireturn, 1) := by decide +kernel
theorem dL_setSaw_18 : decode cL_setSaw 18 = .ok (.iconst 0, 1) := by decide +kernel
theorem dL_setSaw_19 : decode cL_setSaw 19 = .ok (.ireturn, 1) := by decide +kernel
theorem dL_setJoint_0 : decode cL_setJoint 0 = .ok (.aload_n 2, 1) := by decide +kernel
theorem dL_setJoint_1 : decode cL_setJoint 1 = .ok (.iconst 0, 1) := by decide +kernel
theorem dL_setJoint_2 : decode cL_setJoint 2 = .ok (.aload_n 0, 1) := by decide +kernel
theorem dL_setJoint_3 : decode cL_setJoint 3 = .ok (.iload_n 1, 1) := by decide +kernel
theorem dL_setJoint_4 : decode cL_setJoint 4 = .ok (.invokevirtual 31, 3) := by decide +kernel
theorem dL_setJoint_7 : decode cL_setJoint 7 = .ok (.i2l, 1) := by decide +kernel
theorem dL_setJoint_8 : decode cL_setJoint 8 = .ok (.lastore, 1) := by decide +kernel
theorem dL_setJoint_9 : decode cL_setJoint 9 = .ok (.goto 6, 3) := by decide +kernel
theorem dL_setJoint_12 : decode cL_setJoint 12 = .ok (.astore_n 3, 1) := by decide +kernel
theorem dL_setJoint_13 : decode cL_setJoint 13 = .ok (.iconst 1, 1) := by decide +kernel
theorem dL_setJoint_14 : decode cL_setJoint 14 = .ok (.ireturn, 1) := by decide +kernel
theorem dL_setJoint_15 : decode cL_setJoint 15 = .ok (.iconst 0, 1) := by decide +kernel
theorem dL_setJoint_16 : decode cL_setJoint 16 = .ok (.ireturn, 1) := by decide +kernel
theorem dL_grade_0 : decode cL_grade 0 = .ok (.aload_n 3, 1) := by decide +kernel
theorem dL_grade_1 : decode cL_grade 1 = .ok (.iconst 0, 1) := by decide +kernel
theorem dL_grade_2 : decode cL_grade 2 = .ok (.aload_n 0, 1) := by decide +kernel
theorem dL_grade_3 : decode cL_grade 3 = .ok (.iload_n 1, 1) := by decide +kernel
theorem dL_grade_4 : decode cL_grade 4 = .ok (.iload_n 2, 1) := by decide +kernel
theorem dL_grade_5 : decode cL_grade 5 = .ok (.invokevirtual 34, 3) := by decide +kernel
theorem dL_grade_8 : decode cL_grade 8 = .ok (.i2l, 1) := by decide +kernel
theorem dL_grade_9 : decode cL_grade 9 = .ok (.lastore, 1) := by decide +kernel
theorem dL_grade_10 : decode cL_grade 10 = .ok (.goto 7, 3) := by decide +kernel
theorem dL_grade_13 : decode cL_grade 13 = .ok (.astore 4, 2) := by decide +kernel
theorem dL_grade_15 : decode cL_grade 15 = .ok (.iconst 1, 1) := by decide +kernel
theorem dL_grade_16 : decode cL_grade 16 = .ok (.ireturn, 1) := by decide +kernel
theorem dL_grade_17 : decode cL_grade 17 = .ok (.iconst 0, 1) := by decide +kernel
theorem dL_grade_18 : decode cL_grade 18 = .ok (.ireturn, 1) := by decide +kernel
theorem dL_stretches_0 : decode cL_stretches 0 = .ok (.aload_n 3, 1) := by decide +kernel
theorem dL_stretches_1 : decode cL_stretches 1 = .ok (.iconst 0, 1) := by decide +kernel
theorem dL_stretches_2 : decode cL_stretches 2 = .ok (.aload_n 0, 1) := by decide +kernel
theorem dL_stretches_3 : decode cL_stretches 3 = .ok (.iload_n 1, 1) := by decide +kernel
theorem dL_stretches_4 : decode cL_stretches 4 = .ok (.iload_n 2, 1) := by decide +kernel
theorem dL_stretches_5 : decode cL_stretches 5 = .ok (.invokevirtual 38, 3) := by decide +kernel
theorem dL_stretches_8 : decode cL_stretches 8 = .ok (.i2l, 1) := by decide +kernel
theorem dL_stretches_9 : decode cL_stretches 9 = .ok (.lastore, 1) := by decide +kernel
theorem dL_stretches_10 : decode cL_stretches 10 = .ok (.goto 11, 3) := by decide +kernel
theorem dL_stretches_13 : decode cL_stretches 13 = .ok (.astore 4, 2) := by decide +kernel
theorem dL_stretches_15 : decode cL_stretches 15 = .ok (.iconst 1, 1) := by decide +kernel
theorem dL_stretches_16 : decode cL_stretches 16 = .ok (.ireturn, 1) := by decide +kernel
theorem dL_stretches_17 : decode cL_stretches 17 = .ok (.astore 4, 2) := by decide +kernel
theorem dL_stretches_19 : decode cL_stretches 19 = .ok (.iconst 2, 1) := by decide +kernel
theorem dL_stretches_20 : decode cL_stretches 20 = .ok (.ireturn, 1) := by decide +kernel
theorem dL_stretches_21 : decode cL_stretches 21 = .ok (.iconst 0, 1) := by decide +kernel
theorem dL_stretches_22 : decode cL_stretches 22 = .ok (.ireturn, 1) := by decide +kernel
theorem dL_stretch_0 : decode cL_stretch 0 = .ok (.aload 5, 2) := by decide +kernel
theorem dL_stretch_2 : decode cL_stretch 2 = .ok (.iconst 0, 1) := by decide +kernel
theorem dL_stretch_3 : decode cL_stretch 3 = .ok (.aload_n 0, 1) := by decide +kernel
theorem dL_stretch_4 : decode cL_stretch 4 = .ok (.iload_n 1, 1) := by decide +kernel
theorem dL_stretch_5 : decode cL_stretch 5 = .ok (.iload_n 2, 1) := by decide +kernel
theorem dL_stretch_6 : decode cL_stretch 6 = .ok (.iload_n 3, 1) := by decide +kernel
theorem dL_stretch_7 : decode cL_stretch 7 = .ok (.iload 4, 2) := by decide +kernel
theorem dL_stretch_9 : decode cL_stretch 9 = .ok (.invokevirtual 41, 3) := by decide +kernel
theorem dL_stretch_12 : decode cL_stretch 12 = .ok (.i2l, 1) := by decide +kernel
theorem dL_stretch_13 : decode cL_stretch 13 = .ok (.lastore, 1) := by decide +kernel
theorem dL_stretch_14 : decode cL_stretch 14 = .ok (.goto 11, 3) := by decide +kernel
theorem dL_stretch_17 : decode cL_stretch 17 = .ok (.astore 6, 2) := by decide +kernel
theorem dL_stretch_19 : decode cL_stretch 19 = .ok (.iconst 1, 1) := by decide +kernel
theorem dL_stretch_20 : decode cL_stretch 20 = .ok (.ireturn, 1) := by decide +kernel
theorem dL_stretch_21 : decode cL_stretch 21 = .ok (.astore 6, 2) := by decide +kernel
theorem dL_stretch_23 : decode cL_stretch 23 = .ok (.iconst 2, 1) := by decide +kernel
theorem dL_stretch_24 : decode cL_stretch 24 = .ok (.ireturn, 1) := by decide +kernel
theorem dL_stretch_25 : decode cL_stretch 25 = .ok (.iconst 0, 1) := by decide +kernel
theorem dL_stretch_26 : decode cL_stretch 26 = .ok (.ireturn, 1) := by decide +kernel
theorem dL_fits_0 : decode cL_fits 0 = .ok (.aload 4, 2) := by decide +kernel
theorem dL_fits_2 : decode cL_fits 2 = .ok (.iconst 0, 1) := by decide +kernel
theorem dL_fits_3 : decode cL_fits 3 = .ok (.aload_n 0, 1) := by decide +kernel
theorem dL_fits_4 : decode cL_fits 4 = .ok (.iload_n 1, 1) := by decide +kernel
theorem dL_fits_5 : decode cL_fits 5 = .ok (.iload_n 2, 1) := by decide +kernel
theorem dL_fits_6 : decode cL_fits 6 = .ok (.iload_n 3, 1) := by decide +kernel
theorem dL_fits_7 : decode cL_fits 7 = .ok (.invokevirtual 45, 3) := by decide +kernel
theorem dL_fits_10 : decode cL_fits 10 = .ok (.ifCond .eq 7, 3) := by decide +kernel
theorem dL_fits_13 : decode cL_fits 13 = .ok (.lconst 1, 1) := by decide +kernel
theorem dL_fits_14 : decode cL_fits 14 = .ok (.goto 4, 3) := by decide +kernel
theorem dL_fits_17 : decode cL_fits 17 = .ok (.lconst 0, 1) := by decide +kernel
theorem dL_fits_18 : decode cL_fits 18 = .ok (.lastore, 1) := by decide +kernel
theorem dL_fits_19 : decode cL_fits 19 = .ok (.goto 7, 3) := by decide +kernel
theorem dL_fits_22 : decode cL_fits 22 = .ok (.astore 5, 2) := by decide +kernel
theorem dL_fits_24 : decode cL_fits 24 = .ok (.iconst 1, 1) := by decide +kernel
theorem dL_fits_25 : decode cL_fits 25 = .ok (.ireturn, 1) := by decide +kernel
theorem dL_fits_26 : decode cL_fits 26 = .ok (.iconst 0, 1) := by decide +kernel
theorem dL_fits_27 : decode cL_fits 27 = .ok (.ireturn, 1) := by decide +kernel
theorem dL_earliest_0 : decode cL_earliest 0 = .ok (.aload_n 3, 1) := by decide +kernel
theorem dL_earliest_1 : decode cL_earliest 1 = .ok (.iconst 0, 1) := by decide +kernel
theorem dL_earliest_2 : decode cL_earliest 2 = .ok (.aload_n 0, 1) := by decide +kernel
theorem dL_earliest_3 : decode cL_earliest 3 = .ok (.iload_n 1, 1) := by decide +kernel
theorem dL_earliest_4 : decode cL_earliest 4 = .ok (.iload_n 2, 1) := by decide +kernel
theorem dL_earliest_5 : decode cL_earliest 5 = .ok (.invokevirtual 49, 3) := by decide +kernel
theorem dL_earliest_8 : decode cL_earliest 8 = .ok (.i2l, 1) := by decide +kernel
theorem dL_earliest_9 : decode cL_earliest 9 = .ok (.lastore, 1) := by decide +kernel
theorem dL_earliest_10 : decode cL_earliest 10 = .ok (.goto 7, 3) := by decide +kernel
theorem dL_earliest_13 : decode cL_earliest 13 = .ok (.astore 4, 2) := by decide +kernel
theorem dL_earliest_15 : decode cL_earliest 15 = .ok (.iconst 1, 1) := by decide +kernel
theorem dL_earliest_16 : decode cL_earliest 16 = .ok (.ireturn, 1) := by decide +kernel
theorem dL_earliest_17 : decode cL_earliest 17 = .ok (.iconst 0, 1) := by decide +kernel
theorem dL_earliest_18 : decode cL_earliest 18 = .ok (.ireturn, 1) := by decide +kernel
theorem dL_cut_0 : decode cL_cut 0 = .ok (.aload 4, 2) := by decide +kernel
theorem dL_cut_2 : decode cL_cut 2 = .ok (.iconst 0, 1) := by decide +kernel
theorem dL_cut_3 : decode cL_cut 3 = .ok (.aload_n 0, 1) := by decide +kernel
theorem dL_cut_4 : decode cL_cut 4 = .ok (.iload_n 1, 1) := by decide +kernel
theorem dL_cut_5 : decode cL_cut 5 = .ok (.iload_n 2, 1) := by decide +kernel
theorem dL_cut_6 : decode cL_cut 6 = .ok (.iload_n 3, 1) := by decide +kernel
theorem dL_cut_7 : decode cL_cut 7 = .ok (.invokevirtual 52, 3) := by decide +kernel
theorem dL_cut_10 : decode cL_cut 10 = .ok (.i2l, 1) := by decide +kernel
theorem dL_cut_11 : decode cL_cut 11 = .ok (.lastore, 1) := by decide +kernel
theorem dL_cut_12 : decode cL_cut 12 = .ok (.goto 11, 3) := by decide +kernel
theorem dL_cut_15 : decode cL_cut 15 = .ok (.astore 5, 2) := by decide +kernel
theorem dL_cut_17 : decode cL_cut 17 = .ok (.iconst 1, 1) := by decide +kernel
theorem dL_cut_18 : decode cL_cut 18 = .ok (.ireturn, 1) := by decide +kernel
theorem dL_cut_19 : decode cL_cut 19 = .ok (.astore 5, 2) := by decide +kernel
theorem dL_cut_21 : decode cL_cut 21 = .ok (.iconst 2, 1) := by decide +kernel
theorem dL_cut_22 : decode cL_cut 22 = .ok (.ireturn, 1) := by decide +kernel
theorem dL_cut_23 : decode cL_cut 23 = .ok (.iconst 0, 1) := by decide +kernel
theorem dL_cut_24 : decode cL_cut 24 = .ok (.ireturn, 1) := by decide +kernel
theorem dL_join_0 : decode cL_join 0 = .ok (.aload 7, 2) := by decide +kernel
theorem dL_join_2 : decode cL_join 2 = .ok (.iconst 0, 1) := by decide +kernel
theorem dL_join_3 : decode cL_join 3 = .ok (.aload_n 0, 1) := by decide +kernel
theorem dL_join_4 : decode cL_join 4 = .ok (.iload_n 1, 1) := by decide +kernel
theorem dL_join_5 : decode cL_join 5 = .ok (.iload_n 2, 1) := by decide +kernel
theorem dL_join_6 : decode cL_join 6 = .ok (.iload_n 3, 1) := by decide +kernel
theorem dL_join_7 : decode cL_join 7 = .ok (.iload 4, 2) := by decide +kernel
theorem dL_join_9 : decode cL_join 9 = .ok (.iload 5, 2) := by decide +kernel
theorem dL_join_11 : decode cL_join 11 = .ok (.iload 6, 2) := by decide +kernel
theorem dL_join_13 : decode cL_join 13 = .ok (.invokevirtual 55, 3) := by decide +kernel
theorem dL_join_16 : decode cL_join 16 = .ok (.i2l, 1) := by decide +kernel
theorem dL_join_17 : decode cL_join 17 = .ok (.lastore, 1) := by decide +kernel
theorem dL_join_18 : decode cL_join 18 = .ok (.goto 15, 3) := by decide +kernel
theorem dL_join_21 : decode cL_join 21 = .ok (.astore 8, 2) := by decide +kernel
theorem dL_join_23 : decode cL_join 23 = .ok (.iconst 1, 1) := by decide +kernel
theorem dL_join_24 : decode cL_join 24 = .ok (.ireturn, 1) := by decide +kernel
theorem dL_join_25 : decode cL_join 25 = .ok (.astore 8, 2) := by decide +kernel
theorem dL_join_27 : decode cL_join 27 = .ok (.iconst 2, 1) := by decide +kernel
theorem dL_join_28 : decode cL_join 28 = .ok (.ireturn, 1) := by decide +kernel
theorem dL_join_29 : decode cL_join 29 = .ok (.astore 8, 2) := by decide +kernel
theorem dL_join_31 : decode cL_join 31 = .ok (.iconst 3, 1) := by decide +kernel
theorem dL_join_32 : decode cL_join 32 = .ok (.ireturn, 1) := by decide +kernel
theorem dL_join_33 : decode cL_join 33 = .ok (.iconst 0, 1) := by decide +kernel
theorem dL_join_34 : decode cL_join 34 = .ok (.ireturn, 1) := by decide +kernel
theorem dL_undo_0 : decode cL_undo 0 = .ok (.aload_n 1, 1) := by decide +kernel
theorem dL_undo_1 : decode cL_undo 1 = .ok (.iconst 0, 1) := by decide +kernel
theorem dL_undo_2 : decode cL_undo 2 = .ok (.aload_n 0, 1) := by decide +kernel
theorem dL_undo_3 : decode cL_undo 3 = .ok (.invokevirtual 59, 3) := by decide +kernel
theorem dL_undo_6 : decode cL_undo 6 = .ok (.i2l, 1) := by decide +kernel
theorem dL_undo_7 : decode cL_undo 7 = .ok (.lastore, 1) := by decide +kernel
theorem dL_undo_8 : decode cL_undo 8 = .ok (.goto 6, 3) := by decide +kernel
theorem dL_undo_11 : decode cL_undo 11 = .ok (.astore_n 2, 1) := by decide +kernel
theorem dL_undo_12 : decode cL_undo 12 = .ok (.iconst 1, 1) := by decide +kernel
theorem dL_undo_13 : decode cL_undo 13 = .ok (.ireturn, 1) := by decide +kernel
theorem dL_undo_14 : decode cL_undo 14 = .ok (.iconst 0, 1) := by decide +kernel
theorem dL_undo_15 : decode cL_undo 15 = .ok (.ireturn, 1) := by decide +kernel
theorem dL_left_0 : decode cL_left 0 = .ok (.aload_n 2, 1) := by decide +kernel
theorem dL_left_1 : decode cL_left 1 = .ok (.iconst 0, 1) := by decide +kernel
theorem dL_left_2 : decode cL_left 2 = .ok (.aload_n 0, 1) := by decide +kernel
theorem dL_left_3 : decode cL_left 3 = .ok (.iload_n 1, 1) := by decide +kernel
theorem dL_left_4 : decode cL_left 4 = .ok (.invokevirtual 63, 3) := by decide +kernel
theorem dL_left_7 : decode cL_left 7 = .ok (.i2l, 1) := by decide +kernel
theorem dL_left_8 : decode cL_left 8 = .ok (.lastore, 1) := by decide +kernel
theorem dL_left_9 : decode cL_left 9 = .ok (.goto 6, 3) := by decide +kernel
theorem dL_left_12 : decode cL_left 12 = .ok (.astore_n 3, 1) := by decide +kernel
theorem dL_left_13 : decode cL_left 13 = .ok (.iconst 1, 1) := by decide +kernel
theorem dL_left_14 : decode cL_left 14 = .ok (.ireturn, 1) := by decide +kernel
theorem dL_left_15 : decode cL_left 15 = .ok (.iconst 0, 1) := by decide +kernel
theorem dL_left_16 : decode cL_left 16 = .ok (.ireturn, 1) := by decide +kernel
theorem dL_pieces_0 : decode cL_pieces 0 = .ok (.aload_n 2, 1) := by decide +kernel
theorem dL_pieces_1 : decode cL_pieces 1 = .ok (.iconst 0, 1) := by decide +kernel
theorem dL_pieces_2 : decode cL_pieces 2 = .ok (.aload_n 0, 1) := by decide +kernel
theorem dL_pieces_3 : decode cL_pieces 3 = .ok (.iload_n 1, 1) := by decide +kernel
theorem dL_pieces_4 : decode cL_pieces 4 = .ok (.invokevirtual 66, 3) := by decide +kernel
theorem dL_pieces_7 : decode cL_pieces 7 = .ok (.i2l, 1) := by decide +kernel
theorem dL_pieces_8 : decode cL_pieces 8 = .ok (.lastore, 1) := by decide +kernel
theorem dL_pieces_9 : decode cL_pieces 9 = .ok (.goto 6, 3) := by decide +kernel
theorem dL_pieces_12 : decode cL_pieces 12 = .ok (.astore_n 3, 1) := by decide +kernel
theorem dL_pieces_13 : decode cL_pieces 13 = .ok (.iconst 1, 1) := by decide +kernel
theorem dL_pieces_14 : decode cL_pieces 14 = .ok (.ireturn, 1) := by decide +kernel
theorem dL_pieces_15 : decode cL_pieces 15 = .ok (.iconst 0, 1) := by decide +kernel
theorem dL_pieces_16 : decode cL_pieces 16 = .ok (.ireturn, 1) := by decide +kernel
theorem dL_piece_0 : decode cL_piece 0 = .ok (.aload 4, 2) := by decide +kernel
theorem dL_piece_2 : decode cL_piece 2 = .ok (.iconst 0, 1) := by decide +kernel
theorem dL_piece_3 : decode cL_piece 3 = .ok (.aload_n 0, 1) := by decide +kernel
theorem dL_piece_4 : decode cL_piece 4 = .ok (.iload_n 1, 1) := by decide +kernel
theorem dL_piece_5 : decode cL_piece 5 = .ok (.iload_n 2, 1) := by decide +kernel
theorem dL_piece_6 : decode cL_piece 6 = .ok (.iload_n 3, 1) := by decide +kernel
theorem dL_piece_7 : decode cL_piece 7 = .ok (.invokevirtual 69, 3) := by decide +kernel
theorem dL_piece_10 : decode cL_piece 10 = .ok (.i2l, 1) := by decide +kernel
theorem dL_piece_11 : decode cL_piece 11 = .ok (.lastore, 1) := by decide +kernel
theorem dL_piece_12 : decode cL_piece 12 = .ok (.goto 7, 3) := by decide +kernel
theorem dL_piece_15 : decode cL_piece 15 = .ok (.astore 5, 2) := by decide +kernel
theorem dL_piece_17 : decode cL_piece 17 = .ok (.iconst 1, 1) := by decide +kernel
theorem dL_piece_18 : decode cL_piece 18 = .ok (.ireturn, 1) := by decide +kernel
theorem dL_piece_19 : decode cL_piece 19 = .ok (.iconst 0, 1) := by decide +kernel
theorem dL_piece_20 : decode cL_piece 20 = .ok (.ireturn, 1) := by decide +kernel
theorem dL_cuts_0 : decode cL_cuts 0 = .ok (.aload_n 2, 1) := by decide +kernel
theorem dL_cuts_1 : decode cL_cuts 1 = .ok (.iconst 0, 1) := by decide +kernel
theorem dL_cuts_2 : decode cL_cuts 2 = .ok (.aload_n 0, 1) := by decide +kernel
theorem dL_cuts_3 : decode cL_cuts 3 = .ok (.iload_n 1, 1) := by decide +kernel
theorem dL_cuts_4 : decode cL_cuts 4 = .ok (.invokevirtual 72, 3) := by decide +kernel
theorem dL_cuts_7 : decode cL_cuts 7 = .ok (.i2l, 1) := by decide +kernel
theorem dL_cuts_8 : decode cL_cuts 8 = .ok (.lastore, 1) := by decide +kernel
theorem dL_cuts_9 : decode cL_cuts 9 = .ok (.goto 6, 3) := by decide +kernel
theorem dL_cuts_12 : decode cL_cuts 12 = .ok (.astore_n 3, 1) := by decide +kernel
theorem dL_cuts_13 : decode cL_cuts 13 = .ok (.iconst 1, 1) := by decide +kernel
theorem dL_cuts_14 : decode cL_cuts 14 = .ok (.ireturn, 1) := by decide +kernel
theorem dL_cuts_15 : decode cL_cuts 15 = .ok (.iconst 0, 1) := by decide +kernel
theorem dL_cuts_16 : decode cL_cuts 16 = .ok (.ireturn, 1) := by decide +kernel
theorem dL_longestRoom_0 : decode cL_longestRoom 0 = .ok (.aload_n 2, 1) := by decide +kernel
theorem dL_longestRoom_1 : decode cL_longestRoom 1 = .ok (.iconst 0, 1) := by decide +kernel
theorem dL_longestRoom_2 : decode cL_longestRoom 2 = .ok (.aload_n 0, 1) := by decide +kernel
theorem dL_longestRoom_3 : decode cL_longestRoom 3 = .ok (.iload_n 1, 1) := by decide +kernel
theorem dL_longestRoom_4 : decode cL_longestRoom 4 = .ok (.invokevirtual 75, 3) := by decide +kernel
theorem dL_longestRoom_7 : decode cL_longestRoom 7 = .ok (.i2l, 1) := by decide +kernel
theorem dL_longestRoom_8 : decode cL_longestRoom 8 = .ok (.lastore, 1) := by decide +kernel
theorem dL_longestRoom_9 : decode cL_longestRoom 9 = .ok (.goto 6, 3) := by decide +kernel
theorem dL_longestRoom_12 : decode cL_longestRoom 12 = .ok (.astore_n 3, 1) := by decide +kernel
theorem dL_longestRoom_13 : decode cL_longestRoom 13 = .ok (.iconst 1, 1) := by decide +kernel
theorem dL_longestRoom_14 : decode cL_longestRoom 14 = .ok (.ireturn, 1) := by decide +kernel
theorem dL_longestRoom_15 : decode cL_longestRoom 15 = .ok (.iconst 0, 1) := by decide +kernel
theorem dL_longestRoom_16 : decode cL_longestRoom 16 = .ok (.ireturn, 1) := by decide +kernel
theorem dL_bestUse_0 : decode cL_bestUse 0 = .ok (.aload 4, 2) := by decide +kernel
theorem dL_bestUse_2 : decode cL_bestUse 2 = .ok (.iconst 0, 1) := by decide +kernel
theorem dL_bestUse_3 : decode cL_bestUse 3 = .ok (.aload_n 0, 1) := by decide +kernel
theorem dL_bestUse_4 : decode cL_bestUse 4 = .ok (.iload_n 1, 1) := by decide +kernel
theorem dL_bestUse_5 : decode cL_bestUse 5 = .ok (.iload_n 2, 1) := by decide +kernel
theorem dL_bestUse_6 : decode cL_bestUse 6 = .ok (.iload_n 3, 1) := by decide +kernel
theorem dL_bestUse_7 : decode cL_bestUse 7 = .ok (.invokevirtual 78, 3) := by decide +kernel
theorem dL_bestUse_10 : decode cL_bestUse 10 = .ok (.i2l, 1) := by decide +kernel
theorem dL_bestUse_11 : decode cL_bestUse 11 = .ok (.lastore, 1) := by decide +kernel
theorem dL_bestUse_12 : decode cL_bestUse 12 = .ok (.goto 11, 3) := by decide +kernel
theorem dL_bestUse_15 : decode cL_bestUse 15 = .ok (.astore 5, 2) := by decide +kernel
theorem dL_bestUse_17 : decode cL_bestUse 17 = .ok (.iconst 1, 1) := by decide +kernel
theorem dL_bestUse_18 : decode cL_bestUse 18 = .ok (.ireturn, 1) := by decide +kernel
theorem dL_bestUse_19 : decode cL_bestUse 19 = .ok (.astore 5, 2) := by decide +kernel
theorem dL_bestUse_21 : decode cL_bestUse 21 = .ok (.iconst 2, 1) := by decide +kernel
theorem dL_bestUse_22 : decode cL_bestUse 22 = .ok (.ireturn, 1) := by decide +kernel
theorem dL_bestUse_23 : decode cL_bestUse 23 = .ok (.iconst 0, 1) := by decide +kernel
theorem dL_bestUse_24 : decode cL_bestUse 24 = .ok (.ireturn, 1) := by decide +kernel
theorem dL_law_0 : decode cL_law 0 = .ok (.new 8, 3) := by decide +kernel
theorem dL_law_3 : decode cL_law 3 = .ok (.dup, 1) := by decide +kernel
theorem dL_law_4 : decode cL_law 4 = .ok (.invokespecial 81, 3) := by decide +kernel
theorem dL_law_7 : decode cL_law 7 = .ok (.astore_n 1, 1) := by decide +kernel
theorem dL_law_8 : decode cL_law 8 = .ok (.new 82, 3) := by decide +kernel
theorem dL_law_11 : decode cL_law 11 = .ok (.dup, 1) := by decide +kernel
theorem dL_law_12 : decode cL_law 12 = .ok (.invokespecial 84, 3) := by decide +kernel
theorem dL_law_15 : decode cL_law 15 = .ok (.astore_n 2, 1) := by decide +kernel
theorem dL_law_16 : decode cL_law 16 = .ok (.iconst 1, 1) := by decide +kernel
theorem dL_law_17 : decode cL_law 17 = .ok (.newarray .long, 2) := by decide +kernel
theorem dL_law_19 : decode cL_law 19 = .ok (.astore_n 3, 1) := by decide +kernel
theorem dL_law_20 : decode cL_law 20 = .ok (.iconst 0, 1) := by decide +kernel
theorem dL_law_21 : decode cL_law 21 = .ok (.istore 4, 2) := by decide +kernel
theorem dL_law_23 : decode cL_law 23 = .ok (.iload 4, 2) := by decide +kernel
theorem dL_law_25 : decode cL_law 25 = .ok (.aload_n 0, 1) := by decide +kernel
theorem dL_law_26 : decode cL_law 26 = .ok (.arraylength, 1) := by decide +kernel
theorem dL_law_27 : decode cL_law 27 = .ok (.bipush 7, 2) := by decide +kernel
theorem dL_law_29 : decode cL_law 29 = .ok (.isub, 1) := by decide +kernel
theorem dL_law_30 : decode cL_law 30 = .ok (.if_icmp .gt 1617, 3) := by decide +kernel
theorem dL_law_33 : decode cL_law 33 = .ok (.aload_n 0, 1) := by decide +kernel
theorem dL_law_34 : decode cL_law 34 = .ok (.iload 4, 2) := by decide +kernel
theorem dL_law_36 : decode cL_law 36 = .ok (.iaload, 1) := by decide +kernel
theorem dL_law_37 : decode cL_law 37 = .ok (.bipush 31, 2) := by decide +kernel
theorem dL_law_39 : decode cL_law 39 = .ok (.iand, 1) := by decide +kernel
theorem dL_law_40 : decode cL_law 40 = .ok (.tableswitch 1601 0 21 #[104, 184, 276, 396, 452, 508, 576, 644, 752, 839, 907, 987, 1105, 1149, 1162, 1218, 1274, 1354, 1410, 1466, 1546, 1587], 104) := by decide +kernel
theorem dL_law_144 : decode cL_law 144 = .ok (.aload_n 1, 1) := by decide +kernel
theorem dL_law_145 : decode cL_law 145 = .ok (.aload_n 0, 1) := by decide +kernel
theorem dL_law_146 : decode cL_law 146 = .ok (.iload 4, 2) := by decide +kernel
theorem dL_law_148 : decode cL_law 148 = .ok (.iconst 1, 1) := by decide +kernel
theorem dL_law_149 : decode cL_law 149 = .ok (.iadd, 1) := by decide +kernel
theorem dL_law_150 : decode cL_law 150 = .ok (.iaload, 1) := by decide +kernel
theorem dL_law_151 : decode cL_law 151 = .ok (.aload_n 0, 1) := by decide +kernel
theorem dL_law_152 : decode cL_law 152 = .ok (.iload 4, 2) := by decide +kernel
theorem dL_law_154 : decode cL_law 154 = .ok (.iconst 2, 1) := by decide +kernel
theorem dL_law_155 : decode cL_law 155 = .ok (.iadd, 1) := by decide +kernel
theorem dL_law_156 : decode cL_law 156 = .ok (.iaload, 1) := by decide +kernel
theorem dL_law_157 : decode cL_law 157 = .ok (.aload_n 0, 1) := by decide +kernel
theorem dL_law_158 : decode cL_law 158 = .ok (.iload 4, 2) := by decide +kernel
theorem dL_law_160 : decode cL_law 160 = .ok (.iconst 3, 1) := by decide +kernel
theorem dL_law_161 : decode cL_law 161 = .ok (.iadd, 1) := by decide +kernel
theorem dL_law_162 : decode cL_law 162 = .ok (.iaload, 1) := by decide +kernel
theorem dL_law_163 : decode cL_law 163 = .ok (.aload_n 3, 1) := by decide +kernel
theorem dL_law_164 : decode cL_law 164 = .ok (.invokestatic 85, 3) := by decide +kernel
theorem dL_law_167 : decode cL_law 167 = .ok (.istore 5, 2) := by decide +kernel
theorem dL_law_169 : decode cL_law 169 = .ok (.aload_n 2, 1) := by decide +kernel
theorem dL_law_170 : decode cL_law 170 = .ok (.aload_n 0, 1) := by decide +kernel
theorem dL_law_171 : decode cL_law 171 = .ok (.iload 4, 2) := by decide +kernel
theorem dL_law_173 : decode cL_law 173 = .ok (.iconst 1, 1) := by decide +kernel
theorem dL_law_174 : decode cL_law 174 = .ok (.iadd, 1) := by decide +kernel
theorem dL_law_175 : decode cL_law 175 = .ok (.iaload, 1) := by decide +kernel
theorem dL_law_176 : decode cL_law 176 = .ok (.aload_n 0, 1) := by decide +kernel
theorem dL_law_177 : decode cL_law 177 = .ok (.iload 4, 2) := by decide +kernel
theorem dL_law_179 : decode cL_law 179 = .ok (.iconst 2, 1) := by decide +kernel
theorem dL_law_180 : decode cL_law 180 = .ok (.iadd, 1) := by decide +kernel
theorem dL_law_181 : decode cL_law 181 = .ok (.iaload, 1) := by decide +kernel
theorem dL_law_182 : decode cL_law 182 = .ok (.aload_n 0, 1) := by decide +kernel
theorem dL_law_183 : decode cL_law 183 = .ok (.iload 4, 2) := by decide +kernel
theorem dL_law_185 : decode cL_law 185 = .ok (.iconst 3, 1) := by decide +kernel
theorem dL_law_186 : decode cL_law 186 = .ok (.iadd, 1) := by decide +kernel
theorem dL_law_187 : decode cL_law 187 = .ok (.iaload, 1) := by decide +kernel
theorem dL_law_188 : decode cL_law 188 = .ok (.invokevirtual 90, 3) := by decide +kernel
theorem dL_law_191 : decode cL_law 191 = .ok (.istore 6, 2) := by decide +kernel
theorem dL_law_193 : decode cL_law 193 = .ok (.aload_n 2, 1) := by decide +kernel
theorem dL_law_194 : decode cL_law 194 = .ok (.invokevirtual 91, 3) := by decide +kernel
theorem dL_law_197 : decode cL_law 197 = .ok (.iload 5, 2) := by decide +kernel
theorem dL_law_199 : decode cL_law 199 = .ok (.if_icmp .eq 5, 3) := by decide +kernel
theorem dL_law_202 : decode cL_law 202 = .ok (.iconst 0, 1) := by decide +kernel
theorem dL_law_203 : decode cL_law 203 = .ok (.ireturn, 1) := by decide +kernel
theorem dL_law_204 : decode cL_law 204 = .ok (.iload 5, 2) := by decide +kernel
theorem dL_law_206 : decode cL_law 206 = .ok (.ifCond .ne 15, 3) := by decide +kernel
theorem dL_law_209 : decode cL_law 209 = .ok (.aload_n 3, 1) := by decide +kernel
theorem dL_law_210 : decode cL_law 210 = .ok (.iconst 0, 1) := by decide +kernel
theorem dL_law_211 : decode cL_law 211 = .ok (.laload, 1) := by decide +kernel
theorem dL_law_212 : decode cL_law 212 = .ok (.iload 6, 2) := by decide +kernel
theorem dL_law_214 : decode cL_law 214 = .ok (.i2l, 1) := by decide +kernel
theorem dL_law_215 : decode cL_law 215 = .ok (.lcmp, 1) := by decide +kernel
theorem dL_law_216 : decode cL_law 216 = .ok (.ifCond .eq 5, 3) := by decide +kernel
theorem dL_law_219 : decode cL_law 219 = .ok (.iconst 0, 1) := by decide +kernel
theorem dL_law_220 : decode cL_law 220 = .ok (.ireturn, 1) := by decide +kernel
theorem dL_law_221 : decode cL_law 221 = .ok (.goto 1420, 3) := by decide +kernel
theorem dL_law_224 : decode cL_law 224 = .ok (.aload_n 1, 1) := by decide +kernel
theorem dL_law_225 : decode cL_law 225 = .ok (.aload_n 0, 1) := by decide +kernel
theorem dL_law_226 : decode cL_law 226 = .ok (.iload 4, 2) := by decide +kernel
theorem dL_law_228 : decode cL_law 228 = .ok (.iconst 1, 1) := by decide +kernel
theorem dL_law_229 : decode cL_law 229 = .ok (.iadd, 1) := by decide +kernel
theorem dL_law_230 : decode cL_law 230 = .ok (.iaload, 1) := by decide +kernel
theorem dL_law_231 : decode cL_law 231 = .ok (.aload_n 0, 1) := by decide +kernel
theorem dL_law_232 : decode cL_law 232 = .ok (.iload 4, 2) := by decide +kernel
theorem dL_law_234 : decode cL_law 234 = .ok (.iconst 2, 1) := by decide +kernel
theorem dL_law_235 : decode cL_law 235 = .ok (.iadd, 1) := by decide +kernel
theorem dL_law_236 : decode cL_law 236 = .ok (.iaload, 1) := by decide +kernel
theorem dL_law_237 : decode cL_law 237 = .ok (.aload_n 0, 1) := by decide +kernel
theorem dL_law_238 : decode cL_law 238 = .ok (.iload 4, 2) := by decide +kernel
theorem dL_law_240 : decode cL_law 240 = .ok (.iconst 3, 1) := by decide +kernel
theorem dL_law_241 : decode cL_law 241 = .ok (.iadd, 1) := by decide +kernel
theorem dL_law_242 : decode cL_law 242 = .ok (.iaload, 1) := by decide +kernel
theorem dL_law_243 : decode cL_law 243 = .ok (.aload_n 0, 1) := by decide +kernel
theorem dL_law_244 : decode cL_law 244 = .ok (.iload 4, 2) := by decide +kernel
theorem dL_law_246 : decode cL_law 246 = .ok (.iconst 4, 1) := by decide +kernel
theorem dL_law_247 : decode cL_law 247 = .ok (.iadd, 1) := by decide +kernel
theorem dL_law_248 : decode cL_law 248 = .ok (.iaload, 1) := by decide +kernel
theorem dL_law_249 : decode cL_law 249 = .ok (.aload_n 3, 1) := by decide +kernel
theorem dL_law_250 : decode cL_law 250 = .ok (.invokestatic 94, 3) := by decide +kernel
theorem dL_law_253 : decode cL_law 253 = .ok (.istore 5, 2) := by decide +kernel
theorem dL_law_255 : decode cL_law 255 = .ok (.aload_n 2, 1) := by decide +kernel
theorem dL_law_256 : decode cL_law 256 = .ok (.aload_n 0, 1) := by decide +kernel
theorem dL_law_257 : decode cL_law 257 = .ok (.iload 4, 2) := by decide +kernel
theorem dL_law_259 : decode cL_law 259 = .ok (.iconst 1, 1) := by decide +kernel
theorem dL_law_260 : decode cL_law 260 = .ok (.iadd, 1) := by decide +kernel
theorem dL_law_261 : decode cL_law 261 = .ok (.iaload, 1) := by decide +kernel
theorem dL_law_262 : decode cL_law 262 = .ok (.aload_n 0, 1) := by decide +kernel
theorem dL_law_263 : decode cL_law 263 = .ok (.iload 4, 2) := by decide +kernel
theorem dL_law_265 : decode cL_law 265 = .ok (.iconst 2, 1) := by decide +kernel
theorem dL_law_266 : decode cL_law 266 = .ok (.iadd, 1) := by decide +kernel
theorem dL_law_267 : decode cL_law 267 = .ok (.iaload, 1) := by decide +kernel
theorem dL_law_268 : decode cL_law 268 = .ok (.aload_n 0, 1) := by decide +kernel
theorem dL_law_269 : decode cL_law 269 = .ok (.iload 4, 2) := by decide +kernel
theorem dL_law_271 : decode cL_law 271 = .ok (.iconst 3, 1) := by decide +kernel
theorem dL_law_272 : decode cL_law 272 = .ok (.iadd, 1) := by decide +kernel
theorem dL_law_273 : decode cL_law 273 = .ok (.iaload, 1) := by decide +kernel
theorem dL_law_274 : decode cL_law 274 = .ok (.aload_n 0, 1) := by decide +kernel
theorem dL_law_275 : decode cL_law 275 = .ok (.iload 4, 2) := by decide +kernel
theorem dL_law_277 : decode cL_law 277 = .ok (.iconst 4, 1) := by decide +kernel
theorem dL_law_278 : decode cL_law 278 = .ok (.iadd, 1) := by decide +kernel
theorem dL_law_279 : decode cL_law 279 = .ok (.iaload, 1) := by decide +kernel
theorem dL_law_280 : decode cL_law 280 = .ok (.invokevirtual 97, 3) := by decide +kernel
theorem dL_law_283 : decode cL_law 283 = .ok (.istore 6, 2) := by decide +kernel
theorem dL_law_285 : decode cL_law 285 = .ok (.aload_n 2, 1) := by decide +kernel
theorem dL_law_286 : decode cL_law 286 = .ok (.invokevirtual 91, 3) := by decide +kernel
theorem dL_law_289 : decode cL_law 289 = .ok (.iload 5, 2) := by decide +kernel
theorem dL_law_291 : decode cL_law 291 = .ok (.if_icmp .eq 5, 3) := by decide +kernel
theorem dL_law_294 : decode cL_law 294 = .ok (.iconst 0, 1) := by decide +kernel
theorem dL_law_295 : decode cL_law 295 = .ok (.ireturn, 1) := by decide +kernel
theorem dL_law_296 : decode cL_law 296 = .ok (.iload 5, 2) := by decide +kernel
theorem dL_law_298 : decode cL_law 298 = .ok (.ifCond .ne 15, 3) := by decide +kernel
theorem dL_law_301 : decode cL_law 301 = .ok (.aload_n 3, 1) := by decide +kernel
theorem dL_law_302 : decode cL_law 302 = .ok (.iconst 0, 1) := by decide +kernel
theorem dL_law_303 : decode cL_law 303 = .ok (.laload, 1) := by decide +kernel
theorem dL_law_304 : decode cL_law 304 = .ok (.iload 6, 2) := by decide +kernel
theorem dL_law_306 : decode cL_law 306 = .ok (.i2l, 1) := by decide +kernel
theorem dL_law_307 : decode cL_law 307 = .ok (.lcmp, 1) := by decide +kernel
theorem dL_law_308 : decode cL_law 308 = .ok (.ifCond .eq 5, 3) := by decide +kernel
theorem dL_law_311 : decode cL_law 311 = .ok (.iconst 0, 1) := by decide +kernel
theorem dL_law_312 : decode cL_law 312 = .ok (.ireturn, 1) := by decide +kernel
theorem dL_law_313 : decode cL_law 313 = .ok (.goto 1328, 3) := by decide +kernel
theorem dL_law_316 : decode cL_law 316 = .ok (.aload_n 1, 1) := by decide +kernel
theorem dL_law_317 : decode cL_law 317 = .ok (.aload_n 0, 1) := by decide +kernel
theorem dL_law_318 : decode cL_law 318 = .ok (.iload 4, 2) := by decide +kernel
theorem dL_law_320 : decode cL_law 320 = .ok (.iconst 1, 1) := by decide +kernel
theorem dL_law_321 : decode cL_law 321 = .ok (.iadd, 1) := by decide +kernel
theorem dL_law_322 : decode cL_law 322 = .ok (.iaload, 1) := by decide +kernel
theorem dL_law_323 : decode cL_law 323 = .ok (.aload_n 0, 1) := by decide +kernel
theorem dL_law_324 : decode cL_law 324 = .ok (.iload 4, 2) := by decide +kernel
theorem dL_law_326 : decode cL_law 326 = .ok (.iconst 2, 1) := by decide +kernel
theorem dL_law_327 : decode cL_law 327 = .ok (.iadd, 1) := by decide +kernel
theorem dL_law_328 : decode cL_law 328 = .ok (.iaload, 1) := by decide +kernel
theorem dL_law_329 : decode cL_law 329 = .ok (.aload_n 0, 1) := by decide +kernel
theorem dL_law_330 : decode cL_law 330 = .ok (.iload 4, 2) := by decide +kernel
theorem dL_law_332 : decode cL_law 332 = .ok (.iconst 3, 1) := by decide +kernel
theorem dL_law_333 : decode cL_law 333 = .ok (.iadd, 1) := by decide +kernel
theorem dL_law_334 : decode cL_law 334 = .ok (.iaload, 1) := by decide +kernel
theorem dL_law_335 : decode cL_law 335 = .ok (.aload_n 0, 1) := by decide +kernel
theorem dL_law_336 : decode cL_law 336 = .ok (.iload 4, 2) := by decide +kernel
theorem dL_law_338 : decode cL_law 338 = .ok (.iconst 4, 1) := by decide +kernel
theorem dL_law_339 : decode cL_law 339 = .ok (.iadd, 1) := by decide +kernel
theorem dL_law_340 : decode cL_law 340 = .ok (.iaload, 1) := by decide +kernel
theorem dL_law_341 : decode cL_law 341 = .ok (.aload_n 0, 1) := by decide +kernel
theorem dL_law_342 : decode cL_law 342 = .ok (.iload 4, 2) := by decide +kernel
theorem dL_law_344 : decode cL_law 344 = .ok (.iconst 5, 1) := by decide +kernel
theorem dL_law_345 : decode cL_law 345 = .ok (.iadd, 1) := by decide +kernel
theorem dL_law_346 : decode cL_law 346 = .ok (.iaload, 1) := by decide +kernel
theorem dL_law_347 : decode cL_law 347 = .ok (.ifCond .eq 7, 3) := by decide +kernel
theorem dL_law_350 : decode cL_law 350 = .ok (.iconst 1, 1) := by decide +kernel
theorem dL_law_351 : decode cL_law 351 = .ok (.goto 4, 3) := by decide +kernel
theorem dL_law_354 : decode cL_law 354 = .ok (.iconst 0, 1) := by decide +kernel
theorem dL_law_355 : decode cL_law 355 = .ok (.aload_n 3, 1) := by decide +kernel
theorem dL_law_356 : decode cL_law 356 = .ok (.invokestatic 98, 3) := by decide +kernel
theorem dL_law_359 : decode cL_law 359 = .ok (.istore 5, 2) := by decide +kernel
theorem dL_law_361 : decode cL_law 361 = .ok (.aload_n 2, 1) := by decide +kernel
theorem dL_law_362 : decode cL_law 362 = .ok (.aload_n 0, 1) := by decide +kernel
theorem dL_law_363 : decode cL_law 363 = .ok (.iload 4, 2) := by decide +kernel
theorem dL_law_365 : decode cL_law 365 = .ok (.iconst 1, 1) := by decide +kernel
theorem dL_law_366 : decode cL_law 366 = .ok (.iadd, 1) := by decide +kernel
theorem dL_law_367 : decode cL_law 367 = .ok (.iaload, 1) := by decide +kernel
theorem dL_law_368 : decode cL_law 368 = .ok (.aload_n 0, 1) := by decide +kernel
theorem dL_law_369 : decode cL_law 369 = .ok (.iload 4, 2) := by decide +kernel
theorem dL_law_371 : decode cL_law 371 = .ok (.iconst 2, 1) := by decide +kernel
theorem dL_law_372 : decode cL_law 372 = .ok (.iadd, 1) := by decide +kernel
theorem dL_law_373 : decode cL_law 373 = .ok (.iaload, 1) := by decide +kernel
theorem dL_law_374 : decode cL_law 374 = .ok (.aload_n 0, 1) := by decide +kernel
theorem dL_law_375 : decode cL_law 375 = .ok (.iload 4, 2) := by decide +kernel
theorem dL_law_377 : decode cL_law 377 = .ok (.iconst 3, 1) := by decide +kernel
theorem dL_law_378 : decode cL_law 378 = .ok (.iadd, 1) := by decide +kernel
theorem dL_law_379 : decode cL_law 379 = .ok (.iaload, 1) := by decide +kernel
theorem dL_law_380 : decode cL_law 380 = .ok (.aload_n 0, 1) := by decide +kernel
theorem dL_law_381 : decode cL_law 381 = .ok (.iload 4, 2) := by decide +kernel
theorem dL_law_383 : decode cL_law 383 = .ok (.iconst 4, 1) := by decide +kernel
theorem dL_law_384 : decode cL_law 384 = .ok (.iadd, 1) := by decide +kernel
theorem dL_law_385 : decode cL_law 385 = .ok (.iaload, 1) := by decide +kernel
theorem dL_law_386 : decode cL_law 386 = .ok (.aload_n 0, 1) := by decide +kernel
theorem dL_law_387 : decode cL_law 387 = .ok (.iload 4, 2) := by decide +kernel
theorem dL_law_389 : decode cL_law 389 = .ok (.iconst 5, 1) := by decide +kernel
theorem dL_law_390 : decode cL_law 390 = .ok (.iadd, 1) := by decide +kernel
theorem dL_law_391 : decode cL_law 391 = .ok (.iaload, 1) := by decide +kernel
theorem dL_law_392 : decode cL_law 392 = .ok (.ifCond .eq 7, 3) := by decide +kernel
theorem dL_law_395 : decode cL_law 395 = .ok (.iconst 1, 1) := by decide +kernel
theorem dL_law_396 : decode cL_law 396 = .ok (.goto 4, 3) := by decide +kernel
theorem dL_law_399 : decode cL_law 399 = .ok (.iconst 0, 1) := by decide +kernel
theorem dL_law_400 : decode cL_law 400 = .ok (.invokevirtual 101, 3) := by decide +kernel
theorem dL_law_403 : decode cL_law 403 = .ok (.istore 6, 2) := by decide +kernel
theorem dL_law_405 : decode cL_law 405 = .ok (.aload_n 2, 1) := by decide +kernel
theorem dL_law_406 : decode cL_law 406 = .ok (.invokevirtual 91, 3) := by decide +kernel
theorem dL_law_409 : decode cL_law 409 = .ok (.iload 5, 2) := by decide +kernel
theorem dL_law_411 : decode cL_law 411 = .ok (.if_icmp .eq 5, 3) := by decide +kernel
theorem dL_law_414 : decode cL_law 414 = .ok (.iconst 0, 1) := by decide +kernel
theorem dL_law_415 : decode cL_law 415 = .ok (.ireturn, 1) := by decide +kernel
theorem dL_law_416 : decode cL_law 416 = .ok (.iload 5, 2) := by decide +kernel
theorem dL_law_418 : decode cL_law 418 = .ok (.ifCond .ne 15, 3) := by decide +kernel
theorem dL_law_421 : decode cL_law 421 = .ok (.aload_n 3, 1) := by decide +kernel
theorem dL_law_422 : decode cL_law 422 = .ok (.iconst 0, 1) := by decide +kernel
theorem dL_law_423 : decode cL_law 423 = .ok (.laload, 1) := by decide +kernel
theorem dL_law_424 : decode cL_law 424 = .ok (.iload 6, 2) := by decide +kernel
theorem dL_law_426 : decode cL_law 426 = .ok (.i2l, 1) := by decide +kernel
theorem dL_law_427 : decode cL_law 427 = .ok (.lcmp, 1) := by decide +kernel
theorem dL_law_428 : decode cL_law 428 = .ok (.ifCond .eq 5, 3) := by decide +kernel
theorem dL_law_431 : decode cL_law 431 = .ok (.iconst 0, 1) := by decide +kernel
theorem dL_law_432 : decode cL_law 432 = .ok (.ireturn, 1) := by decide +kernel
theorem dL_law_433 : decode cL_law 433 = .ok (.goto 1208, 3) := by decide +kernel
theorem dL_law_436 : decode cL_law 436 = .ok (.aload_n 1, 1) := by decide +kernel
theorem dL_law_437 : decode cL_law 437 = .ok (.aload_n 0, 1) := by decide +kernel
theorem dL_law_438 : decode cL_law 438 = .ok (.iload 4, 2) := by decide +kernel
theorem dL_law_440 : decode cL_law 440 = .ok (.iconst 1, 1) := by decide +kernel
theorem dL_law_441 : decode cL_law 441 = .ok (.iadd, 1) := by decide +kernel
theorem dL_law_442 : decode cL_law 442 = .ok (.iaload, 1) := by decide +kernel
theorem dL_law_443 : decode cL_law 443 = .ok (.aload_n 3, 1) := by decide +kernel
theorem dL_law_444 : decode cL_law 444 = .ok (.invokestatic 102, 3) := by decide +kernel
theorem dL_law_447 : decode cL_law 447 = .ok (.istore 5, 2) := by decide +kernel
theorem dL_law_449 : decode cL_law 449 = .ok (.aload_n 2, 1) := by decide +kernel
theorem dL_law_450 : decode cL_law 450 = .ok (.aload_n 0, 1) := by decide +kernel
theorem dL_law_451 : decode cL_law 451 = .ok (.iload 4, 2) := by decide +kernel
theorem dL_law_453 : decode cL_law 453 = .ok (.iconst 1, 1) := by decide +kernel
theorem dL_law_454 : decode cL_law 454 = .ok (.iadd, 1) := by decide +kernel
theorem dL_law_455 : decode cL_law 455 = .ok (.iaload, 1) := by decide +kernel
theorem dL_law_456 : decode cL_law 456 = .ok (.invokevirtual 105, 3) := by decide +kernel
theorem dL_law_459 : decode cL_law 459 = .ok (.istore 6, 2) := by decide +kernel
theorem dL_law_461 : decode cL_law 461 = .ok (.aload_n 2, 1) := by decide +kernel
theorem dL_law_462 : decode cL_law 462 = .ok (.invokevirtual 91, 3) := by decide +kernel
theorem dL_law_465 : decode cL_law 465 = .ok (.iload 5, 2) := by decide +kernel
theorem dL_law_467 : decode cL_law 467 = .ok (.if_icmp .eq 5, 3) := by decide +kernel
theorem dL_law_470 : decode cL_law 470 = .ok (.iconst 0, 1) := by decide +kernel
theorem dL_law_471 : decode cL_law 471 = .ok (.ireturn, 1) := by decide +kernel
theorem dL_law_472 : decode cL_law 472 = .ok (.iload 5, 2) := by decide +kernel
theorem dL_law_474 : decode cL_law 474 = .ok (.ifCond .ne 15, 3) := by decide +kernel
theorem dL_law_477 : decode cL_law 477 = .ok (.aload_n 3, 1) := by decide +kernel
theorem dL_law_478 : decode cL_law 478 = .ok (.iconst 0, 1) := by decide +kernel
theorem dL_law_479 : decode cL_law 479 = .ok (.laload, 1) := by decide +kernel
theorem dL_law_480 : decode cL_law 480 = .ok (.iload 6, 2) := by decide +kernel
theorem dL_law_482 : decode cL_law 482 = .ok (.i2l, 1) := by decide +kernel
theorem dL_law_483 : decode cL_law 483 = .ok (.lcmp, 1) := by decide +kernel
theorem dL_law_484 : decode cL_law 484 = .ok (.ifCond .eq 5, 3) := by decide +kernel
theorem dL_law_487 : decode cL_law 487 = .ok (.iconst 0, 1) := by decide +kernel
theorem dL_law_488 : decode cL_law 488 = .ok (.ireturn, 1) := by decide +kernel
theorem dL_law_489 : decode cL_law 489 = .ok (.goto 1152, 3) := by decide +kernel
theorem dL_law_492 : decode cL_law 492 = .ok (.aload_n 1, 1) := by decide +kernel
theorem dL_law_493 : decode cL_law 493 = .ok (.aload_n 0, 1) := by decide +kernel
theorem dL_law_494 : decode cL_law 494 = .ok (.iload 4, 2) := by decide +kernel
theorem dL_law_496 : decode cL_law 496 = .ok (.iconst 1, 1) := by decide +kernel
theorem dL_law_497 : decode cL_law 497 = .ok (.iadd, 1) := by decide +kernel
theorem dL_law_498 : decode cL_law 498 = .ok (.iaload, 1) := by decide +kernel
theorem dL_law_499 : decode cL_law 499 = .ok (.aload_n 3, 1) := by decide +kernel
theorem dL_law_500 : decode cL_law 500 = .ok (.invokestatic 106, 3) := by decide +kernel
theorem dL_law_503 : decode cL_law 503 = .ok (.istore 5, 2) := by decide +kernel
theorem dL_law_505 : decode cL_law 505 = .ok (.aload_n 2, 1) := by decide +kernel
theorem dL_law_506 : decode cL_law 506 = .ok (.aload_n 0, 1) := by decide +kernel
theorem dL_law_507 : decode cL_law 507 = .ok (.iload 4, 2) := by decide +kernel
theorem dL_law_509 : decode cL_law 509 = .ok (.iconst 1, 1) := by decide +kernel
theorem dL_law_510 : decode cL_law 510 = .ok (.iadd, 1) := by decide +kernel
theorem dL_law_511 : decode cL_law 511 = .ok (.iaload, 1) := by decide +kernel
theorem dL_law_512 : decode cL_law 512 = .ok (.invokevirtual 108, 3) := by decide +kernel
theorem dL_law_515 : decode cL_law 515 = .ok (.istore 6, 2) := by decide +kernel
theorem dL_law_517 : decode cL_law 517 = .ok (.aload_n 2, 1) := by decide +kernel
theorem dL_law_518 : decode cL_law 518 = .ok (.invokevirtual 91, 3) := by decide +kernel
theorem dL_law_521 : decode cL_law 521 = .ok (.iload 5, 2) := by decide +kernel
theorem dL_law_523 : decode cL_law 523 = .ok (.if_icmp .eq 5, 3) := by decide +kernel
theorem dL_law_526 : decode cL_law 526 = .ok (.iconst 0, 1) := by decide +kernel
theorem dL_law_527 : decode cL_law 527 = .ok (.ireturn, 1) := by decide +kernel
theorem dL_law_528 : decode cL_law 528 = .ok (.iload 5, 2) := by decide +kernel
theorem dL_law_530 : decode cL_law 530 = .ok (.ifCond .ne 15, 3) := by decide +kernel
theorem dL_law_533 : decode cL_law 533 = .ok (.aload_n 3, 1) := by decide +kernel
theorem dL_law_534 : decode cL_law 534 = .ok (.iconst 0, 1) := by decide +kernel
theorem dL_law_535 : decode cL_law 535 = .ok (.laload, 1) := by decide +kernel
theorem dL_law_536 : decode cL_law 536 = .ok (.iload 6, 2) := by decide +kernel
theorem dL_law_538 : decode cL_law 538 = .ok (.i2l, 1) := by decide +kernel
theorem dL_law_539 : decode cL_law 539 = .ok (.lcmp, 1) := by decide +kernel
theorem dL_law_540 : decode cL_law 540 = .ok (.ifCond .eq 5, 3) := by decide +kernel
theorem dL_law_543 : decode cL_law 543 = .ok (.iconst 0, 1) := by decide +kernel
theorem dL_law_544 : decode cL_law 544 = .ok (.ireturn, 1) := by decide +kernel
theorem dL_law_545 : decode cL_law 545 = .ok (.goto 1096, 3) := by decide +kernel
theorem dL_law_548 : decode cL_law 548 = .ok (.aload_n 1, 1) := by decide +kernel
theorem dL_law_549 : decode cL_law 549 = .ok (.aload_n 0, 1) := by decide +kernel
theorem dL_law_550 : decode cL_law 550 = .ok (.iload 4, 2) := by decide +kernel
theorem dL_law_552 : decode cL_law 552 = .ok (.iconst 1, 1) := by decide +kernel
theorem dL_law_553 : decode cL_law 553 = .ok (.iadd, 1) := by decide +kernel
theorem dL_law_554 : decode cL_law 554 = .ok (.iaload, 1) := by decide +kernel
theorem dL_law_555 : decode cL_law 555 = .ok (.aload_n 0, 1) := by decide +kernel
theorem dL_law_556 : decode cL_law 556 = .ok (.iload 4, 2) := by decide +kernel
theorem dL_law_558 : decode cL_law 558 = .ok (.iconst 2, 1) := by decide +kernel
theorem dL_law_559 : decode cL_law 559 = .ok (.iadd, 1) := by decide +kernel
theorem dL_law_560 : decode cL_law 560 = .ok (.iaload, 1) := by decide +kernel
theorem dL_law_561 : decode cL_law 561 = .ok (.aload_n 3, 1) := by decide +kernel
theorem dL_law_562 : decode cL_law 562 = .ok (.invokestatic 109, 3) := by decide +kernel
theorem dL_law_565 : decode cL_law 565 = .ok (.istore 5, 2) := by decide +kernel
theorem dL_law_567 : decode cL_law 567 = .ok (.aload_n 2, 1) := by decide +kernel
theorem dL_law_568 : decode cL_law 568 = .ok (.aload_n 0, 1) := by decide +kernel
theorem dL_law_569 : decode cL_law 569 = .ok (.iload 4, 2) := by decide +kernel
theorem dL_law_571 : decode cL_law 571 = .ok (.iconst 1, 1) := by decide +kernel
theorem dL_law_572 : decode cL_law 572 = .ok (.iadd, 1) := by decide +kernel
theorem dL_law_573 : decode cL_law 573 = .ok (.iaload, 1) := by decide +kernel
theorem dL_law_574 : decode cL_law 574 = .ok (.aload_n 0, 1) := by decide +kernel
theorem dL_law_575 : decode cL_law 575 = .ok (.iload 4, 2) := by decide +kernel
theorem dL_law_577 : decode cL_law 577 = .ok (.iconst 2, 1) := by decide +kernel
theorem dL_law_578 : decode cL_law 578 = .ok (.iadd, 1) := by decide +kernel
theorem dL_law_579 : decode cL_law 579 = .ok (.iaload, 1) := by decide +kernel
theorem dL_law_580 : decode cL_law 580 = .ok (.invokevirtual 112, 3) := by decide +kernel
theorem dL_law_583 : decode cL_law 583 = .ok (.istore 6, 2) := by decide +kernel
theorem dL_law_585 : decode cL_law 585 = .ok (.aload_n 2, 1) := by decide +kernel
theorem dL_law_586 : decode cL_law 586 = .ok (.invokevirtual 91, 3) := by decide +kernel
theorem dL_law_589 : decode cL_law 589 = .ok (.iload 5, 2) := by decide +kernel
theorem dL_law_591 : decode cL_law 591 = .ok (.if_icmp .eq 5, 3) := by decide +kernel
theorem dL_law_594 : decode cL_law 594 = .ok (.iconst 0, 1) := by decide +kernel
theorem dL_law_595 : decode cL_law 595 = .ok (.ireturn, 1) := by decide +kernel
theorem dL_law_596 : decode cL_law 596 = .ok (.iload 5, 2) := by decide +kernel
theorem dL_law_598 : decode cL_law 598 = .ok (.ifCond .ne 15, 3) := by decide +kernel
theorem dL_law_601 : decode cL_law 601 = .ok (.aload_n 3, 1) := by decide +kernel
theorem dL_law_602 : decode cL_law 602 = .ok (.iconst 0, 1) := by decide +kernel
theorem dL_law_603 : decode cL_law 603 = .ok (.laload, 1) := by decide +kernel
theorem dL_law_604 : decode cL_law 604 = .ok (.iload 6, 2) := by decide +kernel
theorem dL_law_606 : decode cL_law 606 = .ok (.i2l, 1) := by decide +kernel
theorem dL_law_607 : decode cL_law 607 = .ok (.lcmp, 1) := by decide +kernel
theorem dL_law_608 : decode cL_law 608 = .ok (.ifCond .eq 5, 3) := by decide +kernel
theorem dL_law_611 : decode cL_law 611 = .ok (.iconst 0, 1) := by decide +kernel
theorem dL_law_612 : decode cL_law 612 = .ok (.ireturn, 1) := by decide +kernel
theorem dL_law_613 : decode cL_law 613 = .ok (.goto 1028, 3) := by decide +kernel
theorem dL_law_616 : decode cL_law 616 = .ok (.aload_n 1, 1) := by decide +kernel
theorem dL_law_617 : decode cL_law 617 = .ok (.aload_n 0, 1) := by decide +kernel
theorem dL_law_618 : decode cL_law 618 = .ok (.iload 4, 2) := by decide +kernel
theorem dL_law_620 : decode cL_law 620 = .ok (.iconst 1, 1) := by decide +kernel
theorem dL_law_621 : decode cL_law 621 = .ok (.iadd, 1) := by decide +kernel
theorem dL_law_622 : decode cL_law 622 = .ok (.iaload, 1) := by decide +kernel
theorem dL_law_623 : decode cL_law 623 = .ok (.aload_n 0, 1) := by decide +kernel
theorem dL_law_624 : decode cL_law 624 = .ok (.iload 4, 2) := by decide +kernel
theorem dL_law_626 : decode cL_law 626 = .ok (.iconst 2, 1) := by decide +kernel
theorem dL_law_627 : decode cL_law 627 = .ok (.iadd, 1) := by decide +kernel
theorem dL_law_628 : decode cL_law 628 = .ok (.iaload, 1) := by decide +kernel
theorem dL_law_629 : decode cL_law 629 = .ok (.aload_n 3, 1) := by decide +kernel
theorem dL_law_630 : decode cL_law 630 = .ok (.invokestatic 113, 3) := by decide +kernel
theorem dL_law_633 : decode cL_law 633 = .ok (.istore 5, 2) := by decide +kernel
theorem dL_law_635 : decode cL_law 635 = .ok (.aload_n 2, 1) := by decide +kernel
theorem dL_law_636 : decode cL_law 636 = .ok (.aload_n 0, 1) := by decide +kernel
theorem dL_law_637 : decode cL_law 637 = .ok (.iload 4, 2) := by decide +kernel
theorem dL_law_639 : decode cL_law 639 = .ok (.iconst 1, 1) := by decide +kernel
theorem dL_law_640 : decode cL_law 640 = .ok (.iadd, 1) := by decide +kernel
theorem dL_law_641 : decode cL_law 641 = .ok (.iaload, 1) := by decide +kernel
theorem dL_law_642 : decode cL_law 642 = .ok (.aload_n 0, 1) := by decide +kernel
theorem dL_law_643 : decode cL_law 643 = .ok (.iload 4, 2) := by decide +kernel
theorem dL_law_645 : decode cL_law 645 = .ok (.iconst 2, 1) := by decide +kernel
theorem dL_law_646 : decode cL_law 646 = .ok (.iadd, 1) := by decide +kernel
theorem dL_law_647 : decode cL_law 647 = .ok (.iaload, 1) := by decide +kernel
theorem dL_law_648 : decode cL_law 648 = .ok (.invokevirtual 115, 3) := by decide +kernel
theorem dL_law_651 : decode cL_law 651 = .ok (.istore 6, 2) := by decide +kernel
theorem dL_law_653 : decode cL_law 653 = .ok (.aload_n 2, 1) := by decide +kernel
theorem dL_law_654 : decode cL_law 654 = .ok (.invokevirtual 91, 3) := by decide +kernel
theorem dL_law_657 : decode cL_law 657 = .ok (.iload 5, 2) := by decide +kernel
theorem dL_law_659 : decode cL_law 659 = .ok (.if_icmp .eq 5, 3) := by decide +kernel
theorem dL_law_662 : decode cL_law 662 = .ok (.iconst 0, 1) := by decide +kernel
theorem dL_law_663 : decode cL_law 663 = .ok (.ireturn, 1) := by decide +kernel
theorem dL_law_664 : decode cL_law 664 = .ok (.iload 5, 2) := by decide +kernel
theorem dL_law_666 : decode cL_law 666 = .ok (.ifCond .ne 15, 3) := by decide +kernel
theorem dL_law_669 : decode cL_law 669 = .ok (.aload_n 3, 1) := by decide +kernel
theorem dL_law_670 : decode cL_law 670 = .ok (.iconst 0, 1) := by decide +kernel
theorem dL_law_671 : decode cL_law 671 = .ok (.laload, 1) := by decide +kernel
theorem dL_law_672 : decode cL_law 672 = .ok (.iload 6, 2) := by decide +kernel
theorem dL_law_674 : decode cL_law 674 = .ok (.i2l, 1) := by decide +kernel
theorem dL_law_675 : decode cL_law 675 = .ok (.lcmp, 1) := by decide +kernel
theorem dL_law_676 : decode cL_law 676 = .ok (.ifCond .eq 5, 3) := by decide +kernel
theorem dL_law_679 : decode cL_law 679 = .ok (.iconst 0, 1) := by decide +kernel
theorem dL_law_680 : decode cL_law 680 = .ok (.ireturn, 1) := by decide +kernel
theorem dL_law_681 : decode cL_law 681 = .ok (.goto 960, 3) := by decide +kernel
theorem dL_law_684 : decode cL_law 684 = .ok (.aload_n 1, 1) := by decide +kernel
theorem dL_law_685 : decode cL_law 685 = .ok (.aload_n 0, 1) := by decide +kernel
theorem dL_law_686 : decode cL_law 686 = .ok (.iload 4, 2) := by decide +kernel
theorem dL_law_688 : decode cL_law 688 = .ok (.iconst 1, 1) := by decide +kernel
theorem dL_law_689 : decode cL_law 689 = .ok (.iadd, 1) := by decide +kernel
theorem dL_law_690 : decode cL_law 690 = .ok (.iaload, 1) := by decide +kernel
theorem dL_law_691 : decode cL_law 691 = .ok (.aload_n 0, 1) := by decide +kernel
theorem dL_law_692 : decode cL_law 692 = .ok (.iload 4, 2) := by decide +kernel
theorem dL_law_694 : decode cL_law 694 = .ok (.iconst 2, 1) := by decide +kernel
theorem dL_law_695 : decode cL_law 695 = .ok (.iadd, 1) := by decide +kernel
theorem dL_law_696 : decode cL_law 696 = .ok (.iaload, 1) := by decide +kernel
theorem dL_law_697 : decode cL_law 697 = .ok (.aload_n 0, 1) := by decide +kernel
theorem dL_law_698 : decode cL_law 698 = .ok (.iload 4, 2) := by decide +kernel
theorem dL_law_700 : decode cL_law 700 = .ok (.iconst 3, 1) := by decide +kernel
theorem dL_law_701 : decode cL_law 701 = .ok (.iadd, 1) := by decide +kernel
theorem dL_law_702 : decode cL_law 702 = .ok (.iaload, 1) := by decide +kernel
theorem dL_law_703 : decode cL_law 703 = .ok (.aload_n 0, 1) := by decide +kernel
theorem dL_law_704 : decode cL_law 704 = .ok (.iload 4, 2) := by decide +kernel
theorem dL_law_706 : decode cL_law 706 = .ok (.iconst 4, 1) := by decide +kernel
theorem dL_law_707 : decode cL_law 707 = .ok (.iadd, 1) := by decide +kernel
theorem dL_law_708 : decode cL_law 708 = .ok (.iaload, 1) := by decide +kernel
theorem dL_law_709 : decode cL_law 709 = .ok (.ifCond .eq 7, 3) := by decide +kernel
theorem dL_law_712 : decode cL_law 712 = .ok (.iconst 1, 1) := by decide +kernel
theorem dL_law_713 : decode cL_law 713 = .ok (.goto 4, 3) := by decide +kernel
theorem dL_law_716 : decode cL_law 716 = .ok (.iconst 0, 1) := by decide +kernel
theorem dL_law_717 : decode cL_law 717 = .ok (.aload_n 3, 1) := by decide +kernel
theorem dL_law_718 : decode cL_law 718 = .ok (.invokestatic 116, 3) := by decide +kernel
theorem dL_law_721 : decode cL_law 721 = .ok (.istore 5, 2) := by decide +kernel
theorem dL_law_723 : decode cL_law 723 = .ok (.aload_n 2, 1) := by decide +kernel
theorem dL_law_724 : decode cL_law 724 = .ok (.aload_n 0, 1) := by decide +kernel
theorem dL_law_725 : decode cL_law 725 = .ok (.iload 4, 2) := by decide +kernel
theorem dL_law_727 : decode cL_law 727 = .ok (.iconst 1, 1) := by decide +kernel
theorem dL_law_728 : decode cL_law 728 = .ok (.iadd, 1) := by decide +kernel
theorem dL_law_729 : decode cL_law 729 = .ok (.iaload, 1) := by decide +kernel
theorem dL_law_730 : decode cL_law 730 = .ok (.aload_n 0, 1) := by decide +kernel
theorem dL_law_731 : decode cL_law 731 = .ok (.iload 4, 2) := by decide +kernel
theorem dL_law_733 : decode cL_law 733 = .ok (.iconst 2, 1) := by decide +kernel
theorem dL_law_734 : decode cL_law 734 = .ok (.iadd, 1) := by decide +kernel
theorem dL_law_735 : decode cL_law 735 = .ok (.iaload, 1) := by decide +kernel
theorem dL_law_736 : decode cL_law 736 = .ok (.aload_n 0, 1) := by decide +kernel
theorem dL_law_737 : decode cL_law 737 = .ok (.iload 4, 2) := by decide +kernel
theorem dL_law_739 : decode cL_law 739 = .ok (.iconst 3, 1) := by decide +kernel
theorem dL_law_740 : decode cL_law 740 = .ok (.iadd, 1) := by decide +kernel
theorem dL_law_741 : decode cL_law 741 = .ok (.iaload, 1) := by decide +kernel
theorem dL_law_742 : decode cL_law 742 = .ok (.aload_n 0, 1) := by decide +kernel
theorem dL_law_743 : decode cL_law 743 = .ok (.iload 4, 2) := by decide +kernel
theorem dL_law_745 : decode cL_law 745 = .ok (.iconst 4, 1) := by decide +kernel
theorem dL_law_746 : decode cL_law 746 = .ok (.iadd, 1) := by decide +kernel
theorem dL_law_747 : decode cL_law 747 = .ok (.iaload, 1) := by decide +kernel
theorem dL_law_748 : decode cL_law 748 = .ok (.ifCond .eq 7, 3) := by decide +kernel
theorem dL_law_751 : decode cL_law 751 = .ok (.iconst 1, 1) := by decide +kernel
theorem dL_law_752 : decode cL_law 752 = .ok (.goto 4, 3) := by decide +kernel
theorem dL_law_755 : decode cL_law 755 = .ok (.iconst 0, 1) := by decide +kernel
theorem dL_law_756 : decode cL_law 756 = .ok (.invokevirtual 119, 3) := by decide +kernel
theorem dL_law_759 : decode cL_law 759 = .ok (.istore 6, 2) := by decide +kernel
theorem dL_law_761 : decode cL_law 761 = .ok (.aload_n 2, 1) := by decide +kernel
theorem dL_law_762 : decode cL_law 762 = .ok (.invokevirtual 91, 3) := by decide +kernel
theorem dL_law_765 : decode cL_law 765 = .ok (.iload 5, 2) := by decide +kernel
theorem dL_law_767 : decode cL_law 767 = .ok (.if_icmp .eq 5, 3) := by decide +kernel
theorem dL_law_770 : decode cL_law 770 = .ok (.iconst 0, 1) := by decide +kernel
theorem dL_law_771 : decode cL_law 771 = .ok (.ireturn, 1) := by decide +kernel
theorem dL_law_772 : decode cL_law 772 = .ok (.iload 5, 2) := by decide +kernel
theorem dL_law_774 : decode cL_law 774 = .ok (.ifCond .ne 15, 3) := by decide +kernel
theorem dL_law_777 : decode cL_law 777 = .ok (.aload_n 3, 1) := by decide +kernel
theorem dL_law_778 : decode cL_law 778 = .ok (.iconst 0, 1) := by decide +kernel
theorem dL_law_779 : decode cL_law 779 = .ok (.laload, 1) := by decide +kernel
theorem dL_law_780 : decode cL_law 780 = .ok (.iload 6, 2) := by decide +kernel
theorem dL_law_782 : decode cL_law 782 = .ok (.i2l, 1) := by decide +kernel
theorem dL_law_783 : decode cL_law 783 = .ok (.lcmp, 1) := by decide +kernel
theorem dL_law_784 : decode cL_law 784 = .ok (.ifCond .eq 5, 3) := by decide +kernel
theorem dL_law_787 : decode cL_law 787 = .ok (.iconst 0, 1) := by decide +kernel
theorem dL_law_788 : decode cL_law 788 = .ok (.ireturn, 1) := by decide +kernel
theorem dL_law_789 : decode cL_law 789 = .ok (.goto 852, 3) := by decide +kernel
theorem dL_law_792 : decode cL_law 792 = .ok (.aload_n 1, 1) := by decide +kernel
theorem dL_law_793 : decode cL_law 793 = .ok (.aload_n 0, 1) := by decide +kernel
theorem dL_law_794 : decode cL_law 794 = .ok (.iload 4, 2) := by decide +kernel
theorem dL_law_796 : decode cL_law 796 = .ok (.iconst 1, 1) := by decide +kernel
theorem dL_law_797 : decode cL_law 797 = .ok (.iadd, 1) := by decide +kernel
theorem dL_law_798 : decode cL_law 798 = .ok (.iaload, 1) := by decide +kernel
theorem dL_law_799 : decode cL_law 799 = .ok (.aload_n 0, 1) := by decide +kernel
theorem dL_law_800 : decode cL_law 800 = .ok (.iload 4, 2) := by decide +kernel
theorem dL_law_802 : decode cL_law 802 = .ok (.iconst 2, 1) := by decide +kernel
theorem dL_law_803 : decode cL_law 803 = .ok (.iadd, 1) := by decide +kernel
theorem dL_law_804 : decode cL_law 804 = .ok (.iaload, 1) := by decide +kernel
theorem dL_law_805 : decode cL_law 805 = .ok (.aload_n 0, 1) := by decide +kernel
theorem dL_law_806 : decode cL_law 806 = .ok (.iload 4, 2) := by decide +kernel
theorem dL_law_808 : decode cL_law 808 = .ok (.iconst 3, 1) := by decide +kernel
theorem dL_law_809 : decode cL_law 809 = .ok (.iadd, 1) := by decide +kernel
theorem dL_law_810 : decode cL_law 810 = .ok (.iaload, 1) := by decide +kernel
theorem dL_law_811 : decode cL_law 811 = .ok (.aload_n 3, 1) := by decide +kernel
theorem dL_law_812 : decode cL_law 812 = .ok (.invokestatic 120, 3) := by decide +kernel
theorem dL_law_815 : decode cL_law 815 = .ok (.istore 5, 2) := by decide +kernel
theorem dL_law_817 : decode cL_law 817 = .ok (.aload_n 2, 1) := by decide +kernel
theorem dL_law_818 : decode cL_law 818 = .ok (.aload_n 0, 1) := by decide +kernel
theorem dL_law_819 : decode cL_law 819 = .ok (.iload 4, 2) := by decide +kernel
theorem dL_law_821 : decode cL_law 821 = .ok (.iconst 1, 1) := by decide +kernel
theorem dL_law_822 : decode cL_law 822 = .ok (.iadd, 1) := by decide +kernel
theorem dL_law_823 : decode cL_law 823 = .ok (.iaload, 1) := by decide +kernel
theorem dL_law_824 : decode cL_law 824 = .ok (.aload_n 0, 1) := by decide +kernel
theorem dL_law_825 : decode cL_law 825 = .ok (.iload 4, 2) := by decide +kernel
theorem dL_law_827 : decode cL_law 827 = .ok (.iconst 2, 1) := by decide +kernel
theorem dL_law_828 : decode cL_law 828 = .ok (.iadd, 1) := by decide +kernel
theorem dL_law_829 : decode cL_law 829 = .ok (.iaload, 1) := by decide +kernel
theorem dL_law_830 : decode cL_law 830 = .ok (.aload_n 0, 1) := by decide +kernel
theorem dL_law_831 : decode cL_law 831 = .ok (.iload 4, 2) := by decide +kernel
theorem dL_law_833 : decode cL_law 833 = .ok (.iconst 3, 1) := by decide +kernel
theorem dL_law_834 : decode cL_law 834 = .ok (.iadd, 1) := by decide +kernel
theorem dL_law_835 : decode cL_law 835 = .ok (.iaload, 1) := by decide +kernel
theorem dL_law_836 : decode cL_law 836 = .ok (.invokevirtual 122, 3) := by decide +kernel
theorem dL_law_839 : decode cL_law 839 = .ok (.istore 6, 2) := by decide +kernel
theorem dL_law_841 : decode cL_law 841 = .ok (.aload_n 2, 1) := by decide +kernel
theorem dL_law_842 : decode cL_law 842 = .ok (.invokevirtual 91, 3) := by decide +kernel
theorem dL_law_845 : decode cL_law 845 = .ok (.iload 5, 2) := by decide +kernel
theorem dL_law_847 : decode cL_law 847 = .ok (.if_icmp .eq 5, 3) := by decide +kernel
theorem dL_law_850 : decode cL_law 850 = .ok (.iconst 0, 1) := by decide +kernel
theorem dL_law_851 : decode cL_law 851 = .ok (.ireturn, 1) := by decide +kernel
theorem dL_law_852 : decode cL_law 852 = .ok (.iload 5, 2) := by decide +kernel
theorem dL_law_854 : decode cL_law 854 = .ok (.ifCond .ne 22, 3) := by decide +kernel
theorem dL_law_857 : decode cL_law 857 = .ok (.aload_n 3, 1) := by decide +kernel
theorem dL_law_858 : decode cL_law 858 = .ok (.iconst 0, 1) := by decide +kernel
theorem dL_law_859 : decode cL_law 859 = .ok (.laload, 1) := by decide +kernel
theorem dL_law_860 : decode cL_law 860 = .ok (.iload 6, 2) := by decide +kernel
theorem dL_law_862 : decode cL_law 862 = .ok (.ifCond .eq 7, 3) := by decide +kernel
theorem dL_law_865 : decode cL_law 865 = .ok (.lconst 1, 1) := by decide +kernel
theorem dL_law_866 : decode cL_law 866 = .ok (.goto 4, 3) := by decide +kernel
theorem dL_law_869 : decode cL_law 869 = .ok (.lconst 0, 1) := by decide +kernel
theorem dL_law_870 : decode cL_law 870 = .ok (.lcmp, 1) := by decide +kernel
theorem dL_law_871 : decode cL_law 871 = .ok (.ifCond .eq 5, 3) := by decide +kernel
theorem dL_law_874 : decode cL_law 874 = .ok (.iconst 0, 1) := by decide +kernel
theorem dL_law_875 : decode cL_law 875 = .ok (.ireturn, 1) := by decide +kernel
theorem dL_law_876 : decode cL_law 876 = .ok (.goto 765, 3) := by decide +kernel
theorem dL_law_879 : decode cL_law 879 = .ok (.aload_n 1, 1) := by decide +kernel
theorem dL_law_880 : decode cL_law 880 = .ok (.aload_n 0, 1) := by decide +kernel
theorem dL_law_881 : decode cL_law 881 = .ok (.iload 4, 2) := by decide +kernel
theorem dL_law_883 : decode cL_law 883 = .ok (.iconst 1, 1) := by decide +kernel
theorem dL_law_884 : decode cL_law 884 = .ok (.iadd, 1) := by decide +kernel
theorem dL_law_885 : decode cL_law 885 = .ok (.iaload, 1) := by decide +kernel
theorem dL_law_886 : decode cL_law 886 = .ok (.aload_n 0, 1) := by decide +kernel
theorem dL_law_887 : decode cL_law 887 = .ok (.iload 4, 2) := by decide +kernel
theorem dL_law_889 : decode cL_law 889 = .ok (.iconst 2, 1) := by decide +kernel
theorem dL_law_890 : decode cL_law 890 = .ok (.iadd, 1) := by decide +kernel
theorem dL_law_891 : decode cL_law 891 = .ok (.iaload, 1) := by decide +kernel
theorem dL_law_892 : decode cL_law 892 = .ok (.aload_n 3, 1) := by decide +kernel
theorem dL_law_893 : decode cL_law 893 = .ok (.invokestatic 123, 3) := by decide +kernel
theorem dL_law_896 : decode cL_law 896 = .ok (.istore 5, 2) := by decide +kernel
theorem dL_law_898 : decode cL_law 898 = .ok (.aload_n 2, 1) := by decide +kernel
theorem dL_law_899 : decode cL_law 899 = .ok (.aload_n 0, 1) := by decide +kernel
theorem dL_law_900 : decode cL_law 900 = .ok (.iload 4, 2) := by decide +kernel
theorem dL_law_902 : decode cL_law 902 = .ok (.iconst 1, 1) := by decide +kernel
theorem dL_law_903 : decode cL_law 903 = .ok (.iadd, 1) := by decide +kernel
theorem dL_law_904 : decode cL_law 904 = .ok (.iaload, 1) := by decide +kernel
theorem dL_law_905 : decode cL_law 905 = .ok (.aload_n 0, 1) := by decide +kernel
theorem dL_law_906 : decode cL_law 906 = .ok (.iload 4, 2) := by decide +kernel
theorem dL_law_908 : decode cL_law 908 = .ok (.iconst 2, 1) := by decide +kernel
theorem dL_law_909 : decode cL_law 909 = .ok (.iadd, 1) := by decide +kernel
theorem dL_law_910 : decode cL_law 910 = .ok (.iaload, 1) := by decide +kernel
theorem dL_law_911 : decode cL_law 911 = .ok (.invokevirtual 125, 3) := by decide +kernel
theorem dL_law_914 : decode cL_law 914 = .ok (.istore 6, 2) := by decide +kernel
theorem dL_law_916 : decode cL_law 916 = .ok (.aload_n 2, 1) := by decide +kernel
theorem dL_law_917 : decode cL_law 917 = .ok (.invokevirtual 91, 3) := by decide +kernel
theorem dL_law_920 : decode cL_law 920 = .ok (.iload 5, 2) := by decide +kernel
theorem dL_law_922 : decode cL_law 922 = .ok (.if_icmp .eq 5, 3) := by decide +kernel
theorem dL_law_925 : decode cL_law 925 = .ok (.iconst 0, 1) := by decide +kernel
theorem dL_law_926 : decode cL_law 926 = .ok (.ireturn, 1) := by decide +kernel
theorem dL_law_927 : decode cL_law 927 = .ok (.iload 5, 2) := by decide +kernel
theorem dL_law_929 : decode cL_law 929 = .ok (.ifCond .ne 15, 3) := by decide +kernel
theorem dL_law_932 : decode cL_law 932 = .ok (.aload_n 3, 1) := by decide +kernel
theorem dL_law_933 : decode cL_law 933 = .ok (.iconst 0, 1) := by decide +kernel
theorem dL_law_934 : decode cL_law 934 = .ok (.laload, 1) := by decide +kernel
theorem dL_law_935 : decode cL_law 935 = .ok (.iload 6, 2) := by decide +kernel
theorem dL_law_937 : decode cL_law 937 = .ok (.i2l, 1) := by decide +kernel
theorem dL_law_938 : decode cL_law 938 = .ok (.lcmp, 1) := by decide +kernel
theorem dL_law_939 : decode cL_law 939 = .ok (.ifCond .eq 5, 3) := by decide +kernel
theorem dL_law_942 : decode cL_law 942 = .ok (.iconst 0, 1) := by decide +kernel
theorem dL_law_943 : decode cL_law 943 = .ok (.ireturn, 1) := by decide +kernel
theorem dL_law_944 : decode cL_law 944 = .ok (.goto 697, 3) := by decide +kernel
theorem dL_law_947 : decode cL_law 947 = .ok (.aload_n 1, 1) := by decide +kernel
theorem dL_law_948 : decode cL_law 948 = .ok (.aload_n 0, 1) := by decide +kernel
theorem dL_law_949 : decode cL_law 949 = .ok (.iload 4, 2) := by decide +kernel
theorem dL_law_951 : decode cL_law 951 = .ok (.iconst 1, 1) := by decide +kernel
theorem dL_law_952 : decode cL_law 952 = .ok (.iadd, 1) := by decide +kernel
theorem dL_law_953 : decode cL_law 953 = .ok (.iaload, 1) := by decide +kernel
theorem dL_law_954 : decode cL_law 954 = .ok (.aload_n 0, 1) := by decide +kernel
theorem dL_law_955 : decode cL_law 955 = .ok (.iload 4, 2) := by decide +kernel
theorem dL_law_957 : decode cL_law 957 = .ok (.iconst 2, 1) := by decide +kernel
theorem dL_law_958 : decode cL_law 958 = .ok (.iadd, 1) := by decide +kernel
theorem dL_law_959 : decode cL_law 959 = .ok (.iaload, 1) := by decide +kernel
theorem dL_law_960 : decode cL_law 960 = .ok (.aload_n 0, 1) := by decide +kernel
theorem dL_law_961 : decode cL_law 961 = .ok (.iload 4, 2) := by decide +kernel
theorem dL_law_963 : decode cL_law 963 = .ok (.iconst 3, 1) := by decide +kernel
theorem dL_law_964 : decode cL_law 964 = .ok (.iadd, 1) := by decide +kernel
theorem dL_law_965 : decode cL_law 965 = .ok (.iaload, 1) := by decide +kernel
theorem dL_law_966 : decode cL_law 966 = .ok (.aload_n 3, 1) := by decide +kernel
theorem dL_law_967 : decode cL_law 967 = .ok (.invokestatic 126, 3) := by decide +kernel
theorem dL_law_970 : decode cL_law 970 = .ok (.istore 5, 2) := by decide +kernel
theorem dL_law_972 : decode cL_law 972 = .ok (.aload_n 2, 1) := by decide +kernel
theorem dL_law_973 : decode cL_law 973 = .ok (.aload_n 0, 1) := by decide +kernel
theorem dL_law_974 : decode cL_law 974 = .ok (.iload 4, 2) := by decide +kernel
theorem dL_law_976 : decode cL_law 976 = .ok (.iconst 1, 1) := by decide +kernel
theorem dL_law_977 : decode cL_law 977 = .ok (.iadd, 1) := by decide +kernel
theorem dL_law_978 : decode cL_law 978 = .ok (.iaload, 1) := by decide +kernel
theorem dL_law_979 : decode cL_law 979 = .ok (.aload_n 0, 1) := by decide +kernel
theorem dL_law_980 : decode cL_law 980 = .ok (.iload 4, 2) := by decide +kernel
theorem dL_law_982 : decode cL_law 982 = .ok (.iconst 2, 1) := by decide +kernel
theorem dL_law_983 : decode cL_law 983 = .ok (.iadd, 1) := by decide +kernel
theorem dL_law_984 : decode cL_law 984 = .ok (.iaload, 1) := by decide +kernel
theorem dL_law_985 : decode cL_law 985 = .ok (.aload_n 0, 1) := by decide +kernel
theorem dL_law_986 : decode cL_law 986 = .ok (.iload 4, 2) := by decide +kernel
theorem dL_law_988 : decode cL_law 988 = .ok (.iconst 3, 1) := by decide +kernel
theorem dL_law_989 : decode cL_law 989 = .ok (.iadd, 1) := by decide +kernel
theorem dL_law_990 : decode cL_law 990 = .ok (.iaload, 1) := by decide +kernel
theorem dL_law_991 : decode cL_law 991 = .ok (.invokevirtual 128, 3) := by decide +kernel
theorem dL_law_994 : decode cL_law 994 = .ok (.istore 6, 2) := by decide +kernel
theorem dL_law_996 : decode cL_law 996 = .ok (.aload_n 2, 1) := by decide +kernel
theorem dL_law_997 : decode cL_law 997 = .ok (.invokevirtual 91, 3) := by decide +kernel
theorem dL_law_1000 : decode cL_law 1000 = .ok (.iload 5, 2) := by decide +kernel
theorem dL_law_1002 : decode cL_law 1002 = .ok (.if_icmp .eq 5, 3) := by decide +kernel
theorem dL_law_1005 : decode cL_law 1005 = .ok (.iconst 0, 1) := by decide +kernel
theorem dL_law_1006 : decode cL_law 1006 = .ok (.ireturn, 1) := by decide +kernel
theorem dL_law_1007 : decode cL_law 1007 = .ok (.iload 5, 2) := by decide +kernel
theorem dL_law_1009 : decode cL_law 1009 = .ok (.ifCond .ne 15, 3) := by decide +kernel
theorem dL_law_1012 : decode cL_law 1012 = .ok (.aload_n 3, 1) := by decide +kernel
theorem dL_law_1013 : decode cL_law 1013 = .ok (.iconst 0, 1) := by decide +kernel
theorem dL_law_1014 : decode cL_law 1014 = .ok (.laload, 1) := by decide +kernel
theorem dL_law_1015 : decode cL_law 1015 = .ok (.iload 6, 2) := by decide +kernel
theorem dL_law_1017 : decode cL_law 1017 = .ok (.i2l, 1) := by decide +kernel
theorem dL_law_1018 : decode cL_law 1018 = .ok (.lcmp, 1) := by decide +kernel
theorem dL_law_1019 : decode cL_law 1019 = .ok (.ifCond .eq 5, 3) := by decide +kernel
theorem dL_law_1022 : decode cL_law 1022 = .ok (.iconst 0, 1) := by decide +kernel
theorem dL_law_1023 : decode cL_law 1023 = .ok (.ireturn, 1) := by decide +kernel
theorem dL_law_1024 : decode cL_law 1024 = .ok (.goto 617, 3) := by decide +kernel
theorem dL_law_1027 : decode cL_law 1027 = .ok (.aload_n 1, 1) := by decide +kernel
theorem dL_law_1028 : decode cL_law 1028 = .ok (.aload_n 0, 1) := by decide +kernel
theorem dL_law_1029 : decode cL_law 1029 = .ok (.iload 4, 2) := by decide +kernel
theorem dL_law_1031 : decode cL_law 1031 = .ok (.iconst 1, 1) := by decide +kernel
theorem dL_law_1032 : decode cL_law 1032 = .ok (.iadd, 1) := by decide +kernel
theorem dL_law_1033 : decode cL_law 1033 = .ok (.iaload, 1) := by decide +kernel
theorem dL_law_1034 : decode cL_law 1034 = .ok (.aload_n 0, 1) := by decide +kernel
theorem dL_law_1035 : decode cL_law 1035 = .ok (.iload 4, 2) := by decide +kernel
theorem dL_law_1037 : decode cL_law 1037 = .ok (.iconst 2, 1) := by decide +kernel
theorem dL_law_1038 : decode cL_law 1038 = .ok (.iadd, 1) := by decide +kernel
theorem dL_law_1039 : decode cL_law 1039 = .ok (.iaload, 1) := by decide +kernel
theorem dL_law_1040 : decode cL_law 1040 = .ok (.aload_n 0, 1) := by decide +kernel
theorem dL_law_1041 : decode cL_law 1041 = .ok (.iload 4, 2) := by decide +kernel
theorem dL_law_1043 : decode cL_law 1043 = .ok (.iconst 3, 1) := by decide +kernel
theorem dL_law_1044 : decode cL_law 1044 = .ok (.iadd, 1) := by decide +kernel
theorem dL_law_1045 : decode cL_law 1045 = .ok (.iaload, 1) := by decide +kernel
theorem dL_law_1046 : decode cL_law 1046 = .ok (.aload_n 0, 1) := by decide +kernel
theorem dL_law_1047 : decode cL_law 1047 = .ok (.iload 4, 2) := by decide +kernel
theorem dL_law_1049 : decode cL_law 1049 = .ok (.iconst 4, 1) := by decide +kernel
theorem dL_law_1050 : decode cL_law 1050 = .ok (.iadd, 1) := by decide +kernel
theorem dL_law_1051 : decode cL_law 1051 = .ok (.iaload, 1) := by decide +kernel
theorem dL_law_1052 : decode cL_law 1052 = .ok (.aload_n 0, 1) := by decide +kernel
theorem dL_law_1053 : decode cL_law 1053 = .ok (.iload 4, 2) := by decide +kernel
theorem dL_law_1055 : decode cL_law 1055 = .ok (.iconst 5, 1) := by decide +kernel
theorem dL_law_1056 : decode cL_law 1056 = .ok (.iadd, 1) := by decide +kernel
theorem dL_law_1057 : decode cL_law 1057 = .ok (.iaload, 1) := by decide +kernel
theorem dL_law_1058 : decode cL_law 1058 = .ok (.aload_n 0, 1) := by decide +kernel
theorem dL_law_1059 : decode cL_law 1059 = .ok (.iload 4, 2) := by decide +kernel
theorem dL_law_1061 : decode cL_law 1061 = .ok (.bipush 6, 2) := by decide +kernel
theorem dL_law_1063 : decode cL_law 1063 = .ok (.iadd, 1) := by decide +kernel
theorem dL_law_1064 : decode cL_law 1064 = .ok (.iaload, 1) := by decide +kernel
theorem dL_law_1065 : decode cL_law 1065 = .ok (.aload_n 3, 1) := by decide +kernel
theorem dL_law_1066 : decode cL_law 1066 = .ok (.invokestatic 129, 3) := by decide +kernel
theorem dL_law_1069 : decode cL_law 1069 = .ok (.istore 5, 2) := by decide +kernel
theorem dL_law_1071 : decode cL_law 1071 = .ok (.aload_n 2, 1) := by decide +kernel
theorem dL_law_1072 : decode cL_law 1072 = .ok (.aload_n 0, 1) := by decide +kernel
theorem dL_law_1073 : decode cL_law 1073 = .ok (.iload 4, 2) := by decide +kernel
theorem dL_law_1075 : decode cL_law 1075 = .ok (.iconst 1, 1) := by decide +kernel
theorem dL_law_1076 : decode cL_law 1076 = .ok (.iadd, 1) := by decide +kernel
theorem dL_law_1077 : decode cL_law 1077 = .ok (.iaload, 1) := by decide +kernel
theorem dL_law_1078 : decode cL_law 1078 = .ok (.aload_n 0, 1) := by decide +kernel
theorem dL_law_1079 : decode cL_law 1079 = .ok (.iload 4, 2) := by decide +kernel
theorem dL_law_1081 : decode cL_law 1081 = .ok (.iconst 2, 1) := by decide +kernel
theorem dL_law_1082 : decode cL_law 1082 = .ok (.iadd, 1) := by decide +kernel
theorem dL_law_1083 : decode cL_law 1083 = .ok (.iaload, 1) := by decide +kernel
theorem dL_law_1084 : decode cL_law 1084 = .ok (.aload_n 0, 1) := by decide +kernel
theorem dL_law_1085 : decode cL_law 1085 = .ok (.iload 4, 2) := by decide +kernel
theorem dL_law_1087 : decode cL_law 1087 = .ok (.iconst 3, 1) := by decide +kernel
theorem dL_law_1088 : decode cL_law 1088 = .ok (.iadd, 1) := by decide +kernel
theorem dL_law_1089 : decode cL_law 1089 = .ok (.iaload, 1) := by decide +kernel
theorem dL_law_1090 : decode cL_law 1090 = .ok (.aload_n 0, 1) := by decide +kernel
theorem dL_law_1091 : decode cL_law 1091 = .ok (.iload 4, 2) := by decide +kernel
theorem dL_law_1093 : decode cL_law 1093 = .ok (.iconst 4, 1) := by decide +kernel
theorem dL_law_1094 : decode cL_law 1094 = .ok (.iadd, 1) := by decide +kernel
theorem dL_law_1095 : decode cL_law 1095 = .ok (.iaload, 1) := by decide +kernel
theorem dL_law_1096 : decode cL_law 1096 = .ok (.aload_n 0, 1) := by decide +kernel
theorem dL_law_1097 : decode cL_law 1097 = .ok (.iload 4, 2) := by decide +kernel
theorem dL_law_1099 : decode cL_law 1099 = .ok (.iconst 5, 1) := by decide +kernel
theorem dL_law_1100 : decode cL_law 1100 = .ok (.iadd, 1) := by decide +kernel
theorem dL_law_1101 : decode cL_law 1101 = .ok (.iaload, 1) := by decide +kernel
theorem dL_law_1102 : decode cL_law 1102 = .ok (.aload_n 0, 1) := by decide +kernel
theorem dL_law_1103 : decode cL_law 1103 = .ok (.iload 4, 2) := by decide +kernel
theorem dL_law_1105 : decode cL_law 1105 = .ok (.bipush 6, 2) := by decide +kernel
theorem dL_law_1107 : decode cL_law 1107 = .ok (.iadd, 1) := by decide +kernel
theorem dL_law_1108 : decode cL_law 1108 = .ok (.iaload, 1) := by decide +kernel
theorem dL_law_1109 : decode cL_law 1109 = .ok (.invokevirtual 132, 3) := by decide +kernel
theorem dL_law_1112 : decode cL_law 1112 = .ok (.istore 6, 2) := by decide +kernel
theorem dL_law_1114 : decode cL_law 1114 = .ok (.aload_n 2, 1) := by decide +kernel
theorem dL_law_1115 : decode cL_law 1115 = .ok (.invokevirtual 91, 3) := by decide +kernel
theorem dL_law_1118 : decode cL_law 1118 = .ok (.iload 5, 2) := by decide +kernel
theorem dL_law_1120 : decode cL_law 1120 = .ok (.if_icmp .eq 5, 3) := by decide +kernel
theorem dL_law_1123 : decode cL_law 1123 = .ok (.iconst 0, 1) := by decide +kernel
theorem dL_law_1124 : decode cL_law 1124 = .ok (.ireturn, 1) := by decide +kernel
theorem dL_law_1125 : decode cL_law 1125 = .ok (.iload 5, 2) := by decide +kernel
theorem dL_law_1127 : decode cL_law 1127 = .ok (.ifCond .ne 15, 3) := by decide +kernel
theorem dL_law_1130 : decode cL_law 1130 = .ok (.aload_n 3, 1) := by decide +kernel
theorem dL_law_1131 : decode cL_law 1131 = .ok (.iconst 0, 1) := by decide +kernel
theorem dL_law_1132 : decode cL_law 1132 = .ok (.laload, 1) := by decide +kernel
theorem dL_law_1133 : decode cL_law 1133 = .ok (.iload 6, 2) := by decide +kernel
theorem dL_law_1135 : decode cL_law 1135 = .ok (.i2l, 1) := by decide +kernel
theorem dL_law_1136 : decode cL_law 1136 = .ok (.lcmp, 1) := by decide +kernel
theorem dL_law_1137 : decode cL_law 1137 = .ok (.ifCond .eq 5, 3) := by decide +kernel
theorem dL_law_1140 : decode cL_law 1140 = .ok (.iconst 0, 1) := by decide +kernel
theorem dL_law_1141 : decode cL_law 1141 = .ok (.ireturn, 1) := by decide +kernel
theorem dL_law_1142 : decode cL_law 1142 = .ok (.goto 499, 3) := by decide +kernel
theorem dL_law_1145 : decode cL_law 1145 = .ok (.aload_n 1, 1) := by decide +kernel
theorem dL_law_1146 : decode cL_law 1146 = .ok (.aload_n 3, 1) := by decide +kernel
theorem dL_law_1147 : decode cL_law 1147 = .ok (.invokestatic 133, 3) := by decide +kernel
theorem dL_law_1150 : decode cL_law 1150 = .ok (.istore 5, 2) := by decide +kernel
theorem dL_law_1152 : decode cL_law 1152 = .ok (.aload_n 2, 1) := by decide +kernel
theorem dL_law_1153 : decode cL_law 1153 = .ok (.invokevirtual 136, 3) := by decide +kernel
theorem dL_law_1156 : decode cL_law 1156 = .ok (.istore 6, 2) := by decide +kernel
theorem dL_law_1158 : decode cL_law 1158 = .ok (.aload_n 2, 1) := by decide +kernel
theorem dL_law_1159 : decode cL_law 1159 = .ok (.invokevirtual 91, 3) := by decide +kernel
theorem dL_law_1162 : decode cL_law 1162 = .ok (.iload 5, 2) := by decide +kernel
theorem dL_law_1164 : decode cL_law 1164 = .ok (.if_icmp .eq 5, 3) := by decide +kernel
theorem dL_law_1167 : decode cL_law 1167 = .ok (.iconst 0, 1) := by decide +kernel
theorem dL_law_1168 : decode cL_law 1168 = .ok (.ireturn, 1) := by decide +kernel
theorem dL_law_1169 : decode cL_law 1169 = .ok (.iload 5, 2) := by decide +kernel
theorem dL_law_1171 : decode cL_law 1171 = .ok (.ifCond .ne 15, 3) := by decide +kernel
theorem dL_law_1174 : decode cL_law 1174 = .ok (.aload_n 3, 1) := by decide +kernel
theorem dL_law_1175 : decode cL_law 1175 = .ok (.iconst 0, 1) := by decide +kernel
theorem dL_law_1176 : decode cL_law 1176 = .ok (.laload, 1) := by decide +kernel
theorem dL_law_1177 : decode cL_law 1177 = .ok (.iload 6, 2) := by decide +kernel
theorem dL_law_1179 : decode cL_law 1179 = .ok (.i2l, 1) := by decide +kernel
theorem dL_law_1180 : decode cL_law 1180 = .ok (.lcmp, 1) := by decide +kernel
theorem dL_law_1181 : decode cL_law 1181 = .ok (.ifCond .eq 5, 3) := by decide +kernel
theorem dL_law_1184 : decode cL_law 1184 = .ok (.iconst 0, 1) := by decide +kernel
theorem dL_law_1185 : decode cL_law 1185 = .ok (.ireturn, 1) := by decide +kernel
theorem dL_law_1186 : decode cL_law 1186 = .ok (.goto 455, 3) := by decide +kernel
theorem dL_law_1189 : decode cL_law 1189 = .ok (.aload_n 1, 1) := by decide +kernel
theorem dL_law_1190 : decode cL_law 1190 = .ok (.invokevirtual 137, 3) := by decide +kernel
theorem dL_law_1193 : decode cL_law 1193 = .ok (.aload_n 2, 1) := by decide +kernel
theorem dL_law_1194 : decode cL_law 1194 = .ok (.invokevirtual 140, 3) := by decide +kernel
theorem dL_law_1197 : decode cL_law 1197 = .ok (.if_icmp .eq 444, 3) := by decide +kernel
theorem dL_law_1200 : decode cL_law 1200 = .ok (.iconst 0, 1) := by decide +kernel
theorem dL_law_1201 : decode cL_law 1201 = .ok (.ireturn, 1) := by decide +kernel
theorem dL_law_1202 : decode cL_law 1202 = .ok (.aload_n 1, 1) := by decide +kernel
theorem dL_law_1203 : decode cL_law 1203 = .ok (.aload_n 0, 1) := by decide +kernel
theorem dL_law_1204 : decode cL_law 1204 = .ok (.iload 4, 2) := by decide +kernel
theorem dL_law_1206 : decode cL_law 1206 = .ok (.iconst 1, 1) := by decide +kernel
theorem dL_law_1207 : decode cL_law 1207 = .ok (.iadd, 1) := by decide +kernel
theorem dL_law_1208 : decode cL_law 1208 = .ok (.iaload, 1) := by decide +kernel
theorem dL_law_1209 : decode cL_law 1209 = .ok (.aload_n 3, 1) := by decide +kernel
theorem dL_law_1210 : decode cL_law 1210 = .ok (.invokestatic 141, 3) := by decide +kernel
theorem dL_law_1213 : decode cL_law 1213 = .ok (.istore 5, 2) := by decide +kernel
theorem dL_law_1215 : decode cL_law 1215 = .ok (.aload_n 2, 1) := by decide +kernel
theorem dL_law_1216 : decode cL_law 1216 = .ok (.aload_n 0, 1) := by decide +kernel
theorem dL_law_1217 : decode cL_law 1217 = .ok (.iload 4, 2) := by decide +kernel
theorem dL_law_1219 : decode cL_law 1219 = .ok (.iconst 1, 1) := by decide +kernel
theorem dL_law_1220 : decode cL_law 1220 = .ok (.iadd, 1) := by decide +kernel
theorem dL_law_1221 : decode cL_law 1221 = .ok (.iaload, 1) := by decide +kernel
theorem dL_law_1222 : decode cL_law 1222 = .ok (.invokevirtual 143, 3) := by decide +kernel
theorem dL_law_1225 : decode cL_law 1225 = .ok (.istore 6, 2) := by decide +kernel
theorem dL_law_1227 : decode cL_law 1227 = .ok (.aload_n 2, 1) := by decide +kernel
theorem dL_law_1228 : decode cL_law 1228 = .ok (.invokevirtual 91, 3) := by decide +kernel
theorem dL_law_1231 : decode cL_law 1231 = .ok (.iload 5, 2) := by decide +kernel
theorem dL_law_1233 : decode cL_law 1233 = .ok (.if_icmp .eq 5, 3) := by decide +kernel
theorem dL_law_1236 : decode cL_law 1236 = .ok (.iconst 0, 1) := by decide +kernel
theorem dL_law_1237 : decode cL_law 1237 = .ok (.ireturn, 1) := by decide +kernel
theorem dL_law_1238 : decode cL_law 1238 = .ok (.iload 5, 2) := by decide +kernel
theorem dL_law_1240 : decode cL_law 1240 = .ok (.ifCond .ne 15, 3) := by decide +kernel
theorem dL_law_1243 : decode cL_law 1243 = .ok (.aload_n 3, 1) := by decide +kernel
theorem dL_law_1244 : decode cL_law 1244 = .ok (.iconst 0, 1) := by decide +kernel
theorem dL_law_1245 : decode cL_law 1245 = .ok (.laload, 1) := by decide +kernel
theorem dL_law_1246 : decode cL_law 1246 = .ok (.iload 6, 2) := by decide +kernel
theorem dL_law_1248 : decode cL_law 1248 = .ok (.i2l, 1) := by decide +kernel
theorem dL_law_1249 : decode cL_law 1249 = .ok (.lcmp, 1) := by decide +kernel
theorem dL_law_1250 : decode cL_law 1250 = .ok (.ifCond .eq 5, 3) := by decide +kernel
theorem dL_law_1253 : decode cL_law 1253 = .ok (.iconst 0, 1) := by decide +kernel
theorem dL_law_1254 : decode cL_law 1254 = .ok (.ireturn, 1) := by decide +kernel
theorem dL_law_1255 : decode cL_law 1255 = .ok (.goto 386, 3) := by decide +kernel
theorem dL_law_1258 : decode cL_law 1258 = .ok (.aload_n 1, 1) := by decide +kernel
theorem dL_law_1259 : decode cL_law 1259 = .ok (.aload_n 0, 1) := by decide +kernel
theorem dL_law_1260 : decode cL_law 1260 = .ok (.iload 4, 2) := by decide +kernel
theorem dL_law_1262 : decode cL_law 1262 = .ok (.iconst 1, 1) := by decide +kernel
theorem dL_law_1263 : decode cL_law 1263 = .ok (.iadd, 1) := by decide +kernel
theorem dL_law_1264 : decode cL_law 1264 = .ok (.iaload, 1) := by decide +kernel
theorem dL_law_1265 : decode cL_law 1265 = .ok (.aload_n 3, 1) := by decide +kernel
theorem dL_law_1266 : decode cL_law 1266 = .ok (.invokestatic 144, 3) := by decide +kernel
theorem dL_law_1269 : decode cL_law 1269 = .ok (.istore 5, 2) := by decide +kernel
theorem dL_law_1271 : decode cL_law 1271 = .ok (.aload_n 2, 1) := by decide +kernel
theorem dL_law_1272 : decode cL_law 1272 = .ok (.aload_n 0, 1) := by decide +kernel
theorem dL_law_1273 : decode cL_law 1273 = .ok (.iload 4, 2) := by decide +kernel
theorem dL_law_1275 : decode cL_law 1275 = .ok (.iconst 1, 1) := by decide +kernel
theorem dL_law_1276 : decode cL_law 1276 = .ok (.iadd, 1) := by decide +kernel
theorem dL_law_1277 : decode cL_law 1277 = .ok (.iaload, 1) := by decide +kernel
theorem dL_law_1278 : decode cL_law 1278 = .ok (.invokevirtual 146, 3) := by decide +kernel
theorem dL_law_1281 : decode cL_law 1281 = .ok (.istore 6, 2) := by decide +kernel
theorem dL_law_1283 : decode cL_law 1283 = .ok (.aload_n 2, 1) := by decide +kernel
theorem dL_law_1284 : decode cL_law 1284 = .ok (.invokevirtual 91, 3) := by decide +kernel
theorem dL_law_1287 : decode cL_law 1287 = .ok (.iload 5, 2) := by decide +kernel
theorem dL_law_1289 : decode cL_law 1289 = .ok (.if_icmp .eq 5, 3) := by decide +kernel
theorem dL_law_1292 : decode cL_law 1292 = .ok (.iconst 0, 1) := by decide +kernel
theorem dL_law_1293 : decode cL_law 1293 = .ok (.ireturn, 1) := by decide +kernel
theorem dL_law_1294 : decode cL_law 1294 = .ok (.iload 5, 2) := by decide +kernel
theorem dL_law_1296 : decode cL_law 1296 = .ok (.ifCond .ne 15, 3) := by decide +kernel
theorem dL_law_1299 : decode cL_law 1299 = .ok (.aload_n 3, 1) := by decide +kernel
theorem dL_law_1300 : decode cL_law 1300 = .ok (.iconst 0, 1) := by decide +kernel
theorem dL_law_1301 : decode cL_law 1301 = .ok (.laload, 1) := by decide +kernel
theorem dL_law_1302 : decode cL_law 1302 = .ok (.iload 6, 2) := by decide +kernel
theorem dL_law_1304 : decode cL_law 1304 = .ok (.i2l, 1) := by decide +kernel
theorem dL_law_1305 : decode cL_law 1305 = .ok (.lcmp, 1) := by decide +kernel
theorem dL_law_1306 : decode cL_law 1306 = .ok (.ifCond .eq 5, 3) := by decide +kernel
theorem dL_law_1309 : decode cL_law 1309 = .ok (.iconst 0, 1) := by decide +kernel
theorem dL_law_1310 : decode cL_law 1310 = .ok (.ireturn, 1) := by decide +kernel
theorem dL_law_1311 : decode cL_law 1311 = .ok (.goto 330, 3) := by decide +kernel
theorem dL_law_1314 : decode cL_law 1314 = .ok (.aload_n 1, 1) := by decide +kernel
theorem dL_law_1315 : decode cL_law 1315 = .ok (.aload_n 0, 1) := by decide +kernel
theorem dL_law_1316 : decode cL_law 1316 = .ok (.iload 4, 2) := by decide +kernel
theorem dL_law_1318 : decode cL_law 1318 = .ok (.iconst 1, 1) := by decide +kernel
theorem dL_law_1319 : decode cL_law 1319 = .ok (.iadd, 1) := by decide +kernel
theorem dL_law_1320 : decode cL_law 1320 = .ok (.iaload, 1) := by decide +kernel
theorem dL_law_1321 : decode cL_law 1321 = .ok (.aload_n 0, 1) := by decide +kernel
theorem dL_law_1322 : decode cL_law 1322 = .ok (.iload 4, 2) := by decide +kernel
theorem dL_law_1324 : decode cL_law 1324 = .ok (.iconst 2, 1) := by decide +kernel
theorem dL_law_1325 : decode cL_law 1325 = .ok (.iadd, 1) := by decide +kernel
theorem dL_law_1326 : decode cL_law 1326 = .ok (.iaload, 1) := by decide +kernel
theorem dL_law_1327 : decode cL_law 1327 = .ok (.aload_n 0, 1) := by decide +kernel
theorem dL_law_1328 : decode cL_law 1328 = .ok (.iload 4, 2) := by decide +kernel
theorem dL_law_1330 : decode cL_law 1330 = .ok (.iconst 3, 1) := by decide +kernel
theorem dL_law_1331 : decode cL_law 1331 = .ok (.iadd, 1) := by decide +kernel
theorem dL_law_1332 : decode cL_law 1332 = .ok (.iaload, 1) := by decide +kernel
theorem dL_law_1333 : decode cL_law 1333 = .ok (.aload_n 3, 1) := by decide +kernel
theorem dL_law_1334 : decode cL_law 1334 = .ok (.invokestatic 147, 3) := by decide +kernel
theorem dL_law_1337 : decode cL_law 1337 = .ok (.istore 5, 2) := by decide +kernel
theorem dL_law_1339 : decode cL_law 1339 = .ok (.aload_n 2, 1) := by decide +kernel
theorem dL_law_1340 : decode cL_law 1340 = .ok (.aload_n 0, 1) := by decide +kernel
theorem dL_law_1341 : decode cL_law 1341 = .ok (.iload 4, 2) := by decide +kernel
theorem dL_law_1343 : decode cL_law 1343 = .ok (.iconst 1, 1) := by decide +kernel
theorem dL_law_1344 : decode cL_law 1344 = .ok (.iadd, 1) := by decide +kernel
theorem dL_law_1345 : decode cL_law 1345 = .ok (.iaload, 1) := by decide +kernel
theorem dL_law_1346 : decode cL_law 1346 = .ok (.aload_n 0, 1) := by decide +kernel
theorem dL_law_1347 : decode cL_law 1347 = .ok (.iload 4, 2) := by decide +kernel
theorem dL_law_1349 : decode cL_law 1349 = .ok (.iconst 2, 1) := by decide +kernel
theorem dL_law_1350 : decode cL_law 1350 = .ok (.iadd, 1) := by decide +kernel
theorem dL_law_1351 : decode cL_law 1351 = .ok (.iaload, 1) := by decide +kernel
theorem dL_law_1352 : decode cL_law 1352 = .ok (.aload_n 0, 1) := by decide +kernel
theorem dL_law_1353 : decode cL_law 1353 = .ok (.iload 4, 2) := by decide +kernel
theorem dL_law_1355 : decode cL_law 1355 = .ok (.iconst 3, 1) := by decide +kernel
theorem dL_law_1356 : decode cL_law 1356 = .ok (.iadd, 1) := by decide +kernel
theorem dL_law_1357 : decode cL_law 1357 = .ok (.iaload, 1) := by decide +kernel
theorem dL_law_1358 : decode cL_law 1358 = .ok (.invokevirtual 149, 3) := by decide +kernel
theorem dL_law_1361 : decode cL_law 1361 = .ok (.istore 6, 2) := by decide +kernel
theorem dL_law_1363 : decode cL_law 1363 = .ok (.aload_n 2, 1) := by decide +kernel
theorem dL_law_1364 : decode cL_law 1364 = .ok (.invokevirtual 91, 3) := by decide +kernel
theorem dL_law_1367 : decode cL_law 1367 = .ok (.iload 5, 2) := by decide +kernel
theorem dL_law_1369 : decode cL_law 1369 = .ok (.if_icmp .eq 5, 3) := by decide +kernel
theorem dL_law_1372 : decode cL_law 1372 = .ok (.iconst 0, 1) := by decide +kernel
theorem dL_law_1373 : decode cL_law 1373 = .ok (.ireturn, 1) := by decide +kernel
theorem dL_law_1374 : decode cL_law 1374 = .ok (.iload 5, 2) := by decide +kernel
theorem dL_law_1376 : decode cL_law 1376 = .ok (.ifCond .ne 15, 3) := by decide +kernel
theorem dL_law_1379 : decode cL_law 1379 = .ok (.aload_n 3, 1) := by decide +kernel
theorem dL_law_1380 : decode cL_law 1380 = .ok (.iconst 0, 1) := by decide +kernel
theorem dL_law_1381 : decode cL_law 1381 = .ok (.laload, 1) := by decide +kernel
theorem dL_law_1382 : decode cL_law 1382 = .ok (.iload 6, 2) := by decide +kernel
theorem dL_law_1384 : decode cL_law 1384 = .ok (.i2l, 1) := by decide +kernel
theorem dL_law_1385 : decode cL_law 1385 = .ok (.lcmp, 1) := by decide +kernel
theorem dL_law_1386 : decode cL_law 1386 = .ok (.ifCond .eq 5, 3) := by decide +kernel
theorem dL_law_1389 : decode cL_law 1389 = .ok (.iconst 0, 1) := by decide +kernel
theorem dL_law_1390 : decode cL_law 1390 = .ok (.ireturn, 1) := by decide +kernel
theorem dL_law_1391 : decode cL_law 1391 = .ok (.goto 250, 3) := by decide +kernel
theorem dL_law_1394 : decode cL_law 1394 = .ok (.aload_n 1, 1) := by decide +kernel
theorem dL_law_1395 : decode cL_law 1395 = .ok (.aload_n 0, 1) := by decide +kernel
theorem dL_law_1396 : decode cL_law 1396 = .ok (.iload 4, 2) := by decide +kernel
theorem dL_law_1398 : decode cL_law 1398 = .ok (.iconst 1, 1) := by decide +kernel
theorem dL_law_1399 : decode cL_law 1399 = .ok (.iadd, 1) := by decide +kernel
theorem dL_law_1400 : decode cL_law 1400 = .ok (.iaload, 1) := by decide +kernel
theorem dL_law_1401 : decode cL_law 1401 = .ok (.aload_n 3, 1) := by decide +kernel
theorem dL_law_1402 : decode cL_law 1402 = .ok (.invokestatic 150, 3) := by decide +kernel
theorem dL_law_1405 : decode cL_law 1405 = .ok (.istore 5, 2) := by decide +kernel
theorem dL_law_1407 : decode cL_law 1407 = .ok (.aload_n 2, 1) := by decide +kernel
theorem dL_law_1408 : decode cL_law 1408 = .ok (.aload_n 0, 1) := by decide +kernel
theorem dL_law_1409 : decode cL_law 1409 = .ok (.iload 4, 2) := by decide +kernel
theorem dL_law_1411 : decode cL_law 1411 = .ok (.iconst 1, 1) := by decide +kernel
theorem dL_law_1412 : decode cL_law 1412 = .ok (.iadd, 1) := by decide +kernel
theorem dL_law_1413 : decode cL_law 1413 = .ok (.iaload, 1) := by decide +kernel
theorem dL_law_1414 : decode cL_law 1414 = .ok (.invokevirtual 152, 3) := by decide +kernel
theorem dL_law_1417 : decode cL_law 1417 = .ok (.istore 6, 2) := by decide +kernel
theorem dL_law_1419 : decode cL_law 1419 = .ok (.aload_n 2, 1) := by decide +kernel
theorem dL_law_1420 : decode cL_law 1420 = .ok (.invokevirtual 91, 3) := by decide +kernel
theorem dL_law_1423 : decode cL_law 1423 = .ok (.iload 5, 2) := by decide +kernel
theorem dL_law_1425 : decode cL_law 1425 = .ok (.if_icmp .eq 5, 3) := by decide +kernel
theorem dL_law_1428 : decode cL_law 1428 = .ok (.iconst 0, 1) := by decide +kernel
theorem dL_law_1429 : decode cL_law 1429 = .ok (.ireturn, 1) := by decide +kernel
theorem dL_law_1430 : decode cL_law 1430 = .ok (.iload 5, 2) := by decide +kernel
theorem dL_law_1432 : decode cL_law 1432 = .ok (.ifCond .ne 15, 3) := by decide +kernel
theorem dL_law_1435 : decode cL_law 1435 = .ok (.aload_n 3, 1) := by decide +kernel
theorem dL_law_1436 : decode cL_law 1436 = .ok (.iconst 0, 1) := by decide +kernel
theorem dL_law_1437 : decode cL_law 1437 = .ok (.laload, 1) := by decide +kernel
theorem dL_law_1438 : decode cL_law 1438 = .ok (.iload 6, 2) := by decide +kernel
theorem dL_law_1440 : decode cL_law 1440 = .ok (.i2l, 1) := by decide +kernel
theorem dL_law_1441 : decode cL_law 1441 = .ok (.lcmp, 1) := by decide +kernel
theorem dL_law_1442 : decode cL_law 1442 = .ok (.ifCond .eq 5, 3) := by decide +kernel
theorem dL_law_1445 : decode cL_law 1445 = .ok (.iconst 0, 1) := by decide +kernel
theorem dL_law_1446 : decode cL_law 1446 = .ok (.ireturn, 1) := by decide +kernel
theorem dL_law_1447 : decode cL_law 1447 = .ok (.goto 194, 3) := by decide +kernel
theorem dL_law_1450 : decode cL_law 1450 = .ok (.aload_n 1, 1) := by decide +kernel
theorem dL_law_1451 : decode cL_law 1451 = .ok (.aload_n 0, 1) := by decide +kernel
theorem dL_law_1452 : decode cL_law 1452 = .ok (.iload 4, 2) := by decide +kernel
theorem dL_law_1454 : decode cL_law 1454 = .ok (.iconst 1, 1) := by decide +kernel
theorem dL_law_1455 : decode cL_law 1455 = .ok (.iadd, 1) := by decide +kernel
theorem dL_law_1456 : decode cL_law 1456 = .ok (.iaload, 1) := by decide +kernel
theorem dL_law_1457 : decode cL_law 1457 = .ok (.aload_n 3, 1) := by decide +kernel
theorem dL_law_1458 : decode cL_law 1458 = .ok (.invokestatic 153, 3) := by decide +kernel
theorem dL_law_1461 : decode cL_law 1461 = .ok (.istore 5, 2) := by decide +kernel
theorem dL_law_1463 : decode cL_law 1463 = .ok (.aload_n 2, 1) := by decide +kernel
theorem dL_law_1464 : decode cL_law 1464 = .ok (.aload_n 0, 1) := by decide +kernel
theorem dL_law_1465 : decode cL_law 1465 = .ok (.iload 4, 2) := by decide +kernel
theorem dL_law_1467 : decode cL_law 1467 = .ok (.iconst 1, 1) := by decide +kernel
theorem dL_law_1468 : decode cL_law 1468 = .ok (.iadd, 1) := by decide +kernel
theorem dL_law_1469 : decode cL_law 1469 = .ok (.iaload, 1) := by decide +kernel
theorem dL_law_1470 : decode cL_law 1470 = .ok (.invokevirtual 155, 3) := by decide +kernel
theorem dL_law_1473 : decode cL_law 1473 = .ok (.istore 6, 2) := by decide +kernel
theorem dL_law_1475 : decode cL_law 1475 = .ok (.aload_n 2, 1) := by decide +kernel
theorem dL_law_1476 : decode cL_law 1476 = .ok (.invokevirtual 91, 3) := by decide +kernel
theorem dL_law_1479 : decode cL_law 1479 = .ok (.iload 5, 2) := by decide +kernel
theorem dL_law_1481 : decode cL_law 1481 = .ok (.if_icmp .eq 5, 3) := by decide +kernel
theorem dL_law_1484 : decode cL_law 1484 = .ok (.iconst 0, 1) := by decide +kernel
theorem dL_law_1485 : decode cL_law 1485 = .ok (.ireturn, 1) := by decide +kernel
theorem dL_law_1486 : decode cL_law 1486 = .ok (.iload 5, 2) := by decide +kernel
theorem dL_law_1488 : decode cL_law 1488 = .ok (.ifCond .ne 15, 3) := by decide +kernel
theorem dL_law_1491 : decode cL_law 1491 = .ok (.aload_n 3, 1) := by decide +kernel
theorem dL_law_1492 : decode cL_law 1492 = .ok (.iconst 0, 1) := by decide +kernel
theorem dL_law_1493 : decode cL_law 1493 = .ok (.laload, 1) := by decide +kernel
theorem dL_law_1494 : decode cL_law 1494 = .ok (.iload 6, 2) := by decide +kernel
theorem dL_law_1496 : decode cL_law 1496 = .ok (.i2l, 1) := by decide +kernel
theorem dL_law_1497 : decode cL_law 1497 = .ok (.lcmp, 1) := by decide +kernel
theorem dL_law_1498 : decode cL_law 1498 = .ok (.ifCond .eq 5, 3) := by decide +kernel
theorem dL_law_1501 : decode cL_law 1501 = .ok (.iconst 0, 1) := by decide +kernel
theorem dL_law_1502 : decode cL_law 1502 = .ok (.ireturn, 1) := by decide +kernel
theorem dL_law_1503 : decode cL_law 1503 = .ok (.goto 138, 3) := by decide +kernel
theorem dL_law_1506 : decode cL_law 1506 = .ok (.aload_n 1, 1) := by decide +kernel
theorem dL_law_1507 : decode cL_law 1507 = .ok (.aload_n 0, 1) := by decide +kernel
theorem dL_law_1508 : decode cL_law 1508 = .ok (.iload 4, 2) := by decide +kernel
theorem dL_law_1510 : decode cL_law 1510 = .ok (.iconst 1, 1) := by decide +kernel
theorem dL_law_1511 : decode cL_law 1511 = .ok (.iadd, 1) := by decide +kernel
theorem dL_law_1512 : decode cL_law 1512 = .ok (.iaload, 1) := by decide +kernel
theorem dL_law_1513 : decode cL_law 1513 = .ok (.aload_n 0, 1) := by decide +kernel
theorem dL_law_1514 : decode cL_law 1514 = .ok (.iload 4, 2) := by decide +kernel
theorem dL_law_1516 : decode cL_law 1516 = .ok (.iconst 2, 1) := by decide +kernel
theorem dL_law_1517 : decode cL_law 1517 = .ok (.iadd, 1) := by decide +kernel
theorem dL_law_1518 : decode cL_law 1518 = .ok (.iaload, 1) := by decide +kernel
theorem dL_law_1519 : decode cL_law 1519 = .ok (.aload_n 0, 1) := by decide +kernel
theorem dL_law_1520 : decode cL_law 1520 = .ok (.iload 4, 2) := by decide +kernel
theorem dL_law_1522 : decode cL_law 1522 = .ok (.iconst 3, 1) := by decide +kernel
theorem dL_law_1523 : decode cL_law 1523 = .ok (.iadd, 1) := by decide +kernel
theorem dL_law_1524 : decode cL_law 1524 = .ok (.iaload, 1) := by decide +kernel
theorem dL_law_1525 : decode cL_law 1525 = .ok (.aload_n 3, 1) := by decide +kernel
theorem dL_law_1526 : decode cL_law 1526 = .ok (.invokestatic 156, 3) := by decide +kernel
theorem dL_law_1529 : decode cL_law 1529 = .ok (.istore 5, 2) := by decide +kernel
theorem dL_law_1531 : decode cL_law 1531 = .ok (.aload_n 2, 1) := by decide +kernel
theorem dL_law_1532 : decode cL_law 1532 = .ok (.aload_n 0, 1) := by decide +kernel
theorem dL_law_1533 : decode cL_law 1533 = .ok (.iload 4, 2) := by decide +kernel
theorem dL_law_1535 : decode cL_law 1535 = .ok (.iconst 1, 1) := by decide +kernel
theorem dL_law_1536 : decode cL_law 1536 = .ok (.iadd, 1) := by decide +kernel
theorem dL_law_1537 : decode cL_law 1537 = .ok (.iaload, 1) := by decide +kernel
theorem dL_law_1538 : decode cL_law 1538 = .ok (.aload_n 0, 1) := by decide +kernel
theorem dL_law_1539 : decode cL_law 1539 = .ok (.iload 4, 2) := by decide +kernel
theorem dL_law_1541 : decode cL_law 1541 = .ok (.iconst 2, 1) := by decide +kernel
theorem dL_law_1542 : decode cL_law 1542 = .ok (.iadd, 1) := by decide +kernel
theorem dL_law_1543 : decode cL_law 1543 = .ok (.iaload, 1) := by decide +kernel
theorem dL_law_1544 : decode cL_law 1544 = .ok (.aload_n 0, 1) := by decide +kernel
theorem dL_law_1545 : decode cL_law 1545 = .ok (.iload 4, 2) := by decide +kernel
theorem dL_law_1547 : decode cL_law 1547 = .ok (.iconst 3, 1) := by decide +kernel
theorem dL_law_1548 : decode cL_law 1548 = .ok (.iadd, 1) := by decide +kernel
theorem dL_law_1549 : decode cL_law 1549 = .ok (.iaload, 1) := by decide +kernel
theorem dL_law_1550 : decode cL_law 1550 = .ok (.invokevirtual 158, 3) := by decide +kernel
theorem dL_law_1553 : decode cL_law 1553 = .ok (.istore 6, 2) := by decide +kernel
theorem dL_law_1555 : decode cL_law 1555 = .ok (.aload_n 2, 1) := by decide +kernel
theorem dL_law_1556 : decode cL_law 1556 = .ok (.invokevirtual 91, 3) := by decide +kernel
theorem dL_law_1559 : decode cL_law 1559 = .ok (.iload 5, 2) := by decide +kernel
theorem dL_law_1561 : decode cL_law 1561 = .ok (.if_icmp .eq 5, 3) := by decide +kernel
theorem dL_law_1564 : decode cL_law 1564 = .ok (.iconst 0, 1) := by decide +kernel
theorem dL_law_1565 : decode cL_law 1565 = .ok (.ireturn, 1) := by decide +kernel
theorem dL_law_1566 : decode cL_law 1566 = .ok (.iload 5, 2) := by decide +kernel
theorem dL_law_1568 : decode cL_law 1568 = .ok (.ifCond .ne 15, 3) := by decide +kernel
theorem dL_law_1571 : decode cL_law 1571 = .ok (.aload_n 3, 1) := by decide +kernel
theorem dL_law_1572 : decode cL_law 1572 = .ok (.iconst 0, 1) := by decide +kernel
theorem dL_law_1573 : decode cL_law 1573 = .ok (.laload, 1) := by decide +kernel
theorem dL_law_1574 : decode cL_law 1574 = .ok (.iload 6, 2) := by decide +kernel
theorem dL_law_1576 : decode cL_law 1576 = .ok (.i2l, 1) := by decide +kernel
theorem dL_law_1577 : decode cL_law 1577 = .ok (.lcmp, 1) := by decide +kernel
theorem dL_law_1578 : decode cL_law 1578 = .ok (.ifCond .eq 5, 3) := by decide +kernel
theorem dL_law_1581 : decode cL_law 1581 = .ok (.iconst 0, 1) := by decide +kernel
theorem dL_law_1582 : decode cL_law 1582 = .ok (.ireturn, 1) := by decide +kernel
theorem dL_law_1583 : decode cL_law 1583 = .ok (.goto 58, 3) := by decide +kernel
theorem dL_law_1586 : decode cL_law 1586 = .ok (.aload_n 1, 1) := by decide +kernel
theorem dL_law_1587 : decode cL_law 1587 = .ok (.invokevirtual 159, 3) := by decide +kernel
theorem dL_law_1590 : decode cL_law 1590 = .ok (.dstore 5, 2) := by decide +kernel
theorem dL_law_1592 : decode cL_law 1592 = .ok (.aload_n 2, 1) := by decide +kernel
theorem dL_law_1593 : decode cL_law 1593 = .ok (.invokevirtual 163, 3) := by decide +kernel
theorem dL_law_1596 : decode cL_law 1596 = .ok (.dstore 7, 2) := by decide +kernel
theorem dL_law_1598 : decode cL_law 1598 = .ok (.dload 5, 2) := by decide +kernel
theorem dL_law_1600 : decode cL_law 1600 = .ok (.dload 7, 2) := by decide +kernel
theorem dL_law_1602 : decode cL_law 1602 = .ok (.dcmp .l, 1) := by decide +kernel
theorem dL_law_1603 : decode cL_law 1603 = .ok (.ifCond .eq 21, 3) := by decide +kernel
theorem dL_law_1606 : decode cL_law 1606 = .ok (.dload 5, 2) := by decide +kernel
theorem dL_law_1608 : decode cL_law 1608 = .ok (.dload 5, 2) := by decide +kernel
theorem dL_law_1610 : decode cL_law 1610 = .ok (.dcmp .l, 1) := by decide +kernel
theorem dL_law_1611 : decode cL_law 1611 = .ok (.ifCond .eq 11, 3) := by decide +kernel
theorem dL_law_1614 : decode cL_law 1614 = .ok (.dload 7, 2) := by decide +kernel
theorem dL_law_1616 : decode cL_law 1616 = .ok (.dload 7, 2) := by decide +kernel
theorem dL_law_1618 : decode cL_law 1618 = .ok (.dcmp .l, 1) := by decide +kernel
theorem dL_law_1619 : decode cL_law 1619 = .ok (.ifCond .ne 5, 3) := by decide +kernel
theorem dL_law_1622 : decode cL_law 1622 = .ok (.iconst 0, 1) := by decide +kernel
theorem dL_law_1623 : decode cL_law 1623 = .ok (.ireturn, 1) := by decide +kernel
theorem dL_law_1624 : decode cL_law 1624 = .ok (.goto 17, 3) := by decide +kernel
theorem dL_law_1627 : decode cL_law 1627 = .ok (.aload_n 1, 1) := by decide +kernel
theorem dL_law_1628 : decode cL_law 1628 = .ok (.invokevirtual 164, 3) := by decide +kernel
theorem dL_law_1631 : decode cL_law 1631 = .ok (.aload_n 2, 1) := by decide +kernel
theorem dL_law_1632 : decode cL_law 1632 = .ok (.invokevirtual 168, 3) := by decide +kernel
theorem dL_law_1635 : decode cL_law 1635 = .ok (.lcmp, 1) := by decide +kernel
theorem dL_law_1636 : decode cL_law 1636 = .ok (.ifCond .eq 5, 3) := by decide +kernel
theorem dL_law_1639 : decode cL_law 1639 = .ok (.iconst 0, 1) := by decide +kernel
theorem dL_law_1640 : decode cL_law 1640 = .ok (.ireturn, 1) := by decide +kernel
theorem dL_law_1641 : decode cL_law 1641 = .ok (.iinc 4 7, 3) := by decide +kernel
theorem dL_law_1644 : decode cL_law 1644 = .ok (.goto (-1621), 3) := by decide +kernel
theorem dL_law_1647 : decode cL_law 1647 = .ok (.iconst 1, 1) := by decide +kernel
theorem dL_law_1648 : decode cL_law 1648 = .ok (.ireturn, 1) := by decide +kernel
end
section
/-! The abstract world: a map from addresses to cells; frozen addresses Fz are never written. -/
abbrev tmO : Type := Nat → Option va_E
/-- an int as the machine holds it -/
abbrev I (n : Int) : Int32 := Int32.ofInt n
def tm_rg (n : Int) : Prop := -2147483648 ≤ n ∧ n ≤ 2147483647
theorem I_toInt {n : Int} (h : -2147483648 ≤ n ∧ n ≤ 2147483647) : (I n).toInt = n := Int32.toInt_ofInt_of_le (by omega) (by omega)
theorem I_of (x : Int32) : x = I x.toInt := (Int32.ofInt_toInt x).symm
theorem I_rg (x : Int32) : -2147483648 ≤ x.toInt ∧ x.toInt ≤ 2147483647 := ⟨by have := x.le_toInt; omega, by have := x.toInt_lt; omega⟩
theorem I_lt {a b : Int} (h : (-2147483648 ≤ a ∧ a ≤ 2147483647) ∧ -2147483648 ≤ b ∧ b ≤ 2147483647) : I a < I b ↔ a < b := by rw [Int32.lt_iff_toInt_lt, I_toInt h.1, I_toInt h.2]
theorem I_le {a b : Int} (h : (-2147483648 ≤ a ∧ a ≤ 2147483647) ∧ -2147483648 ≤ b ∧ b ≤ 2147483647) : I a ≤ I b ↔ a ≤ b := by rw [Int32.le_iff_toInt_le, I_toInt h.1, I_toInt h.2]
theorem I_eq {a b : Int} (h : (-2147483648 ≤ a ∧ a ≤ 2147483647) ∧ -2147483648 ≤ b ∧ b ≤ 2147483647) : I a = I b ↔ a = b := by rw [← Int32.toInt_inj, I_toInt h.1, I_toInt h.2]
theorem I_nat {a : Int} (h : 0 ≤ a ∧ a ≤ 2147483647) : (I a).toNatClampNeg = a.toNat := Int32.toNatClampNeg_ofInt_of_le (by omega) (by omega)
theorem I_in {a : Int} {n : Nat} (h : 0 ≤ a ∧ a < n ∧ a ≤ 2147483647) : vp_in (I a) n := vp_in_iff.mpr (by rw [I_toInt (by omega)]; omega)
def tm_up (Ω : tmO) (a : Nat) (e : va_E) : tmO := fun b => if b = a then some e else Ω b
theorem tm_up_s {Ω : tmO} {a : Nat} {e : va_E} : tm_up Ω a e a = some e := if_pos rfl
theorem tm_up_n {Ω : tmO} {a b : Nat} {e : va_E} (h : b ≠ a) : tm_up Ω a e b = Ω b := if_neg h
def tm_wl (Ω : tmO) (L : List Nat) : va_W := L.map (fun a => (a, (Ω a).getD (.inr (0, []))))
theorem tm_wl_at {Ω : tmO} {L : List Nat} {k : Nat} {q : Nat × va_E} (h : (tm_wl Ω L)[k]? = some q) : L[k]? = some q.1 ∧ q.2 = (Ω q.1).getD (.inr (0, [])) := by
  unfold tm_wl at h
  rw [List.getElem?_map] at h
  cases hL : L[k]? with
  | none => rw [hL] at h; cases h
  | some a => rw [hL] at h; cases h; exact ⟨rfl, rfl⟩
theorem tm_wl_of {Ω : tmO} {L : List Nat} {k a : Nat} (h : L[k]? = some a) : (tm_wl Ω L)[k]? = some (a, (Ω a).getD (.inr (0, []))) := by
  unfold tm_wl; rw [List.getElem?_map, h]; rfl
/-- the heap holds the world, apart, at addresses that aren't frozen -/
def tm_hol (D : va_G) (Fz : Nat → Prop) (Ω : tmO) (H : Heap) : Prop := ∃ L : List Nat, (∀ a, a ∈ L ↔ Ω a ≠ none) ∧ va_P D classes (tm_wl Ω L) H ∧ va_D (fun q => ¬ Fz q) (tm_wl Ω L)
theorem tm_hol_get {Ω : tmO} {L : List Nat} {a : Nat} {e : va_E} (hL : ∀ a, a ∈ L ↔ Ω a ≠ none) (h : Ω a = some e) : ∃ k : Nat, (tm_wl Ω L)[k]? = some (a, e) := by
  have hm : a ∈ L := (hL a).mpr (by rw [h]; exact fun z => by cases z)
  obtain ⟨k, hk⟩ := List.getElem?_of_mem hm
  exact ⟨k, (tm_wl_of hk).trans (by rw [h]; rfl)⟩
theorem tm_hol_at {D : va_G} {Fz : Nat → Prop} {Ω : tmO} {H : Heap} {a : Nat} {e : va_E} (h : tm_hol D Fz Ω H) (ha : Ω a = some e) : va_at D classes (a, e) H ∧ ¬ Fz a ∧ a < H.size := by
  obtain ⟨L, hL, hP, hD⟩ := h
  obtain ⟨k, hk⟩ := tm_hol_get hL ha
  exact ⟨hP k _ hk, hD.2 k _ hk, (hP k _ hk).lt⟩
theorem tm_wl_set {A : Nat → Prop} {Ω : tmO} {L : List Nat} {a k : Nat} {e e' : va_E} (hD : va_D A (tm_wl Ω L)) (hk : (tm_wl Ω L)[k]? = some (a, e)) : (tm_wl Ω L).set k (a, e') = tm_wl (tm_up Ω a e') L := by
  refine List.ext_getElem? fun j => ?_
  have hLk := (tm_wl_at hk).1
  by_cases hj : j = k
  · subst hj
    rw [tm_wl_of (Ω := tm_up Ω a e') hLk, List.getElem?_set_self (List.getElem?_eq_some_iff.mp hk).1]
    show _ = some (a, (tm_up Ω a e' a).getD _)
    rw [tm_up_s]; rfl
  · rw [List.getElem?_set_ne (Ne.symm hj)]
    cases hq : L[j]? with
    | none => unfold tm_wl; rw [List.getElem?_map, List.getElem?_map, hq]; rfl
    | some b =>
      have hb : b ≠ a := by
        intro hb
        subst hb
        exact hj (hD.1 j k _ _ (tm_wl_of hq) hk rfl)
      rw [tm_wl_of hq, tm_wl_of hq, tm_up_n hb]
theorem tm_hol_set {D : va_G} {Fz : Nat → Prop} {Ω : tmO} {H1 : Heap} {L : List Nat} {a k : Nat} {e e' : va_E} (hL : ∀ a, a ∈ L ↔ Ω a ≠ none) (hD : va_D (fun q => ¬ Fz q) (tm_wl Ω L)) (hk : (tm_wl Ω L)[k]? = some (a, e)) (hP1 : va_P D classes ((tm_wl Ω L).set k (a, e')) H1) (hD1 : va_D (fun q => ¬ Fz q) ((tm_wl Ω L).set k (a, e'))) : tm_hol D Fz (tm_up Ω a e') H1 := by
  rw [tm_wl_set hD hk] at hP1 hD1
  refine ⟨L, fun b => ?_, hP1, hD1⟩
  by_cases hb : b = a
  · subst hb
    rw [tm_up_s]
    exact ⟨(fun _ z => by cases z), fun _ => List.mem_of_getElem? (tm_wl_at hk).1⟩
  · rw [tm_up_n hb]; exact hL b
theorem tm_wl_push {Ω : tmO} {L : List Nat} {a : Nat} {e : va_E} (h : a ∉ L) : tm_wl Ω L ++ [(a, e)] = tm_wl (tm_up Ω a e) (L ++ [a]) := by
  unfold tm_wl
  rw [List.map_append, List.map_singleton, tm_up_s]
  refine congrArg (· ++ _) (List.map_congr_left fun b hb => ?_)
  rw [tm_up_n (fun z => h (by rw [← z]; exact hb))]
theorem tm_hol_push {D : va_G} {Fz : Nat → Prop} {Ω : tmO} {H1 : Heap} {L : List Nat} {a : Nat} {e : va_E} (hL : ∀ a, a ∈ L ↔ Ω a ≠ none) (hP1 : va_P D classes (tm_wl Ω L ++ [(a, e)]) H1) (hD1 : va_D (fun q => ¬ Fz q) (tm_wl Ω L ++ [(a, e)])) : tm_hol D Fz (tm_up Ω a e) H1 ∧ Ω a = none := by
  have hn : a ∉ L := by
    intro hm
    obtain ⟨k, hk⟩ := List.getElem?_of_mem hm
    have hl : k < L.length := (List.getElem?_eq_some_iff.mp hk).1
    have hl2 : (tm_wl Ω L).length = L.length := by unfold tm_wl; rw [List.length_map]
    have h1 : (tm_wl Ω L ++ [(a, e)])[k]? = some (a, (Ω a).getD (.inr (0, []))) := by rw [List.getElem?_append_left (by omega)]; exact tm_wl_of hk
    have h2 : (tm_wl Ω L ++ [(a, e)])[L.length]? = some (a, e) := by rw [List.getElem?_append_right (by omega), hl2, Nat.sub_self]; rfl
    have := hD1.1 _ _ _ _ h1 h2 rfl
    omega
  rw [tm_wl_push hn] at hP1 hD1
  have hnone : Ω a = none := by
    cases h : Ω a with
    | none => rfl
    | some x => exact absurd ((hL a).mpr (by rw [h]; exact fun z => by cases z)) hn
  refine ⟨⟨L ++ [a], fun b => ?_, hP1, hD1⟩, hnone⟩
  rw [List.mem_append, List.mem_singleton, hL b]
  by_cases hb : b = a
  · subst hb; rw [tm_up_s]; exact ⟨(fun _ z => by cases z), fun _ => Or.inr rfl⟩
  · rw [tm_up_n hb]; exact ⟨fun h => h.elim id (fun z => absurd z hb), Or.inl⟩
/-- what a state's tables and statics give: the classes, nest links and casts, the empty array of lists, the statics that a throw reads, the texts -/
def tm_tys (T : ClassId × ClassId × ClassId × ClassId) : List (ClassId × FieldType) := [(T.1, .int), (T.2.1, .boolean), (T.2.2.1, .long), (T.2.2.2, .object "java/lang/Object")]
/-- of the tables alone -/
def tm_Et (D : va_G) (T : ClassId × ClassId × ClassId × ClassId) (mi : Nat) (U : State) : Prop :=
  va_K D classes (tm_tys T) U ∧ (∀ w ∈ NW, va_Nw w U) ∧ (∀ (own tx : String) (k : Nat), Cond.stringRef own k tx ∈ lw_tbl → ∃ sa, vk_R own k tx sa U) ∧ va_Mi "[Ljava/lang/Object;" mi U ∧ va_AO "java/lang/Object" U
/-- of the statics -/
def tm_Es (T : ClassId × ClassId × ClassId × ClassId) (e0 : Nat) (Fz : Nat → Prop) (U : State) (H : Heap) : Prop :=
  va_Z "java/util/ArrayList" "DEFAULTCAPACITY_EMPTY_ELEMENTDATA" "[Ljava/lang/Object;" (.ref e0) (fun q => ¬ Fz q) U H ∧ H[e0]? = some (arrV T.2.2.2 0 (fun _ => .null)) ∧ Fz e0 ∧
  vx_Zq Bundle.tN "UNASSIGNED_STACK" Bundle.steD (fun q => ¬ Fz q) U H ∧ vx_Zq Bundle.tN "SUPPRESSED_SENTINEL" Bundle.listD (fun q => ¬ Fz q) U H ∧ ∀ q, Fz q → q < H.size
theorem tm_Et.warm {D : va_G} {T : ClassId × ClassId × ClassId × ClassId} {mi : Nat} {s U : State} (hW : s.WarmedH U.vm) (h : tm_Et D T mi s) : tm_Et D T mi U := by
  obtain ⟨h1, h2, h3, h4, h5⟩ := h
  refine ⟨va_K.moved hW.alike h1, fun w hw => ?_, fun own tx k hk => ?_, va_Mi.moved hW.alike h4, va_AO.moved hW.alike h5⟩
  · have h := h2 w hw
    have hg := (List.mem_filter.mp hw).2
    cases w <;> first
      | exact va_Nw.warmF hW h
      | exact va_Nw.warmM hW h
      | exact va_Nw.warmC hW h
      | exact va_Nw.warmD hW h
      | exact absurd hg (by decide)
      | (exfalso; revert hg; exact fun z => by cases z)
  · obtain ⟨sa, hsa⟩ := h3 own tx k hk
    exact ⟨sa, vk_R.warm hW hsa⟩
theorem tm_Es.moved {T : ClassId × ClassId × ClassId × ClassId} {e0 : Nat} {Fz : Nat → Prop} {s U : State} {H : Heap} (hvm : s.vm.Alike U.vm) (h : tm_Es T e0 Fz s H) : tm_Es T e0 Fz U H :=
  ⟨va_Z.moved hvm h.1, h.2.1, h.2.2.1, vx_Zq.moved hvm h.2.2.2.1, vx_Zq.moved hvm h.2.2.2.2.1, h.2.2.2.2.2⟩
theorem tm_Es.kept {T : ClassId × ClassId × ClassId × ClassId} {e0 : Nat} {Fz : Nat → Prop} {s : State} {H H1 : Heap} (hz : H.size ≤ H1.size) (hq : ∀ a : Nat, a < H.size → Fz a → H1[a]? = H[a]?) (h : tm_Es T e0 Fz s H) : tm_Es T e0 Fz s H1 :=
  ⟨va_Z.kept h.1 (fun a h1 h2 => hq a h1 (Classical.byContradiction h2)), by rw [hq e0 (h.2.2.2.2.2 _ h.2.2.1) h.2.2.1]; exact h.2.1, h.2.2.1, vx_Zq.kept h.2.2.2.1 (fun a h1 h2 => hq a h1 (Classical.byContradiction h2)), vx_Zq.kept h.2.2.2.2.1 (fun a h1 h2 => hq a h1 (Classical.byContradiction h2)), fun q h9 => Nat.lt_of_lt_of_le (h.2.2.2.2.2 q h9) hz⟩
/-- the method's walk: everything that stays through it -/
abbrev tmX : Type := (Program × Launch × Env × Room × State × MethodId × Array Value × List Frame × Method × Code × (State → Prop)) × va_G × (ClassId × ClassId × ClassId × ClassId) × Nat × Nat × (Nat → Prop) × Nat
def tm_W (x : tmX) (H : Heap) (locs : List Loc) (cells slots : Nat) (g : JFrame) : Prop := W x.1.1 x.1.2.1 x.1.2.2.1 x.1.2.2.2.1 x.1.2.2.2.2.1 x.1.2.2.2.2.2.1 x.1.2.2.2.2.2.2.1 x.1.2.2.2.2.2.2.2.1 x.1.2.2.2.2.2.2.2.2.1 x.1.2.2.2.2.2.2.2.2.2.1 H locs cells slots x.1.2.2.2.2.2.2.2.2.2.2 g
abbrev tm_st (x : tmX) : State := x.1.2.2.2.2.1
abbrev tm_R (x : tmX) : Room := x.1.2.2.2.1
abbrev tm_m (x : tmX) : MethodId := x.1.2.2.2.2.2.1
abbrev tm_as (x : tmX) : Array Value := x.1.2.2.2.2.2.2.1
abbrev tm_c (x : tmX) : Code := x.1.2.2.2.2.2.2.2.2.2.1
abbrev tm_me (x : tmX) : Method := x.1.2.2.2.2.2.2.2.2.1
abbrev tm_D (x : tmX) : va_G := x.2.1
abbrev tm_T (x : tmX) : ClassId × ClassId × ClassId × ClassId := x.2.2.1
abbrev tm_e0 (x : tmX) : Nat := x.2.2.2.1
abbrev tm_mi (x : tmX) : Nat := x.2.2.2.2.1
abbrev tm_Fz (x : tmX) : Nat → Prop := x.2.2.2.2.2.1
abbrev tm_nL (x : tmX) : Nat := x.2.2.2.2.2.2
/-- what stays of the method: the machine, its code, its class, the words -/
def tm_C (x : tmX) (cc : ByteArray) (own : String) (ret : Option FieldType) : Prop :=
  x.1.1.tables.exec = Jvm.exec ∧ (tm_c x).code = cc ∧ (tm_c x).maxLocals = tm_nL x ∧ (tm_st x).vm.findClass own = some (tm_m x).cls ∧ (∀ w ∈ ALL, w.before (tm_as x) (tm_st x) = true) ∧ (tm_me x).locks = false ∧ (tm_me x).sig.returnType = ret ∧ x.1.2.1.stackTraces = false ∧ tm_Et (tm_D x) (tm_T x) (tm_mi x) (tm_st x) ∧ tm_Es (tm_T x) (tm_e0 x) (tm_Fz x) (tm_st x) (tm_st x).heap
theorem tm_CK {x : tmX} {cc : ByteArray} {own : String} {ret : Option FieldType} (hC : tm_C x cc own ret) : va_K (tm_D x) classes (tm_tys (tm_T x)) (tm_st x) := hC.2.2.2.2.2.2.2.2.1.1
theorem tm_CN {x : tmX} {cc : ByteArray} {own : String} {ret : Option FieldType} (hC : tm_C x cc own ret) {w : Cond} (h : w ∈ NW) : va_Nw w (tm_st x) := hC.2.2.2.2.2.2.2.2.1.2.1 w h
theorem tm_CW {x : tmX} {cc : ByteArray} {own : String} {ret : Option FieldType} (hC : tm_C x cc own ret) {w : Cond} (h : w ∈ ALL) : w.before (tm_as x) (tm_st x) = true := hC.2.2.2.2.1 w h
theorem tm_CE {x : tmX} {cc : ByteArray} {own : String} {ret : Option FieldType} (hC : tm_C x cc own ret) {H : Heap} {locs : List Loc} (hS : va_S (fun q => ¬ tm_Fz x q) (tm_st x).heap H locs) : tm_Es (tm_T x) (tm_e0 x) (tm_Fz x) (tm_st x) H := tm_Es.kept hS.1 (fun a h1 h2 => hS.2.1 a h1 (fun z => z h2)) hC.2.2.2.2.2.2.2.2.2
/-- the walk at a place: from every heap of that kind, with b cells and n slots left -/
def tm_V (x : tmX) (G : Heap → Prop) (b n : Nat) (pc : Nat) (L : List (Nat × Value)) (st : List Value) : Prop :=
  ∀ (H : Heap) (locs : List Loc) (ls : Array Slot) (cells slots : Nat), cells + b ≤ (tm_R x).cells → slots + n ≤ (tm_R x).slots → va_S (fun q => ¬ tm_Fz x q) (tm_st x).heap H locs → G H → lv_has ls (tm_nL x) L → tm_W x H locs cells slots (F0 (tm_m x) pc ls st)
section TMV
variable {x : tmX} {cc : ByteArray} {own : String} {ret : Option FieldType} {G : Heap → Prop} {b n pc : Nat} {L L' : List (Nat × Value)} {st : List Value}
theorem tm_sub (ks : List Nat) (hl : lv_pick L ks = L') (k : tm_V x G b n pc L' st) : tm_V x G b n pc L st :=
  fun H locs ls cells slots h1 h2 hS hG h => k H locs ls cells slots h1 h2 hS hG (lv_sub h ks hl)
theorem tm_less {b' n' : Nat} (h : b' ≤ b ∧ n' ≤ n) (k : tm_V x G b' n' pc L st) : tm_V x G b n pc L st :=
  fun H locs ls cells slots h1 h2 hS hG hl => k H locs ls cells slots (by omega) (by omega) hS hG hl
theorem tm_goto {off : Int} (tgt : Nat) (hC : tm_C x cc own ret) (hd : decode cc pc = .ok (.goto off, 3)) (ht : (pc : Int) + off = (tgt : Int)) (k : tm_V x G b n tgt L st) : tm_V x G b n pc L st :=
  fun H locs ls cells slots h1 h2 hS hG hl => lv_goto hC.1 hC.2.1 hd ht (k H locs ls cells slots h1 h2 hS hG hl)
theorem tm_iconst {v : Int} (hC : tm_C x cc own ret) (hd : decode cc pc = .ok (.iconst v, 1)) (k : tm_V x G b n (pc + 1) L (.int (I v) :: st)) : tm_V x G b n pc L st :=
  fun H locs ls cells slots h1 h2 hS hG hl => lv_iconst hC.1 hC.2.1 hd rfl (k H locs ls cells slots h1 h2 hS hG hl)
theorem tm_bipush {v : Int} (hC : tm_C x cc own ret) (hd : decode cc pc = .ok (.bipush v, 2)) (hv : (Int8.ofInt v).toInt32 = I v) (k : tm_V x G b n (pc + 2) L (.int (I v) :: st)) : tm_V x G b n pc L st :=
  fun H locs ls cells slots h1 h2 hS hG hl => lv_bipush hC.1 hC.2.1 hd hv (k H locs ls cells slots h1 h2 hS hG hl)
theorem tm_sipush {v : Int} (hC : tm_C x cc own ret) (hd : decode cc pc = .ok (.sipush v, 3)) (hv : (Int16.ofInt v).toInt32 = I v) (k : tm_V x G b n (pc + 3) L (.int (I v) :: st)) : tm_V x G b n pc L st :=
  fun H locs ls cells slots h1 h2 hS hG hl => lv_sipush hC.1 hC.2.1 hd hv (k H locs ls cells slots h1 h2 hS hG hl)
theorem tm_lconst {v : Fin 2} {w : Int64} (hC : tm_C x cc own ret) (hd : decode cc pc = .ok (.lconst v, 1)) (hv : Int64.ofNat (v : Nat) = w) (k : tm_V x G b n (pc + 1) L (.long w :: st)) : tm_V x G b n pc L st :=
  fun H locs ls cells slots h1 h2 hS hG hl => lv_lconst hC.1 hC.2.1 hd hv (k H locs ls cells slots h1 h2 hS hG hl)
theorem tm_dconst0 (hC : tm_C x cc own ret) (hd : decode cc pc = .ok (.dconst 0, 1)) (k : tm_V x G b n (pc + 1) L (.double 0 :: st)) : tm_V x G b n pc L st :=
  fun H locs ls cells slots h1 h2 hS hG hl => lv_dconst0 hC.1 hC.2.1 hd (k H locs ls cells slots h1 h2 hS hG hl)
theorem tm_null (hC : tm_C x cc own ret) (hd : decode cc pc = .ok (.aconst_null, 1)) (k : tm_V x G b n (pc + 1) L (.null :: st)) : tm_V x G b n pc L st :=
  fun H locs ls cells slots h1 h2 hS hG hl => lv_null hC.1 hC.2.1 hd (k H locs ls cells slots h1 h2 hS hG hl)
theorem tm_ldc2 {i : Nat} {v : Int64} (hC : tm_C x cc own ret) (hw : Cond.constantLong own i v ∈ ALL) (hd : decode cc pc = .ok (.ldc2_w i, 3)) (k : tm_V x G b n (pc + 3) L (.long v :: st)) : tm_V x G b n pc L st :=
  fun H locs ls cells slots h1 h2 hS hG hl => lv_ldc2 hC.1 hC.2.1 hC.2.2.2.1 (hC.2.2.2.2.1 _ hw) hd (k H locs ls cells slots h1 h2 hS hG hl)
theorem tm_ldc {i : Nat} {v : Int32} (hC : tm_C x cc own ret) (hw : Cond.constant own i v ∈ ALL) (hd : decode cc pc = .ok (.ldc i, 2)) (k : tm_V x G b n (pc + 2) L (.int v :: st)) : tm_V x G b n pc L st :=
  fun H locs ls cells slots h1 h2 hS hG hl => lv_ldc hC.1 hC.2.1 hC.2.2.2.1 (hC.2.2.2.2.1 _ hw) hd (k H locs ls cells slots h1 h2 hS hG hl)
theorem tm_iload_n {j : Fin 4} {i : Nat} {v : Int32} (p : Nat) (hC : tm_C x cc own ret) (hd : decode cc pc = .ok (.iload_n j, 1)) (hi : (j : Nat) = i) (hl0 : L[p]? = some (i, .int v)) (k : tm_V x G b n (pc + 1) L (.int v :: st)) : tm_V x G b n pc L st :=
  fun H locs ls cells slots h1 h2 hS hG hl => lv_iload_n hC.1 hC.2.1 hd hi (lv_at hl p hl0) (k H locs ls cells slots h1 h2 hS hG hl)
theorem tm_iload {i : Nat} {v : Int32} (p : Nat) (hC : tm_C x cc own ret) (hd : decode cc pc = .ok (.iload i, 2)) (hl0 : L[p]? = some (i, .int v)) (k : tm_V x G b n (pc + 2) L (.int v :: st)) : tm_V x G b n pc L st :=
  fun H locs ls cells slots h1 h2 hS hG hl => lv_iload hC.1 hC.2.1 hd (lv_at hl p hl0) (k H locs ls cells slots h1 h2 hS hG hl)
theorem tm_aload_n {j : Fin 4} {i : Nat} {v : Nat} (p : Nat) (hC : tm_C x cc own ret) (hd : decode cc pc = .ok (.aload_n j, 1)) (hi : (j : Nat) = i) (hl0 : L[p]? = some (i, .ref v)) (k : tm_V x G b n (pc + 1) L (.ref v :: st)) : tm_V x G b n pc L st :=
  fun H locs ls cells slots h1 h2 hS hG hl => lv_aload_n hC.1 hC.2.1 hd hi (lv_at hl p hl0) (k H locs ls cells slots h1 h2 hS hG hl)
theorem tm_aload {i : Nat} {v : Nat} (p : Nat) (hC : tm_C x cc own ret) (hd : decode cc pc = .ok (.aload i, 2)) (hl0 : L[p]? = some (i, .ref v)) (k : tm_V x G b n (pc + 2) L (.ref v :: st)) : tm_V x G b n pc L st :=
  fun H locs ls cells slots h1 h2 hS hG hl => lv_aload hC.1 hC.2.1 hd (lv_at hl p hl0) (k H locs ls cells slots h1 h2 hS hG hl)
theorem tm_lload_n {j : Fin 4} {i : Nat} {v : Int64} (p : Nat) (hC : tm_C x cc own ret) (hd : decode cc pc = .ok (.lload_n j, 1)) (hi : (j : Nat) = i) (hl0 : L[p]? = some (i, .long v)) (k : tm_V x G b n (pc + 1) L (.long v :: st)) : tm_V x G b n pc L st :=
  fun H locs ls cells slots h1 h2 hS hG hl => lv_lload_n hC.1 hC.2.1 hd hi (lv_at hl p hl0) (k H locs ls cells slots h1 h2 hS hG hl)
theorem tm_lload {i : Nat} {v : Int64} (p : Nat) (hC : tm_C x cc own ret) (hd : decode cc pc = .ok (.lload i, 2)) (hl0 : L[p]? = some (i, .long v)) (k : tm_V x G b n (pc + 2) L (.long v :: st)) : tm_V x G b n pc L st :=
  fun H locs ls cells slots h1 h2 hS hG hl => lv_lload hC.1 hC.2.1 hd (lv_at hl p hl0) (k H locs ls cells slots h1 h2 hS hG hl)
theorem tm_dload_n {j : Fin 4} {i : Nat} {v : UInt64} (p : Nat) (hC : tm_C x cc own ret) (hd : decode cc pc = .ok (.dload_n j, 1)) (hi : (j : Nat) = i) (hl0 : L[p]? = some (i, .double v)) (k : tm_V x G b n (pc + 1) L (.double v :: st)) : tm_V x G b n pc L st :=
  fun H locs ls cells slots h1 h2 hS hG hl => lv_dload_n hC.1 hC.2.1 hd hi (lv_at hl p hl0) (k H locs ls cells slots h1 h2 hS hG hl)
theorem tm_dload {i : Nat} {v : UInt64} (p : Nat) (hC : tm_C x cc own ret) (hd : decode cc pc = .ok (.dload i, 2)) (hl0 : L[p]? = some (i, .double v)) (k : tm_V x G b n (pc + 2) L (.double v :: st)) : tm_V x G b n pc L st :=
  fun H locs ls cells slots h1 h2 hS hG hl => lv_dload hC.1 hC.2.1 hd (lv_at hl p hl0) (k H locs ls cells slots h1 h2 hS hG hl)
theorem tm_istore_n {j : Fin 4} {i : Nat} {v : Int32} (L' : List (Nat × Value)) (hC : tm_C x cc own ret) (hd : decode cc pc = .ok (.istore_n j, 1)) (hi : (j : Nat) = i) (hn : i < tm_nL x) (hl0 : (i, Value.int v) :: L.filter (fun q => !(q.1 == i) && !(q.1 + 1 == i && q.2.category == 2)) = L') (k : tm_V x G b n (pc + 1) L' st) : tm_V x G b n pc L (Value.int v :: st) :=
  fun H locs ls cells slots h1 h2 hS hG hl => lv_istore_n hC.1 hC.2.1 hd hi hl hn hl0 (fun ls' hl' => k H locs ls' cells slots h1 h2 hS hG hl')
theorem tm_istore {i : Nat} {v : Int32} (L' : List (Nat × Value)) (hC : tm_C x cc own ret) (hd : decode cc pc = .ok (.istore i, 2)) (hn : i < tm_nL x) (hl0 : (i, Value.int v) :: L.filter (fun q => !(q.1 == i) && !(q.1 + 1 == i && q.2.category == 2)) = L') (k : tm_V x G b n (pc + 2) L' st) : tm_V x G b n pc L (Value.int v :: st) :=
  fun H locs ls cells slots h1 h2 hS hG hl => lv_istore hC.1 hC.2.1 hd hl hn hl0 (fun ls' hl' => k H locs ls' cells slots h1 h2 hS hG hl')
theorem tm_astore_n {j : Fin 4} {i : Nat} {v : Nat} (L' : List (Nat × Value)) (hC : tm_C x cc own ret) (hd : decode cc pc = .ok (.astore_n j, 1)) (hi : (j : Nat) = i) (hn : i < tm_nL x) (hl0 : (i, Value.ref v) :: L.filter (fun q => !(q.1 == i) && !(q.1 + 1 == i && q.2.category == 2)) = L') (k : tm_V x G b n (pc + 1) L' st) : tm_V x G b n pc L (Value.ref v :: st) :=
  fun H locs ls cells slots h1 h2 hS hG hl => lv_astore_n hC.1 hC.2.1 hd hi hl hn hl0 (fun ls' hl' => k H locs ls' cells slots h1 h2 hS hG hl')
theorem tm_astore {i : Nat} {v : Nat} (L' : List (Nat × Value)) (hC : tm_C x cc own ret) (hd : decode cc pc = .ok (.astore i, 2)) (hn : i < tm_nL x) (hl0 : (i, Value.ref v) :: L.filter (fun q => !(q.1 == i) && !(q.1 + 1 == i && q.2.category == 2)) = L') (k : tm_V x G b n (pc + 2) L' st) : tm_V x G b n pc L (Value.ref v :: st) :=
  fun H locs ls cells slots h1 h2 hS hG hl => lv_astore hC.1 hC.2.1 hd hl hn hl0 (fun ls' hl' => k H locs ls' cells slots h1 h2 hS hG hl')
theorem tm_lstore_n {j : Fin 4} {i : Nat} {v : Int64} (L' : List (Nat × Value)) (hC : tm_C x cc own ret) (hd : decode cc pc = .ok (.lstore_n j, 1)) (hi : (j : Nat) = i) (hn : i + 1 < tm_nL x) (hl0 : (i, Value.long v) :: L.filter (fun q => !(q.1 == i) && (!(q.1 == i + 1) && !(q.1 + 1 == i && q.2.category == 2))) = L') (k : tm_V x G b n (pc + 1) L' st) : tm_V x G b n pc L (Value.long v :: st) :=
  fun H locs ls cells slots h1 h2 hS hG hl => lv_lstore_n hC.1 hC.2.1 hd hi hl hn hl0 (fun ls' hl' => k H locs ls' cells slots h1 h2 hS hG hl')
theorem tm_lstore {i : Nat} {v : Int64} (L' : List (Nat × Value)) (hC : tm_C x cc own ret) (hd : decode cc pc = .ok (.lstore i, 2)) (hn : i + 1 < tm_nL x) (hl0 : (i, Value.long v) :: L.filter (fun q => !(q.1 == i) && (!(q.1 == i + 1) && !(q.1 + 1 == i && q.2.category == 2))) = L') (k : tm_V x G b n (pc + 2) L' st) : tm_V x G b n pc L (Value.long v :: st) :=
  fun H locs ls cells slots h1 h2 hS hG hl => lv_lstore hC.1 hC.2.1 hd hl hn hl0 (fun ls' hl' => k H locs ls' cells slots h1 h2 hS hG hl')
theorem tm_dstore_n {j : Fin 4} {i : Nat} {v : UInt64} (L' : List (Nat × Value)) (hC : tm_C x cc own ret) (hd : decode cc pc = .ok (.dstore_n j, 1)) (hi : (j : Nat) = i) (hn : i + 1 < tm_nL x) (hl0 : (i, Value.double v) :: L.filter (fun q => !(q.1 == i) && (!(q.1 == i + 1) && !(q.1 + 1 == i && q.2.category == 2))) = L') (k : tm_V x G b n (pc + 1) L' st) : tm_V x G b n pc L (Value.double v :: st) :=
  fun H locs ls cells slots h1 h2 hS hG hl => lv_dstore_n hC.1 hC.2.1 hd hi hl hn hl0 (fun ls' hl' => k H locs ls' cells slots h1 h2 hS hG hl')
theorem tm_dstore {i : Nat} {v : UInt64} (L' : List (Nat × Value)) (hC : tm_C x cc own ret) (hd : decode cc pc = .ok (.dstore i, 2)) (hn : i + 1 < tm_nL x) (hl0 : (i, Value.double v) :: L.filter (fun q => !(q.1 == i) && (!(q.1 == i + 1) && !(q.1 + 1 == i && q.2.category == 2))) = L') (k : tm_V x G b n (pc + 2) L' st) : tm_V x G b n pc L (Value.double v :: st) :=
  fun H locs ls cells slots h1 h2 hS hG hl => lv_dstore hC.1 hC.2.1 hd hl hn hl0 (fun ls' hl' => k H locs ls' cells slots h1 h2 hS hG hl')
theorem tm_aload_nN {j : Fin 4} {i : Nat} (p : Nat) (hC : tm_C x cc own ret) (hd : decode cc pc = .ok (.aload_n j, 1)) (hi : (j : Nat) = i) (hl0 : L[p]? = some (i, .null)) (k : tm_V x G b n (pc + 1) L (.null :: st)) : tm_V x G b n pc L st :=
  fun H locs ls cells slots h1 h2 hS hG hl => lv_aload_nN hC.1 hC.2.1 hd hi (lv_at hl p hl0) (k H locs ls cells slots h1 h2 hS hG hl)
theorem tm_astore_nN {j : Fin 4} {i : Nat} (L' : List (Nat × Value)) (hC : tm_C x cc own ret) (hd : decode cc pc = .ok (.astore_n j, 1)) (hi : (j : Nat) = i) (hn : i < tm_nL x) (hl0 : (i, Value.null) :: L.filter (fun q => !(q.1 == i) && !(q.1 + 1 == i && q.2.category == 2)) = L') (k : tm_V x G b n (pc + 1) L' st) : tm_V x G b n pc L (.null :: st) :=
  fun H locs ls cells slots h1 h2 hS hG hl => lv_astore_nN hC.1 hC.2.1 hd hi hl hn hl0 (fun ls' hl' => k H locs ls' cells slots h1 h2 hS hG hl')
theorem tm_iinc {i : Nat} {d v : Int} (p : Nat) (L' : List (Nat × Value)) (hC : tm_C x cc own ret) (hd : decode cc pc = .ok (.iinc i d, 3)) (hl1 : L[p]? = some (i, .int (I v))) (hn : i < tm_nL x) (hl0 : (i, Value.int (I (v + d))) :: L.filter (fun q => !(q.1 == i) && !(q.1 + 1 == i && q.2.category == 2)) = L') (k : tm_V x G b n (pc + 3) L' st) : tm_V x G b n pc L st :=
  fun H locs ls cells slots h1 h2 hS hG hl => lv_iinc hC.1 hC.2.1 hd hl hl1 (v := I (v + d)) (Int32.ofInt_add v d).symm hn hl0 (fun ls' hl' => k H locs ls' cells slots h1 h2 hS hG hl')
theorem tm_iadd {u v : Int} (hC : tm_C x cc own ret) (hd : decode cc pc = .ok (.iadd, 1)) (k : tm_V x G b n (pc + 1) L (.int (I (u + v)) :: st)) : tm_V x G b n pc L (.int (I v) :: .int (I u) :: st) :=
  fun H locs ls cells slots h1 h2 hS hG hl => lv_iadd hC.1 hC.2.1 hd (by rw [← Int32.ofInt_add]; exact k H locs ls cells slots h1 h2 hS hG hl)
theorem tm_isub {u v : Int} (hC : tm_C x cc own ret) (hd : decode cc pc = .ok (.isub, 1)) (k : tm_V x G b n (pc + 1) L (.int (I (u - v)) :: st)) : tm_V x G b n pc L (.int (I v) :: .int (I u) :: st) :=
  fun H locs ls cells slots h1 h2 hS hG hl => lv_isub hC.1 hC.2.1 hd (by rw [← Int32.ofInt_sub]; exact k H locs ls cells slots h1 h2 hS hG hl)
theorem tm_imul {u v : Int} (hC : tm_C x cc own ret) (hd : decode cc pc = .ok (.imul, 1)) (k : tm_V x G b n (pc + 1) L (.int (I (u * v)) :: st)) : tm_V x G b n pc L (.int (I v) :: .int (I u) :: st) :=
  fun H locs ls cells slots h1 h2 hS hG hl => lv_imul hC.1 hC.2.1 hd (by rw [← Int32.ofInt_mul]; exact k H locs ls cells slots h1 h2 hS hG hl)
theorem tm_ladd {u v : Int64} (hC : tm_C x cc own ret) (hd : decode cc pc = .ok (.ladd, 1)) (k : tm_V x G b n (pc + 1) L (.long (u + v) :: st)) : tm_V x G b n pc L (.long v :: .long u :: st) :=
  fun H locs ls cells slots h1 h2 hS hG hl => lv_ladd hC.1 hC.2.1 hd (k H locs ls cells slots h1 h2 hS hG hl)
theorem tm_lmul {u v : Int64} (hC : tm_C x cc own ret) (hd : decode cc pc = .ok (.lmul, 1)) (k : tm_V x G b n (pc + 1) L (.long (u * v) :: st)) : tm_V x G b n pc L (.long v :: .long u :: st) :=
  fun H locs ls cells slots h1 h2 hS hG hl => lv_lmul hC.1 hC.2.1 hd (k H locs ls cells slots h1 h2 hS hG hl)
theorem tm_iand {u v : Int32} (hC : tm_C x cc own ret) (hd : decode cc pc = .ok (.iand, 1)) (k : tm_V x G b n (pc + 1) L (.int (u &&& v) :: st)) : tm_V x G b n pc L (.int v :: .int u :: st) :=
  fun H locs ls cells slots h1 h2 hS hG hl => lv_iand hC.1 hC.2.1 hd (k H locs ls cells slots h1 h2 hS hG hl)
theorem tm_i2l {u : Int32} (hC : tm_C x cc own ret) (hd : decode cc pc = .ok (.i2l, 1)) (k : tm_V x G b n (pc + 1) L (.long u.toInt64 :: st)) : tm_V x G b n pc L (.int u :: st) :=
  fun H locs ls cells slots h1 h2 hS hG hl => lv_i2l hC.1 hC.2.1 hd rfl (k H locs ls cells slots h1 h2 hS hG hl)
theorem tm_dup {v : Value} (hC : tm_C x cc own ret) (hd : decode cc pc = .ok (.dup, 1)) (hv : v.category = 1) (k : tm_V x G b n (pc + 1) L (v :: v :: st)) : tm_V x G b n pc L (v :: st) :=
  fun H locs ls cells slots h1 h2 hS hG hl => lv_dup hC.1 hC.2.1 hd hv (k H locs ls cells slots h1 h2 hS hG hl)
theorem tm_dup_x1 {v w : Value} (hC : tm_C x cc own ret) (hd : decode cc pc = .ok (.dup_x1, 1)) (hv : v.category = 1) (hw : w.category = 1) (k : tm_V x G b n (pc + 1) L (v :: w :: v :: st)) : tm_V x G b n pc L (v :: w :: st) :=
  fun H locs ls cells slots h1 h2 hS hG hl => lv_dup_x1 hC.1 hC.2.1 hd hv hw (k H locs ls cells slots h1 h2 hS hG hl)
theorem tm_dup2 {v w : Value} (hC : tm_C x cc own ret) (hd : decode cc pc = .ok (.dup2, 1)) (hv : v.category = 1) (hw : w.category = 1) (k : tm_V x G b n (pc + 1) L (v :: w :: v :: w :: st)) : tm_V x G b n pc L (v :: w :: st) :=
  fun H locs ls cells slots h1 h2 hS hG hl => lv_dup2_11 hC.1 hC.2.1 hd hv hw (k H locs ls cells slots h1 h2 hS hG hl)
theorem tm_pop {v : Value} (hC : tm_C x cc own ret) (hd : decode cc pc = .ok (.pop, 1)) (hv : v.category = 1) (k : tm_V x G b n (pc + 1) L st) : tm_V x G b n pc L (v :: st) :=
  fun H locs ls cells slots h1 h2 hS hG hl => lv_pop hC.1 hC.2.1 hd hv (k H locs ls cells slots h1 h2 hS hG hl)
theorem tm_ifnull {a : Nat} {off : Int} (hC : tm_C x cc own ret) (hd : decode cc pc = .ok (.ifnull off, 3)) (k : tm_V x G b n (pc + 3) L st) : tm_V x G b n pc L (.ref a :: st) :=
  fun H locs ls cells slots h1 h2 hS hG hl => lv_ifnull hC.1 hC.2.1 hd (k H locs ls cells slots h1 h2 hS hG hl)
theorem tm_ifnullN {off : Int} (tgt : Nat) (hC : tm_C x cc own ret) (hd : decode cc pc = .ok (.ifnull off, 3)) (ht : (pc : Int) + off = (tgt : Int)) (k : tm_V x G b n tgt L st) : tm_V x G b n pc L (.null :: st) :=
  fun H locs ls cells slots h1 h2 hS hG hl => lv_ifnullN hC.1 hC.2.1 hd ht (k H locs ls cells slots h1 h2 hS hG hl)
theorem tm_ifnonnull {a : Nat} {off : Int} (tgt : Nat) (hC : tm_C x cc own ret) (hd : decode cc pc = .ok (.ifnonnull off, 3)) (ht : (pc : Int) + off = (tgt : Int)) (k : tm_V x G b n tgt L st) : tm_V x G b n pc L (.ref a :: st) :=
  fun H locs ls cells slots h1 h2 hS hG hl => lv_ifnonnull hC.1 hC.2.1 hd ht (k H locs ls cells slots h1 h2 hS hG hl)
theorem tm_ifnonnullN {off : Int} (hC : tm_C x cc own ret) (hd : decode cc pc = .ok (.ifnonnull off, 3)) (k : tm_V x G b n (pc + 3) L st) : tm_V x G b n pc L (.null :: st) :=
  fun H locs ls cells slots h1 h2 hS hG hl => lv_ifnonnullN hC.1 hC.2.1 hd (k H locs ls cells slots h1 h2 hS hG hl)
theorem tm_acmp_ne {u v : Nat} {off : Int} (tgt : Nat) (hC : tm_C x cc own ret) (hd : decode cc pc = .ok (.if_acmp .ne off, 3)) (ht : (pc : Int) + off = (tgt : Int)) (kt : u ≠ v → tm_V x G b n tgt L st) (kf : u = v → tm_V x G b n (pc + 3) L st) : tm_V x G b n pc L (.ref v :: .ref u :: st) :=
  fun H locs ls cells slots h1 h2 hS hG hl => lv_acmp_ne (rx := some u) (ry := some v) hC.1 hC.2.1 hd ht (fun z => kt (fun e => z (congrArg some e)) H locs ls cells slots h1 h2 hS hG hl) (fun z => kf (Option.some.inj z) H locs ls cells slots h1 h2 hS hG hl)
theorem tm_acmp_eq {u v : Nat} {off : Int} (tgt : Nat) (hC : tm_C x cc own ret) (hd : decode cc pc = .ok (.if_acmp .eq off, 3)) (ht : (pc : Int) + off = (tgt : Int)) (kt : u = v → tm_V x G b n tgt L st) (kf : u ≠ v → tm_V x G b n (pc + 3) L st) : tm_V x G b n pc L (.ref v :: .ref u :: st) :=
  fun H locs ls cells slots h1 h2 hS hG hl => lv_acmp_eq (rx := some u) (ry := some v) hC.1 hC.2.1 hd ht (fun z => kt (Option.some.inj z) H locs ls cells slots h1 h2 hS hG hl) (fun z => kf (fun e => z (congrArg some e)) H locs ls cells slots h1 h2 hS hG hl)
theorem tm_icmp_lt {u v : Int} {off : Int} (tgt : Nat) (hC : tm_C x cc own ret) (hd : decode cc pc = .ok (.if_icmp .lt off, 3)) (ht : (pc : Int) + off = (tgt : Int)) (h : (-2147483648 ≤ u ∧ u ≤ 2147483647) ∧ -2147483648 ≤ v ∧ v ≤ 2147483647) (kt : u < v → tm_V x G b n tgt L st) (kf : ¬ (u < v) → tm_V x G b n (pc + 3) L st) : tm_V x G b n pc L (.int (I v) :: .int (I u) :: st) :=
  fun H locs ls cells slots h1 h2 hS hG hl => lv_icmp_lt hC.1 hC.2.1 hd ht (fun z => kt ((I_lt h).mp z) H locs ls cells slots h1 h2 hS hG hl) (fun z => kf (fun e => z ((I_lt h).mpr e)) H locs ls cells slots h1 h2 hS hG hl)
theorem tm_icmp_le {u v : Int} {off : Int} (tgt : Nat) (hC : tm_C x cc own ret) (hd : decode cc pc = .ok (.if_icmp .le off, 3)) (ht : (pc : Int) + off = (tgt : Int)) (h : (-2147483648 ≤ u ∧ u ≤ 2147483647) ∧ -2147483648 ≤ v ∧ v ≤ 2147483647) (kt : u ≤ v → tm_V x G b n tgt L st) (kf : ¬ (u ≤ v) → tm_V x G b n (pc + 3) L st) : tm_V x G b n pc L (.int (I v) :: .int (I u) :: st) :=
  fun H locs ls cells slots h1 h2 hS hG hl => lv_icmp_le hC.1 hC.2.1 hd ht (fun z => kt ((I_le h).mp z) H locs ls cells slots h1 h2 hS hG hl) (fun z => kf (fun e => z ((I_le h).mpr e)) H locs ls cells slots h1 h2 hS hG hl)
theorem tm_icmp_eq {u v : Int} {off : Int} (tgt : Nat) (hC : tm_C x cc own ret) (hd : decode cc pc = .ok (.if_icmp .eq off, 3)) (ht : (pc : Int) + off = (tgt : Int)) (h : (-2147483648 ≤ u ∧ u ≤ 2147483647) ∧ -2147483648 ≤ v ∧ v ≤ 2147483647) (kt : u = v → tm_V x G b n tgt L st) (kf : ¬ (u = v) → tm_V x G b n (pc + 3) L st) : tm_V x G b n pc L (.int (I v) :: .int (I u) :: st) :=
  fun H locs ls cells slots h1 h2 hS hG hl => lv_icmp_eq hC.1 hC.2.1 hd ht (fun z => kt ((I_eq h).mp z) H locs ls cells slots h1 h2 hS hG hl) (fun z => kf (fun e => z ((I_eq h).mpr e)) H locs ls cells slots h1 h2 hS hG hl)
theorem tm_icmp_gt {u v : Int} {off : Int} (tgt : Nat) (hC : tm_C x cc own ret) (hd : decode cc pc = .ok (.if_icmp .gt off, 3)) (ht : (pc : Int) + off = (tgt : Int)) (h : (-2147483648 ≤ u ∧ u ≤ 2147483647) ∧ -2147483648 ≤ v ∧ v ≤ 2147483647) (kt : v < u → tm_V x G b n tgt L st) (kf : ¬ (v < u) → tm_V x G b n (pc + 3) L st) : tm_V x G b n pc L (.int (I v) :: .int (I u) :: st) :=
  fun H locs ls cells slots h1 h2 hS hG hl => lv_icmp_gt hC.1 hC.2.1 hd ht (fun z => kt ((I_lt ⟨h.2, h.1⟩).mp z) H locs ls cells slots h1 h2 hS hG hl) (fun z => kf (fun e => z ((I_lt ⟨h.2, h.1⟩).mpr e)) H locs ls cells slots h1 h2 hS hG hl)
theorem tm_icmp_ge {u v : Int} {off : Int} (tgt : Nat) (hC : tm_C x cc own ret) (hd : decode cc pc = .ok (.if_icmp .ge off, 3)) (ht : (pc : Int) + off = (tgt : Int)) (h : (-2147483648 ≤ u ∧ u ≤ 2147483647) ∧ -2147483648 ≤ v ∧ v ≤ 2147483647) (kt : v ≤ u → tm_V x G b n tgt L st) (kf : ¬ (v ≤ u) → tm_V x G b n (pc + 3) L st) : tm_V x G b n pc L (.int (I v) :: .int (I u) :: st) :=
  fun H locs ls cells slots h1 h2 hS hG hl => lv_icmp_ge hC.1 hC.2.1 hd ht (fun z => kt ((I_le ⟨h.2, h.1⟩).mp z) H locs ls cells slots h1 h2 hS hG hl) (fun z => kf (fun e => z ((I_le ⟨h.2, h.1⟩).mpr e)) H locs ls cells slots h1 h2 hS hG hl)
theorem tm_icmp_ne {u v : Int} {off : Int} (tgt : Nat) (hC : tm_C x cc own ret) (hd : decode cc pc = .ok (.if_icmp .ne off, 3)) (ht : (pc : Int) + off = (tgt : Int)) (h : (-2147483648 ≤ u ∧ u ≤ 2147483647) ∧ -2147483648 ≤ v ∧ v ≤ 2147483647) (kt : ¬ u = v → tm_V x G b n tgt L st) (kf : u = v → tm_V x G b n (pc + 3) L st) : tm_V x G b n pc L (.int (I v) :: .int (I u) :: st) :=
  fun H locs ls cells slots h1 h2 hS hG hl => lv_icmp_ne hC.1 hC.2.1 hd ht (fun z => kt (fun e => z ((I_eq h).mpr e)) H locs ls cells slots h1 h2 hS hG hl) (fun z => kf ((I_eq h).mp z) H locs ls cells slots h1 h2 hS hG hl)
theorem tm_if_lt {u : Int} {off : Int} (tgt : Nat) (hC : tm_C x cc own ret) (hd : decode cc pc = .ok (.ifCond .lt off, 3)) (ht : (pc : Int) + off = (tgt : Int)) (h : -2147483648 ≤ u ∧ u ≤ 2147483647) (kt : u < 0 → tm_V x G b n tgt L st) (kf : ¬ (u < 0) → tm_V x G b n (pc + 3) L st) : tm_V x G b n pc L (.int (I u) :: st) :=
  fun H locs ls cells slots h1 h2 hS hG hl => lv_if_lt hC.1 hC.2.1 hd ht (fun z => kt ((I_lt (b := 0) ⟨h, by omega⟩).mp z) H locs ls cells slots h1 h2 hS hG hl) (fun z => kf (fun e => z ((I_lt (b := 0) ⟨h, by omega⟩).mpr e)) H locs ls cells slots h1 h2 hS hG hl)
theorem tm_if_le {u : Int} {off : Int} (tgt : Nat) (hC : tm_C x cc own ret) (hd : decode cc pc = .ok (.ifCond .le off, 3)) (ht : (pc : Int) + off = (tgt : Int)) (h : -2147483648 ≤ u ∧ u ≤ 2147483647) (kt : u ≤ 0 → tm_V x G b n tgt L st) (kf : ¬ (u ≤ 0) → tm_V x G b n (pc + 3) L st) : tm_V x G b n pc L (.int (I u) :: st) :=
  fun H locs ls cells slots h1 h2 hS hG hl => lv_if_le hC.1 hC.2.1 hd ht (fun z => kt ((I_le (b := 0) ⟨h, by omega⟩).mp z) H locs ls cells slots h1 h2 hS hG hl) (fun z => kf (fun e => z ((I_le (b := 0) ⟨h, by omega⟩).mpr e)) H locs ls cells slots h1 h2 hS hG hl)
theorem tm_if_eq {u : Int} {off : Int} (tgt : Nat) (hC : tm_C x cc own ret) (hd : decode cc pc = .ok (.ifCond .eq off, 3)) (ht : (pc : Int) + off = (tgt : Int)) (h : -2147483648 ≤ u ∧ u ≤ 2147483647) (kt : u = 0 → tm_V x G b n tgt L st) (kf : ¬ (u = 0) → tm_V x G b n (pc + 3) L st) : tm_V x G b n pc L (.int (I u) :: st) :=
  fun H locs ls cells slots h1 h2 hS hG hl => lv_if_eq hC.1 hC.2.1 hd ht (fun z => kt ((I_eq (b := 0) ⟨h, by omega⟩).mp z) H locs ls cells slots h1 h2 hS hG hl) (fun z => kf (fun e => z ((I_eq (b := 0) ⟨h, by omega⟩).mpr e)) H locs ls cells slots h1 h2 hS hG hl)
theorem tm_if_gt {u : Int} {off : Int} (tgt : Nat) (hC : tm_C x cc own ret) (hd : decode cc pc = .ok (.ifCond .gt off, 3)) (ht : (pc : Int) + off = (tgt : Int)) (h : -2147483648 ≤ u ∧ u ≤ 2147483647) (kt : 0 < u → tm_V x G b n tgt L st) (kf : ¬ (0 < u) → tm_V x G b n (pc + 3) L st) : tm_V x G b n pc L (.int (I u) :: st) :=
  fun H locs ls cells slots h1 h2 hS hG hl => lv_if_gt hC.1 hC.2.1 hd ht (fun z => kt ((I_lt (a := 0) ⟨by omega, h⟩).mp z) H locs ls cells slots h1 h2 hS hG hl) (fun z => kf (fun e => z ((I_lt (a := 0) ⟨by omega, h⟩).mpr e)) H locs ls cells slots h1 h2 hS hG hl)
theorem tm_if_ge {u : Int} {off : Int} (tgt : Nat) (hC : tm_C x cc own ret) (hd : decode cc pc = .ok (.ifCond .ge off, 3)) (ht : (pc : Int) + off = (tgt : Int)) (h : -2147483648 ≤ u ∧ u ≤ 2147483647) (kt : 0 ≤ u → tm_V x G b n tgt L st) (kf : ¬ (0 ≤ u) → tm_V x G b n (pc + 3) L st) : tm_V x G b n pc L (.int (I u) :: st) :=
  fun H locs ls cells slots h1 h2 hS hG hl => lv_if_ge hC.1 hC.2.1 hd ht (fun z => kt ((I_le (a := 0) ⟨by omega, h⟩).mp z) H locs ls cells slots h1 h2 hS hG hl) (fun z => kf (fun e => z ((I_le (a := 0) ⟨by omega, h⟩).mpr e)) H locs ls cells slots h1 h2 hS hG hl)
theorem tm_if_ne {u : Int} {off : Int} (tgt : Nat) (hC : tm_C x cc own ret) (hd : decode cc pc = .ok (.ifCond .ne off, 3)) (ht : (pc : Int) + off = (tgt : Int)) (h : -2147483648 ≤ u ∧ u ≤ 2147483647) (kt : ¬ u = 0 → tm_V x G b n tgt L st) (kf : u = 0 → tm_V x G b n (pc + 3) L st) : tm_V x G b n pc L (.int (I u) :: st) :=
  fun H locs ls cells slots h1 h2 hS hG hl => lv_if_ne hC.1 hC.2.1 hd ht (fun z => kt (fun e => z ((I_eq (b := 0) ⟨h, by omega⟩).mpr e)) H locs ls cells slots h1 h2 hS hG hl) (fun z => kf ((I_eq (b := 0) ⟨h, by omega⟩).mp z) H locs ls cells slots h1 h2 hS hG hl)
/-- a truth value as the machine holds it -/
noncomputable def bi (P : Prop) : Int := @ite Int P (Classical.propDecidable P) 1 0
theorem bi_t {P : Prop} (h : P) : bi P = 1 := if_pos h
theorem bi_f {P : Prop} (h : ¬ P) : bi P = 0 := if_neg h
theorem bi_01 (P : Prop) : bi P = 0 ∨ bi P = 1 := by by_cases h : P; exact Or.inr (bi_t h); exact Or.inl (bi_f h)
theorem bi_rg (P : Prop) : 0 ≤ bi P ∧ bi P ≤ 1 := by rcases bi_01 P with h | h <;> omega
theorem bi_iff {P Q : Prop} (h : P ↔ Q) : bi P = bi Q := by rw [propext h]
theorem bi_0 {P : Prop} : bi P = 0 ↔ ¬ P := ⟨fun h q => by rw [bi_t q] at h; omega, bi_f⟩
theorem tm_ifb_eq {P : Prop} {off : Int} (tgt : Nat) (hC : tm_C x cc own ret) (hd : decode cc pc = .ok (.ifCond .eq off, 3)) (ht : (pc : Int) + off = (tgt : Int)) (kt : ¬ P → tm_V x G b n tgt L st) (kf : P → tm_V x G b n (pc + 3) L st) : tm_V x G b n pc L (.int (I (bi P)) :: st) :=
  tm_if_eq tgt hC hd ht (by have := bi_rg P; omega) (fun z => kt (bi_0.mp z)) (fun z => kf (Classical.byContradiction fun q => z (bi_f q)))
theorem tm_ifb_ne {P : Prop} {off : Int} (tgt : Nat) (hC : tm_C x cc own ret) (hd : decode cc pc = .ok (.ifCond .ne off, 3)) (ht : (pc : Int) + off = (tgt : Int)) (kt : P → tm_V x G b n tgt L st) (kf : ¬ P → tm_V x G b n (pc + 3) L st) : tm_V x G b n pc L (.int (I (bi P)) :: st) :=
  tm_if_ne tgt hC hd ht (by have := bi_rg P; omega) (fun z => kt (Classical.byContradiction fun q => z (bi_f q))) (fun z => kf (bi_0.mp z))
end TMV
end
section
/-! Contracts, their ends, and calls: over any kind of world (h Fz w H: the heap H holds the world w, apart from the frozen Fz). -/
abbrev tmM : Type := MethodName × ByteArray × Nat × Option FieldType
abbrev tmG : Type := Launch × va_G × (ClassId × ClassId × ClassId × ClassId) × Nat × Nat
abbrev tm_g (x : tmX) : tmG := (x.1.2.1, tm_D x, tm_T x, tm_e0 x, tm_mi x)
def tm_rm (d mc ms : Nat) : Room := { frames := d, cells := mc, slots := ms, locals := 64 * d }
def tm_qc {Wd : Type} (h : (Nat → Prop) → Wd → Heap → Prop) (Fz : Nat → Prop) (post : Option Value → Wd → Prop) : Array Value → State → Outcome → State → Prop := fun _ st o t => ∃ (v : Option Value) (w' : Wd), o = .returned v ∧ post v w' ∧ h Fz w' t.heap ∧ va_F (fun q => ¬ Fz q) st t
def tm_xc {Wd : Type} (h : (Nat → Prop) → Wd → Heap → Prop) (Fz : Nat → Prop) (xp : String → Wd → Prop) : String → State → State → Prop := fun E st t => ∃ (w' : Wd), xp E w' ∧ h Fz w' t.heap ∧ va_F (fun q => ¬ Fz q) st t
def tm_pc {Wd : Type} (γ : tmG) (h : (Nat → Prop) → Wd → Heap → Prop) (Fz : Nat → Prop) (w : Wd) (As : List Value) : Array Value → State → Prop := va_Pc As (fun U => tm_Et γ.2.1 γ.2.2.1 γ.2.2.2.2 U ∧ tm_Es γ.2.2.1 γ.2.2.2.1 Fz U U.heap ∧ h Fz w U.heap)
/-- a contract of a method that throws nothing -/
def tm_Con {Wd : Type} (γ : tmG) (h : (Nat → Prop) → Wd → Heap → Prop) (M : tmM) (d mc ms : Nat) (As : List Value) (w : Wd) (post : Option Value → Wd → Prop) : Prop :=
  ∀ Fz : Nat → Prop, Met γ.1 M.1 (.code M.1 M.2.1 M.2.2.1 M.2.2.2 :: ALL) (tm_rm d mc ms) (tm_pc γ h Fz w As) (tm_qc h Fz post) mc ms (fun q => ¬ Fz q)
/-- .. of one that may throw -/
def tm_ConX {Wd : Type} (γ : tmG) (h : (Nat → Prop) → Wd → Heap → Prop) (M : tmM) (d mc ms : Nat) (As : List Value) (w : Wd) (post : Option Value → Wd → Prop) (xp : String → Wd → Prop) : Prop :=
  ∀ Fz : Nat → Prop, vx_Met γ.1 M.1 (.code M.1 M.2.1 M.2.2.1 M.2.2.2 :: ALL) (tm_rm d mc ms) (tm_pc γ h Fz w As) (tm_qc h Fz post) (tm_xc h Fz xp) mc ms (fun q => ¬ Fz q)
abbrev tm_Q (x : tmX) : State → Prop := x.1.2.2.2.2.2.2.2.2.2.2
abbrev tm_be (x : tmX) : List Frame := x.1.2.2.2.2.2.2.2.1
def tm_Rt {Wd : Type} (x : tmX) (h : (Nat → Prop) → Wd → Heap → Prop) (post : Option Value → Wd → Prop) : Prop :=
  tm_Q x = MQ (tm_be x) (tm_qc h (tm_Fz x) post) (tm_as x) (tm_st x) (tm_R x).cells (tm_R x).slots (fun q => ¬ tm_Fz x q)
def tm_RtX {Wd : Type} (x : tmX) (h : (Nat → Prop) → Wd → Heap → Prop) (post : Option Value → Wd → Prop) (xp : String → Wd → Prop) : Prop :=
  tm_Q x = vx_MQ (tm_be x) (tm_qc h (tm_Fz x) post) (tm_xc h (tm_Fz x) xp) (tm_as x) (tm_st x) (tm_R x).cells (tm_R x).slots (fun q => ¬ tm_Fz x q)
/-- what a body of a contract begins with -/
def tm_B (x : tmX) (γ : tmG) (M : tmM) (d mc ms : Nat) : Prop := tm_g x = γ ∧ tm_nL x = M.2.2.1 ∧ tm_R x = tm_rm d mc ms ∧ tm_C x M.2.1 M.1.cls M.2.2.2 ∧ (tm_me x).name = M.1.name
theorem tm_blind {Wd : Type} {γ : tmG} {h : (Nat → Prop) → Wd → Heap → Prop} {Fz : Nat → Prop} {w : Wd} {As : List Value} : FrameBlind (tm_pc γ h Fz w As) := by
  intro a U g mk hp
  obtain ⟨h1, h2, h3, h4⟩ := hp
  refine ⟨h1, ?_, ?_, h4⟩
  · exact tm_Et.warm (s := U) (U := U.calling g mk a) (State.WarmedH.refl U) h2
  · exact tm_Es.moved (s := U) (U := U.calling g mk a) (State.WarmedH.refl U).alike h3

theorem tm_con {Wd : Type} {γ : tmG} {h : (Nat → Prop) → Wd → Heap → Prop} {M : tmM} {d mc ms : Nat} {As : List Value} {w : Wd} {post : Option Value → Wd → Prop} (hst : γ.1.stackTraces = false) (hy : plainName M.1.cls = true) (hn : (lg_sl As).length ≤ M.2.2.1)
    (body : ∀ x : tmX, tm_B x γ M d mc ms → tm_Rt x h post → tm_V x (h (tm_Fz x) w) mc ms 0 (lv_args 0 As) []) : tm_Con γ h M d mc ms As w post := by
  intro Fz
  refine Met.ofW (cc := M.2.1) (maxL := M.2.2.1) (ret := M.2.2.2) hy rfl ?_
  intro p e s m args below meth c s₁ B hml hv
  obtain ⟨rfl, hEt, hEs, hG⟩ := hv
  have hts := atoms_spec (ws := .code M.1 M.2.1 M.2.2.1 M.2.2.2 :: ALL) B.pre
  have hown : s.vm.findClass M.1.cls = some m.cls := findClass_of_methodNamed B.named
  obtain ⟨l, D, T, e0, mi⟩ := γ
  have hb := body ((p, l, e, tm_rm d mc ms, s, m, As.toArray, below, meth, c, MQ below (tm_qc h Fz post) As.toArray s mc ms (fun q => ¬ Fz q)), D, T, e0, mi, Fz, M.2.2.1)
    ⟨rfl, rfl, rfl, ⟨B.exec, B.bytes, hml, hown, fun w hw => hts w (List.mem_cons_of_mem _ hw), B.notSynchronized, B.returns, hst, hEt, hEs⟩, (name_of_methodNamed B.named B.method).1⟩ rfl
  rw [lg_entry_eq]
  exact hb s.heap [] _ 0 0 (by show 0 + mc ≤ mc; omega) (by show 0 + ms ≤ ms; omega) va_S.rf hG (lv_entry As hn)
theorem tm_conX {Wd : Type} {γ : tmG} {h : (Nat → Prop) → Wd → Heap → Prop} {M : tmM} {d mc ms : Nat} {As : List Value} {w : Wd} {post : Option Value → Wd → Prop} {xp : String → Wd → Prop} (hst : γ.1.stackTraces = false) (hy : plainName M.1.cls = true) (hn : (lg_sl As).length ≤ M.2.2.1)
    (body : ∀ x : tmX, tm_B x γ M d mc ms → tm_RtX x h post xp → (∀ z ∈ (tm_c x).exceptionTable.toList, False) → tm_V x (h (tm_Fz x) w) mc ms 0 (lv_args 0 As) []) : tm_ConX γ h M d mc ms As w post xp := by
  intro Fz
  refine vx_ofW (cc := M.2.1) (maxL := M.2.2.1) (ret := M.2.2.2) hy rfl ?_
  intro p e s m args below meth c s₁ B hml hnt hv
  obtain ⟨rfl, hEt, hEs, hG⟩ := hv
  have hts := atoms_spec (ws := .code M.1 M.2.1 M.2.2.1 M.2.2.2 :: ALL) B.pre
  have hown : s.vm.findClass M.1.cls = some m.cls := findClass_of_methodNamed B.named
  obtain ⟨l, D, T, e0, mi⟩ := γ
  have hb := body ((p, l, e, tm_rm d mc ms, s, m, As.toArray, below, meth, c, vx_MQ below (tm_qc h Fz post) (tm_xc h Fz xp) As.toArray s mc ms (fun q => ¬ Fz q)), D, T, e0, mi, Fz, M.2.2.1)
    ⟨rfl, rfl, rfl, ⟨B.exec, B.bytes, hml, hown, fun w hw => hts w (List.mem_cons_of_mem _ hw), B.notSynchronized, B.returns, hst, hEt, hEs⟩, (name_of_methodNamed B.named B.method).1⟩ rfl hnt
  rw [lg_entry_eq]
  exact hb s.heap [] _ 0 0 (by show 0 + mc ≤ mc; omega) (by show 0 + ms ≤ ms; omega) va_S.rf hG (lv_entry As hn)
section TMR
variable {x : tmX} {cc : ByteArray} {own : String} {ret : Option FieldType} {b n pc : Nat} {L : List (Nat × Value)} {st : List Value} {Wd : Type} {h : (Nat → Prop) → Wd → Heap → Prop} {w : Wd} {post : Option Value → Wd → Prop} {xp : String → Wd → Prop}
theorem tm_end {v : Option Value} {vs : List Value} (hR : tm_Rt x h post) (hp : post v w)
    (k : ∀ (H : Heap) (locs : List Loc) (ls : Array Slot) (cells slots : Nat), (∀ t : State, t.heap = H → (tm_st x).WarmedH t.vm → tm_qc h (tm_Fz x) post (tm_as x) (tm_st x) (.returned v) t) → (∀ q ∈ locs, ¬ tm_Fz x q.base) → W x.1.1 x.1.2.1 x.1.2.2.1 (tm_R x) (tm_st x) (tm_m x) (tm_as x) (tm_be x) (tm_me x) (tm_c x) H locs cells slots (MQ (tm_be x) (tm_qc h (tm_Fz x) post) (tm_as x) (tm_st x) cells slots (fun q => ¬ tm_Fz x q)) (F0 (tm_m x) pc ls vs)) : tm_V x (h (tm_Fz x) w) b n pc L vs := by
  intro H locs ls cells slots h1 h2 hS hG hl
  show W _ _ _ _ _ _ _ _ _ _ H locs cells slots (tm_Q x) _
  rw [show tm_Q x = _ from hR]
  refine W.widen (k := (tm_R x).cells) (n := (tm_R x).slots) (by omega) (by omega) ?_
  exact k H locs ls _ _ (fun t ht hW => ⟨v, w, rfl, hp, by rw [ht]; exact hG, hS.F ht⟩) hS.2.2
theorem tm_endX {v : Option Value} {vs : List Value} (hR : tm_RtX x h post xp) (hp : post v w)
    (k : ∀ (H : Heap) (locs : List Loc) (ls : Array Slot) (cells slots : Nat), (∀ t : State, t.heap = H → (tm_st x).WarmedH t.vm → tm_qc h (tm_Fz x) post (tm_as x) (tm_st x) (.returned v) t) → (∀ q ∈ locs, ¬ tm_Fz x q.base) → W x.1.1 x.1.2.1 x.1.2.2.1 (tm_R x) (tm_st x) (tm_m x) (tm_as x) (tm_be x) (tm_me x) (tm_c x) H locs cells slots (MQ (tm_be x) (tm_qc h (tm_Fz x) post) (tm_as x) (tm_st x) cells slots (fun q => ¬ tm_Fz x q)) (F0 (tm_m x) pc ls vs)) : tm_V x (h (tm_Fz x) w) b n pc L vs := by
  intro H locs ls cells slots h1 h2 hS hG hl
  show W _ _ _ _ _ _ _ _ _ _ H locs cells slots (tm_Q x) _
  rw [show tm_Q x = _ from hR]
  refine W.widen (k := (tm_R x).cells) (n := (tm_R x).slots) (by omega) (by omega) ?_
  exact vx_ret (k H locs ls _ _ (fun t ht hW => ⟨v, w, rfl, hp, by rw [ht]; exact hG, hS.F ht⟩) hS.2.2)
theorem tm_iret {v : Int32} (hC : tm_C x cc own (some .int)) (hR : tm_Rt x h post) (hd : decode cc pc = .ok (.ireturn, 1)) (hp : post (some (.int v)) w) : tm_V x (h (tm_Fz x) w) b n pc L [.int v] :=
  tm_end hR hp (fun H locs ls cells slots hq hf => W.iret hC.1 hC.2.1 hC.2.2.2.2.2.2.1 hq hf hd hC.2.2.2.2.2.1)
theorem tm_zret {v : Int} (hC : tm_C x cc own (some .boolean)) (hR : tm_Rt x h post) (hd : decode cc pc = .ok (.ireturn, 1)) (hv : v = 0 ∨ v = 1) (hp : post (some (.int (I v))) w) : tm_V x (h (tm_Fz x) w) b n pc L [.int (I v)] :=
  tm_end hR hp (fun H locs ls cells slots hq hf => W.zret hC.1 hC.2.1 hC.2.2.2.2.2.2.1 (by rcases hv with rfl | rfl <;> rfl) hq hf hd hC.2.2.2.2.2.1)
theorem tm_lret {v : Int64} (hC : tm_C x cc own (some .long)) (hR : tm_Rt x h post) (hd : decode cc pc = .ok (.lreturn, 1)) (hp : post (some (.long v)) w) : tm_V x (h (tm_Fz x) w) b n pc L [.long v] :=
  tm_end hR hp (fun H locs ls cells slots hq hf => W.lret hC.1 hC.2.1 hC.2.2.2.2.2.2.1 hq hf hd hC.2.2.2.2.2.1)
theorem tm_dret {v : UInt64} (hC : tm_C x cc own (some .double)) (hR : tm_Rt x h post) (hd : decode cc pc = .ok (.dreturn, 1)) (hp : post (some (.double v)) w) : tm_V x (h (tm_Fz x) w) b n pc L [.double v] :=
  tm_end hR hp (fun H locs ls cells slots hq hf => W.dret hC.1 hC.2.1 hC.2.2.2.2.2.2.1 hq hf hd hC.2.2.2.2.2.1)
theorem tm_vret (hC : tm_C x cc own none) (hR : tm_Rt x h post) (hd : decode cc pc = .ok (.return_, 1)) (hp : post none w) : tm_V x (h (tm_Fz x) w) b n pc L [] :=
  tm_end hR hp (fun H locs ls cells slots hq hf => W.vret hC.1 hC.2.1 hC.2.2.2.2.2.2.1 hq hf hd hC.2.2.2.2.2.1)
theorem tm_aret {rt : FieldType} {a : Nat} (hC : tm_C x cc own (some rt)) (hR : tm_Rt x h post) (hrt : (∃ n, rt = .object n) ∨ ∃ t, rt = .array t) (hd : decode cc pc = .ok (.areturn, 1)) (hp : post (some (.ref a)) w) : tm_V x (h (tm_Fz x) w) b n pc L [.ref a] :=
  tm_end hR hp (fun H locs ls cells slots hq hf => W.aret hC.1 hC.2.1 hC.2.2.2.2.2.2.1 hrt (Or.inr ⟨a, rfl⟩) hq hf hd hC.2.2.2.2.2.1)
theorem tm_aretN {rt : FieldType} (hC : tm_C x cc own (some rt)) (hR : tm_Rt x h post) (hrt : (∃ n, rt = .object n) ∨ ∃ t, rt = .array t) (hd : decode cc pc = .ok (.areturn, 1)) (hp : post (some .null) w) : tm_V x (h (tm_Fz x) w) b n pc L [.null] :=
  tm_end hR hp (fun H locs ls cells slots hq hf => W.aret hC.1 hC.2.1 hC.2.2.2.2.2.2.1 hrt (Or.inl rfl) hq hf hd hC.2.2.2.2.2.1)
theorem tm_iretX {v : Int32} (hC : tm_C x cc own (some .int)) (hR : tm_RtX x h post xp) (hd : decode cc pc = .ok (.ireturn, 1)) (hp : post (some (.int v)) w) : tm_V x (h (tm_Fz x) w) b n pc L [.int v] :=
  tm_endX hR hp (fun H locs ls cells slots hq hf => W.iret hC.1 hC.2.1 hC.2.2.2.2.2.2.1 hq hf hd hC.2.2.2.2.2.1)
theorem tm_zretX {v : Int} (hC : tm_C x cc own (some .boolean)) (hR : tm_RtX x h post xp) (hd : decode cc pc = .ok (.ireturn, 1)) (hv : v = 0 ∨ v = 1) (hp : post (some (.int (I v))) w) : tm_V x (h (tm_Fz x) w) b n pc L [.int (I v)] :=
  tm_endX hR hp (fun H locs ls cells slots hq hf => W.zret hC.1 hC.2.1 hC.2.2.2.2.2.2.1 (by rcases hv with rfl | rfl <;> rfl) hq hf hd hC.2.2.2.2.2.1)
theorem tm_lretX {v : Int64} (hC : tm_C x cc own (some .long)) (hR : tm_RtX x h post xp) (hd : decode cc pc = .ok (.lreturn, 1)) (hp : post (some (.long v)) w) : tm_V x (h (tm_Fz x) w) b n pc L [.long v] :=
  tm_endX hR hp (fun H locs ls cells slots hq hf => W.lret hC.1 hC.2.1 hC.2.2.2.2.2.2.1 hq hf hd hC.2.2.2.2.2.1)
theorem tm_dretX {v : UInt64} (hC : tm_C x cc own (some .double)) (hR : tm_RtX x h post xp) (hd : decode cc pc = .ok (.dreturn, 1)) (hp : post (some (.double v)) w) : tm_V x (h (tm_Fz x) w) b n pc L [.double v] :=
  tm_endX hR hp (fun H locs ls cells slots hq hf => W.dret hC.1 hC.2.1 hC.2.2.2.2.2.2.1 hq hf hd hC.2.2.2.2.2.1)
theorem tm_vretX (hC : tm_C x cc own none) (hR : tm_RtX x h post xp) (hd : decode cc pc = .ok (.return_, 1)) (hp : post none w) : tm_V x (h (tm_Fz x) w) b n pc L [] :=
  tm_endX hR hp (fun H locs ls cells slots hq hf => W.vret hC.1 hC.2.1 hC.2.2.2.2.2.2.1 hq hf hd hC.2.2.2.2.2.1)
theorem tm_aretX {rt : FieldType} {a : Nat} (hC : tm_C x cc own (some rt)) (hR : tm_RtX x h post xp) (hrt : (∃ n, rt = .object n) ∨ ∃ t, rt = .array t) (hd : decode cc pc = .ok (.areturn, 1)) (hp : post (some (.ref a)) w) : tm_V x (h (tm_Fz x) w) b n pc L [.ref a] :=
  tm_endX hR hp (fun H locs ls cells slots hq hf => W.aret hC.1 hC.2.1 hC.2.2.2.2.2.2.1 hrt (Or.inr ⟨a, rfl⟩) hq hf hd hC.2.2.2.2.2.1)
theorem tm_aretNX {rt : FieldType} (hC : tm_C x cc own (some rt)) (hR : tm_RtX x h post xp) (hrt : (∃ n, rt = .object n) ∨ ∃ t, rt = .array t) (hd : decode cc pc = .ok (.areturn, 1)) (hp : post (some .null) w) : tm_V x (h (tm_Fz x) w) b n pc L [.null] :=
  tm_endX hR hp (fun H locs ls cells slots hq hf => W.aret hC.1 hC.2.1 hC.2.2.2.2.2.2.1 hrt (Or.inl rfl) hq hf hd hC.2.2.2.2.2.1)
/-- behind a call -/
theorem tm_run {mc ms : Nat} {a : Array Value} {rest st0 : List Value}
    (hr : ∀ (H : Heap) (locs : List Loc) (ls : Array Slot) (cells slots : Nat), cells + mc ≤ (tm_R x).cells → slots + ms ≤ (tm_R x).slots → va_S (fun q => ¬ tm_Fz x q) (tm_st x).heap H locs → h (tm_Fz x) w H → ls.size = tm_nL x → va_Run x.1.1 x.1.2.1 x.1.2.2.1 (tm_R x) (tm_st x) (tm_m x) (tm_as x) (tm_be x) (tm_me x) (tm_c x) H locs cells slots mc ms (F0 (tm_m x) pc ls st0) rest (tm_qc h (tm_Fz x) post a) (fun q => ¬ tm_Fz x q))
    (k : ∀ (v : Option Value) (w' : Wd), post v w' → tm_V x (h (tm_Fz x) w') b n (pc + 3) L (v.toList ++ rest)) : tm_V x (h (tm_Fz x) w) (mc + b) (ms + n) pc L st0 := by
  intro H locs ls cells slots h1 h2 hS hG hl T hT X
  obtain ⟨v, st₀, t, T', Lc, h0, X', hLc, e1, e2, ⟨v', w', hv, hp, hh, hF⟩, hgo⟩ := hr H locs ls cells slots (by omega) (by omega) hS hG hl.1 T hT X
  cases hv
  obtain ⟨hz, hk, hS'⟩ := vx_keep h0 e1 hS (fun q _ hq => hq) (fun q hq => hq) hLc hF
  obtain ⟨t2, a1, b1⟩ := k v w' hp T'.heap (locs ++ Lc) ls (cells + mc) (slots + ms) (by omega) (by omega) hS' (by rw [e1]; exact hh) hl T' rfl X'
  exact ⟨t2, hgo t2 a1, b1⟩
/-- what the tables say of a call -/
def tm_kv (own : String) (idx : Nat) (M : tmM) (n : Nat) : Prop := Cond.methodLink own idx M.1 ∈ ALL ∧ Cond.instanceMethod M.1 ∈ ALL ∧ Cond.selects M.1.cls M.1 M.1 ∈ ALL ∧ Cond.initialized M.1.cls ∈ ALL ∧ Cond.code M.1 M.2.1 M.2.2.1 M.2.2.2 ∈ ALL ∧ (M.1.cls ≠ "java/lang/invoke/MethodHandle" ∧ M.1.cls ≠ "java/lang/invoke/VarHandle") ∧ (parseMethodDescriptor M.1.desc).map (fun d => d.parameters.length) = some n
def tm_kn (own : String) (idx : Nat) (M : tmM) (n : Nat) : Prop := (∃ host, Cond.methodLinkNest own idx M.1 host ∈ NW) ∧ Cond.instanceMethod M.1 ∈ ALL ∧ Cond.selects M.1.cls M.1 M.1 ∈ ALL ∧ Cond.initialized M.1.cls ∈ ALL ∧ Cond.code M.1 M.2.1 M.2.2.1 M.2.2.2 ∈ ALL ∧ (M.1.cls ≠ "java/lang/invoke/MethodHandle" ∧ M.1.cls ≠ "java/lang/invoke/VarHandle") ∧ (parseMethodDescriptor M.1.desc).map (fun d => d.parameters.length) = some n
def tm_ks (own : String) (idx : Nat) (M : tmM) (n : Nat) : Prop := Cond.methodLink own idx M.1 ∈ ALL ∧ Cond.static M.1 ∈ ALL ∧ True ∧ Cond.initialized M.1.cls ∈ ALL ∧ Cond.code M.1 M.2.1 M.2.2.1 M.2.2.2 ∈ ALL ∧ (M.1.cls ≠ "java/lang/invoke/MethodHandle" ∧ M.1.cls ≠ "java/lang/invoke/VarHandle") ∧ (parseMethodDescriptor M.1.desc).map (fun d => d.parameters.length) = some n
def tm_ki (own : String) (idx : Nat) (M : tmM) (n : Nat) : Prop := Cond.methodLink own idx M.1 ∈ ALL ∧ Cond.instanceMethod M.1 ∈ ALL ∧ (M.1.name = "<init>" ∧ M.2.2.2 = none) ∧ Cond.initialized M.1.cls ∈ ALL ∧ Cond.code M.1 M.2.1 M.2.2.1 M.2.2.2 ∈ ALL ∧ (M.1.cls ≠ "java/lang/invoke/MethodHandle" ∧ M.1.cls ≠ "java/lang/invoke/VarHandle") ∧ (parseMethodDescriptor M.1.desc).map (fun d => d.parameters.length) = some n
def tm_kin (own : String) (idx : Nat) (M : tmM) (n : Nat) : Prop := (∃ host, Cond.methodLinkNest own idx M.1 host ∈ NW) ∧ Cond.instanceMethod M.1 ∈ ALL ∧ (M.1.name = "<init>" ∧ M.2.2.2 = none) ∧ Cond.initialized M.1.cls ∈ ALL ∧ Cond.code M.1 M.2.1 M.2.2.1 M.2.2.2 ∈ ALL ∧ (M.1.cls ≠ "java/lang/invoke/MethodHandle" ∧ M.1.cls ≠ "java/lang/invoke/VarHandle") ∧ (parseMethodDescriptor M.1.desc).map (fun d => d.parameters.length) = some n
theorem tm_good {w : Cond} {ws : List Cond} {s : State} {args : Array Value} (hts : ∀ w ∈ ALL, w.before args s = true) (hc : w ∈ ALL) (hw : ∀ z ∈ ws, z = w ∨ z ∈ ALL) : ∀ z ∈ ws, ∀ (a' : Array Value) (U : State), s.WarmedH U.vm → z.before a' U = true := by
  intro z hz a' U hW
  have hm : z ∈ ALL := by rcases hw z hz with h | h; rw [h]; exact hc; exact h
  exact word_at hW (good_of_word (List.mem_filter.mp hm).2) (hts z hm)
theorem tm_callB {idx nn mc ms d : Nat} {M : tmM} {y2 : Prop} (hC : tm_C x cc own ret) (hk : Cond.methodLink own idx M.1 ∈ ALL ∧ y2 ∧ Cond.initialized M.1.cls ∈ ALL ∧ Cond.code M.1 M.2.1 M.2.2.1 M.2.2.2 ∈ ALL ∧ (M.1.cls ≠ "java/lang/invoke/MethodHandle" ∧ M.1.cls ≠ "java/lang/invoke/VarHandle") ∧ (parseMethodDescriptor M.1.desc).map (fun d => d.parameters.length) = some nn) (hd : d + 1 ≤ (tm_R x).frames ∧ 19 + M.2.2.1 + 64 * d ≤ (tm_R x).locals) :
    CallB (tm_R x) (tm_st x) (tm_as x) own idx M.1 M.2.1 M.2.2.1 M.2.2.2 (.code M.1 M.2.1 M.2.2.1 M.2.2.2 :: ALL) (tm_rm d mc ms) mc ms nn := by
  obtain ⟨k1, k2, k3, k4, k5, k6⟩ := hk
  refine ⟨rfl, rfl, hd.1, by show 8 + (M.2.2.1 + 11) + 64 * d ≤ _; omega, tm_good hC.2.2.2.2.1 k4 (fun z hz => List.mem_cons.mp hz), List.mem_cons_self, hC.2.2.2.2.1 _ k4, hC.2.2.2.2.1 _ k3, k5, fun sig hs => ?_, hC.2.2.2.2.1 _ k1⟩
  rw [hs] at k6
  exact (Option.some.inj k6).symm
theorem tm_callN {idx nn mc ms d : Nat} {M : tmM} {y2 : Prop} {host : String} (hC : tm_C x cc own ret) (hk : Cond.methodLinkNest own idx M.1 host ∈ NW ∧ y2 ∧ Cond.initialized M.1.cls ∈ ALL ∧ Cond.code M.1 M.2.1 M.2.2.1 M.2.2.2 ∈ ALL ∧ (M.1.cls ≠ "java/lang/invoke/MethodHandle" ∧ M.1.cls ≠ "java/lang/invoke/VarHandle") ∧ (parseMethodDescriptor M.1.desc).map (fun d => d.parameters.length) = some nn) (hd : d + 1 ≤ (tm_R x).frames ∧ 19 + M.2.2.1 + 64 * d ≤ (tm_R x).locals) :
    va_CN (tm_R x) (tm_st x) (tm_as x) own idx M.1 host M.2.1 M.2.2.1 M.2.2.2 (.code M.1 M.2.1 M.2.2.1 M.2.2.2 :: ALL) (tm_rm d mc ms) mc ms nn := by
  obtain ⟨k1, k2, k3, k4, k5, k6⟩ := hk
  refine ⟨⟨rfl, rfl, hd.1, by show 8 + (M.2.2.1 + 11) + 64 * d ≤ _; omega, tm_good hC.2.2.2.2.1 k4 (fun z hz => List.mem_cons.mp hz), List.mem_cons_self⟩, hC.2.2.2.2.1 _ k4, hC.2.2.2.2.1 _ k3, k5, fun sig hs => ?_, va_Nw.use rfl (tm_CN hC k1)⟩
  rw [hs] at k6
  exact (Option.some.inj k6).symm
theorem tm_pre {As : List Value} {H : Heap} (hC : tm_C x cc own ret) {locs : List Loc} (hS : va_S (fun q => ¬ tm_Fz x q) (tm_st x).heap H locs) (hG : h (tm_Fz x) w H) : ∀ U : State, U.heap = H → (tm_st x).WarmedH U.vm → tm_pc (tm_g x) h (tm_Fz x) w As As.toArray U :=
  fun U hU hW => ⟨rfl, hC.2.2.2.2.2.2.2.2.1.warm hW, by rw [hU]; exact (tm_CE hC hS).moved hW.alike, by rw [hU]; exact hG⟩
theorem tm_fix (hC : tm_C x cc own ret) : CallFix x.1.1 (tm_m x) (tm_c x) cc (tm_nL x) (tm_st x) (tm_as x) ALL own := ⟨hC.1, hC.2.1, hC.2.2.1, hC.2.2.2.1, hC.2.2.2.2.1⟩
theorem tm_callV {idx nn d mc ms : Nat} {M : tmM} {a : Nat} {As rest st0 : List Value} (hC : tm_C x cc own ret) (hM : tm_Con (tm_g x) h M d mc ms (.ref a :: As) w post) (hk : tm_kv own idx M nn) (hd : d + 1 ≤ (tm_R x).frames ∧ 19 + M.2.2.1 + 64 * d ≤ (tm_R x).locals) (hn : As.length = nn) (hrec : ∀ H, h (tm_Fz x) w H → ∃ cell : Cell, H[a]? = some cell ∧ cell.vm.isStatics = false ∧ (tm_st x).vm.findClass M.1.cls = some cell.cls) (hs0 : st0 = As.reverse ++ .ref a :: rest) (hw8 : (rest.map fun v => v.category).sum ≤ 8) (hdg : decode cc pc = .ok (.invokevirtual idx, 3))
    (k : ∀ (v : Option Value) (w' : Wd), post v w' → tm_V x (h (tm_Fz x) w') b n (pc + 3) L (v.toList ++ rest)) : tm_V x (h (tm_Fz x) w) (mc + b) (ms + n) pc L st0 := by
  have cw := And.intro (tm_callB (mc := mc) (ms := ms) (d := d) (y2 := True) hC ⟨hk.1, trivial, hk.2.2.2⟩ hd) (And.intro (hC.2.2.2.2.1 _ hk.2.1) (hC.2.2.2.2.1 _ hk.2.2.1))
  refine tm_run (a := (.ref a :: As).toArray) (fun H locs ls cells slots h1 h2 hS hG hsz => ?_) k
  exact va_runV (tm_fix hC) (hM (tm_Fz x)) cw ⟨tm_blind, hrec H hG, fun U hU hW => tm_pre hC hS hG U hU hW⟩ rfl hn hsz hs0 (lv_room hw8) hdg ⟨h1, h2⟩
theorem tm_callVN {idx nn d mc ms : Nat} {M : tmM} {a : Nat} {As rest st0 : List Value} (hC : tm_C x cc own ret) (hM : tm_Con (tm_g x) h M d mc ms (.ref a :: As) w post) (hk : tm_kn own idx M nn) (hd : d + 1 ≤ (tm_R x).frames ∧ 19 + M.2.2.1 + 64 * d ≤ (tm_R x).locals) (hn : As.length = nn) (hrec : ∀ H, h (tm_Fz x) w H → ∃ cell : Cell, H[a]? = some cell ∧ cell.vm.isStatics = false ∧ (tm_st x).vm.findClass M.1.cls = some cell.cls) (hs0 : st0 = As.reverse ++ .ref a :: rest) (hw8 : (rest.map fun v => v.category).sum ≤ 8) (hdg : decode cc pc = .ok (.invokevirtual idx, 3))
    (k : ∀ (v : Option Value) (w' : Wd), post v w' → tm_V x (h (tm_Fz x) w') b n (pc + 3) L (v.toList ++ rest)) : tm_V x (h (tm_Fz x) w) (mc + b) (ms + n) pc L st0 := by
  obtain ⟨host, hk1⟩ := hk.1
  have cw := And.intro (tm_callN (mc := mc) (ms := ms) (d := d) (y2 := True) hC ⟨hk1, trivial, hk.2.2.2⟩ hd) (And.intro (hC.2.2.2.2.1 _ hk.2.1) (hC.2.2.2.2.1 _ hk.2.2.1))
  refine tm_run (a := (.ref a :: As).toArray) (fun H locs ls cells slots h1 h2 hS hG hsz => ?_) k
  exact va_runVN (tm_fix hC) (hM (tm_Fz x)) cw ⟨tm_blind, hrec H hG, fun U hU hW => tm_pre hC hS hG U hU hW⟩ rfl hn hsz hs0 (lv_room hw8) hdg ⟨h1, h2⟩
theorem tm_callS {idx nn d mc ms : Nat} {M : tmM} {As rest st0 : List Value} (hC : tm_C x cc own ret) (hM : tm_Con (tm_g x) h M d mc ms (As) w post) (hk : tm_ks own idx M nn) (hd : d + 1 ≤ (tm_R x).frames ∧ 19 + M.2.2.1 + 64 * d ≤ (tm_R x).locals) (hn : As.length = nn) (hs0 : st0 = As.reverse ++ rest) (hw8 : (rest.map fun v => v.category).sum ≤ 8) (hdg : decode cc pc = .ok (.invokestatic idx, 3))
    (k : ∀ (v : Option Value) (w' : Wd), post v w' → tm_V x (h (tm_Fz x) w') b n (pc + 3) L (v.toList ++ rest)) : tm_V x (h (tm_Fz x) w) (mc + b) (ms + n) pc L st0 := by
  have cw := And.intro (tm_callB (mc := mc) (ms := ms) (d := d) (y2 := True) hC ⟨hk.1, trivial, hk.2.2.2⟩ hd) (hC.2.2.2.2.1 _ hk.2.1)
  refine tm_run (a := (As).toArray) (fun H locs ls cells slots h1 h2 hS hG hsz => ?_) k
  exact va_runS (tm_fix hC) (hM (tm_Fz x)) cw ⟨tm_blind, fun U hU hW => tm_pre hC hS hG U hU hW⟩ rfl hn hsz hs0 (lv_room hw8) hdg ⟨h1, h2⟩
theorem tm_callI {idx nn d mc ms : Nat} {M : tmM} {a : Nat} {As rest st0 : List Value} (hC : tm_C x cc own ret) (hM : tm_Con (tm_g x) h M d mc ms (.ref a :: As) w post) (hk : tm_ki own idx M nn) (hd : d + 1 ≤ (tm_R x).frames ∧ 19 + M.2.2.1 + 64 * d ≤ (tm_R x).locals) (hn : As.length = nn) (hs0 : st0 = As.reverse ++ .ref a :: rest) (hw8 : (rest.map fun v => v.category).sum ≤ 8) (hdg : decode cc pc = .ok (.invokespecial idx, 3))
    (k : ∀ (v : Option Value) (w' : Wd), post v w' → tm_V x (h (tm_Fz x) w') b n (pc + 3) L (v.toList ++ rest)) : tm_V x (h (tm_Fz x) w) (mc + b) (ms + n) pc L st0 := by
  obtain ⟨y, bytes, maxL, rt⟩ := M
  obtain ⟨k1, k2, ⟨k3, k4⟩, k5⟩ := hk
  dsimp only at k4
  subst k4
  have cw := And.intro (tm_callB (mc := mc) (ms := ms) (d := d) (y2 := True) (M := (y, bytes, maxL, none)) hC ⟨k1, trivial, k5⟩ hd) (And.intro k3 (hC.2.2.2.2.1 _ k2))
  refine tm_run (a := (.ref a :: As).toArray) (fun H locs ls cells slots h1 h2 hS hG hsz => ?_) k
  exact va_runI (tm_fix hC) (hM (tm_Fz x)) cw ⟨tm_blind, fun U hU hW => tm_pre hC hS hG U hU hW⟩ rfl hn hsz hs0 (lv_room hw8) hdg ⟨h1, h2⟩
theorem tm_callIN {idx nn d mc ms : Nat} {M : tmM} {a : Nat} {As rest st0 : List Value} (hC : tm_C x cc own ret) (hM : tm_Con (tm_g x) h M d mc ms (.ref a :: As) w post) (hk : tm_kin own idx M nn) (hd : d + 1 ≤ (tm_R x).frames ∧ 19 + M.2.2.1 + 64 * d ≤ (tm_R x).locals) (hn : As.length = nn) (hs0 : st0 = As.reverse ++ .ref a :: rest) (hw8 : (rest.map fun v => v.category).sum ≤ 8) (hdg : decode cc pc = .ok (.invokespecial idx, 3))
    (k : ∀ (v : Option Value) (w' : Wd), post v w' → tm_V x (h (tm_Fz x) w') b n (pc + 3) L (v.toList ++ rest)) : tm_V x (h (tm_Fz x) w) (mc + b) (ms + n) pc L st0 := by
  obtain ⟨y, bytes, maxL, rt⟩ := M
  obtain ⟨⟨host, k1⟩, k2, ⟨k3, k4⟩, k5⟩ := hk
  dsimp only at k4
  subst k4
  have cw := And.intro (tm_callN (mc := mc) (ms := ms) (d := d) (y2 := True) (M := (y, bytes, maxL, none)) hC ⟨k1, trivial, k5⟩ hd) (And.intro k3 (hC.2.2.2.2.1 _ k2))
  refine tm_run (a := (.ref a :: As).toArray) (fun H locs ls cells slots h1 h2 hS hG hsz => ?_) k
  exact va_runIN (tm_fix hC) (hM (tm_Fz x)) cw ⟨tm_blind, fun U hU hW => tm_pre hC hS hG U hU hW⟩ rfl hn hsz hs0 (lv_room hw8) hdg ⟨h1, h2⟩
end TMR
end
section
/-! Heap rows over the plain world. -/
abbrev tm_G (x : tmX) (Ω : tmO) : Heap → Prop := tm_hol (tm_D x) (tm_Fz x) Ω
def tm_f (own : String) (idx ci k : Nat) : Prop := ∃ (C ref : String) (T : u_T) (N : Nat), classes[ci]? = some (C, T, N) ∧ (∀ w ∈ u_ws C T N, w ∈ ALL) ∧ k < N ∧ (Cond.fieldLink own idx ref (T k).2.1 (T k).2.2.1 ∈ ALL ∨ ∃ host, Cond.fieldLinkNest own idx ref (T k).2.1 (T k).2.2.1 host ∈ NW) ∧ ((T k).1 = ref ∨ Cond.sameField ref (T k).1 (T k).2.1 (T k).2.2.1 ∈ ALL)
def tm_tt (ci k : Nat) (fin : Bool) (own : String) (v : Value) : Prop := ∀ (C : String) (T : u_T) (N : Nat), classes[ci]? = some (C, T, N) → (∃ ty0 : Nat → FieldType, ∀ k, k < N → parseFieldDescriptor (T k).2.2.1 = some (ty0 k)) ∧ (∀ a, a < N → ∀ b, b < N → a ≠ b → (T a).2.1 ≠ (T b).2.1) ∧ (T k).2.2.2 = fin ∧ (fin = true → (T k).1 = own) ∧ ∃ ty : FieldType, parseFieldDescriptor (T k).2.2.1 = some ty ∧ narrow ty v = v ∧ fits ty v = true
/-- a new object: its class, its blank fields -/
def tm_nw9 (own : String) (idx ci : Nat) (fs : List Value) : Prop := ∃ (C : String) (T : u_T) (N : Nat) (ty : Nat → FieldType), classes[ci]? = some (C, T, N) ∧ (∀ w ∈ u_ws C T N, w ∈ ALL) ∧ (∀ k, k < N → parseFieldDescriptor (T k).2.2.1 = some (ty k)) ∧ Cond.classLink own idx C ∈ ALL ∧ Cond.instantiable C N ∈ ALL ∧ Cond.initialized C ∈ ALL ∧ fs.length = N ∧ ∀ j, j < N → defaultValue (ty j) = vp_V fs j
def tm_ai (T : ClassId × ClassId × ClassId × ClassId) (n : Nat) (g : Int → Int) : va_E := .inl (T.1, n, .inl (fun j => I (g j)))
def tm_az (T : ClassId × ClassId × ClassId × ClassId) (n : Nat) (g : Int → Int) : va_E := .inl (T.2.1, n, .inl (fun j => I (g j)))
def tm_al (T : ClassId × ClassId × ClassId × ClassId) (n : Nat) (g : Nat → Int64) : va_E := .inl (T.2.2.1, n, .inr (.inl g))
def tm_ao (T : ClassId × ClassId × ClassId × ClassId) (n : Nat) (g : Nat → Option Nat) : va_E := .inl (T.2.2.2, n, .inr (.inr (.inr (.inr g))))
def tm_ui (g : Int → Int) (i v : Int) : Int → Int := fun j => if j = i then v else g j
theorem tm_ui_s {g : Int → Int} {i v : Int} : tm_ui g i v i = v := if_pos rfl
theorem tm_ui_n {g : Int → Int} {i j v : Int} (h : j ≠ i) : tm_ui g i v j = g j := if_neg h
theorem tm_upd {g : Int → Int} {i v : Int} (hi : 0 ≤ i) : upd (fun j : Nat => I (g j)) i.toNat (I v) = fun j : Nat => I (tm_ui g i v j) := by
  funext j
  by_cases h : j = i.toNat
  · subst h
    rw [show ((i.toNat : Nat) : Int) = i by omega, tm_ui_s]
    exact pk_us
  · rw [tm_ui_n (by omega)]
    exact pk_un h
section TMH
variable {x : tmX} {cc : ByteArray} {own : String} {ret : Option FieldType} {b n pc : Nat} {L : List (Nat × Value)} {st : List Value} {Ω : tmO} {a : Nat}
theorem tm_same {ref o nm d : String} (hC : tm_C x cc own ret) (h : o = ref ∨ Cond.sameField ref o nm d ∈ ALL) : ∀ z, (tm_st x).fieldFound? o nm d = some z → (tm_st x).fieldFound? ref nm d = some z := by
  intro z hz
  rcases h with h | h
  · rw [← h]; exact hz
  · exact u_same (tm_CW hC h) z hz
theorem tm_getf1 {idx ci k : Nat} {fs : List Value} {v : Value} (hC : tm_C x cc own ret) (hf : tm_f own idx ci k) (ha : Ω a = some (.inr (ci, fs))) (hv : fs[k]? = some v) (hd : decode cc pc = .ok (.getfield idx, 3)) (kk : tm_V x (tm_G x Ω) b n (pc + 3) L (v :: st)) : tm_V x (tm_G x Ω) b n pc L (.ref a :: st) := by
  intro H locs ls cells slots h1 h2 hS hG hl
  obtain ⟨C, ref, T, N, hc, hin, hk, hlk, hsm⟩ := hf
  have kk := kk H locs ls cells slots h1 h2 hS hG hl
  obtain ⟨Lw, hL, hP, hD⟩ := hG
  obtain ⟨q0, hq⟩ := tm_hol_get hL ha
  rcases hlk with hlk | ⟨host, hlk⟩
  · exact va_get hC.1 hC.2.1 hC.2.2.2.2.1 hin hC.2.2.2.1 (tm_CK hC) hP q0 hq hc k hk (tm_CW hC hlk) (tm_same hC hsm) hv hd kk
  · exact va_getN hC.1 hC.2.1 hC.2.2.2.2.1 hin hC.2.2.2.1 (tm_CK hC) hP q0 hq hc k hk (va_Nw.use rfl (tm_CN hC hlk)) (tm_same hC hsm) hv hd kk
theorem tm_putf1 {idx ci k : Nat} {fs : List Value} {v : Value} (hC : tm_C x cc own ret) (hf : tm_f own idx ci k) (ha : Ω a = some (.inr (ci, fs))) (ht : tm_tt ci k false own v) (hl9 : k < fs.length) (hd : decode cc pc = .ok (.putfield idx, 3)) (kk : tm_V x (tm_G x (tm_up Ω a (.inr (ci, fs.set k v)))) b n (pc + 3) L st) : tm_V x (tm_G x Ω) b n pc L (v :: .ref a :: st) := by
  intro H locs ls cells slots h1 h2 hS hG hl
  obtain ⟨C, ref, T, N, hc, hin, hk, hlk, hsm⟩ := hf
  obtain ⟨⟨ty0, hty⟩, hnm, hfin, -, ty, hpd, hnar, hfit⟩ := ht C T N hc
  obtain ⟨Lw, hL, hP, hD⟩ := hG
  obtain ⟨q0, hq⟩ := tm_hol_get hL ha
  rcases hlk with hlk | ⟨host, hlk⟩
  · exact va_put hC.1 hC.2.1 hC.2.2.2.2.1 hin ty0 hty hnm hC.2.2.2.1 (tm_CK hC) hP hD hS q0 hq hc k hk (tm_CW hC hlk) (tm_same hC hsm) hfin hpd hnar hfit hl9 hd (fun H1 locs1 hP1 hD1 hS1 => kk H1 locs1 ls cells slots h1 h2 hS1 (tm_hol_set hL hD hq hP1 hD1) hl)
  · exact va_putN hC.1 hC.2.1 hC.2.2.2.2.1 hin ty0 hty hnm hC.2.2.2.1 (tm_CK hC) hP hD hS q0 hq hc k hk (va_Nw.use rfl (tm_CN hC hlk)) (tm_same hC hsm) hfin hpd hnar hfit hl9 hd (fun H1 locs1 hP1 hD1 hS1 => kk H1 locs1 ls cells slots h1 h2 hS1 (tm_hol_set hL hD hq hP1 hD1) hl)
theorem tm_putfF1 {idx ci k : Nat} {fs : List Value} {v : Value} (hC : tm_C x cc own ret) (hin2 : (tm_me x).name = "<init>") (hf : tm_f own idx ci k) (ha : Ω a = some (.inr (ci, fs))) (ht : tm_tt ci k true own v) (hl9 : k < fs.length) (hd : decode cc pc = .ok (.putfield idx, 3)) (hnn : ∃ (C ref : String) (T : u_T) (N : Nat), classes[ci]? = some (C, T, N) ∧ Cond.fieldLink own idx ref (T k).2.1 (T k).2.2.1 ∈ ALL ∧ (T k).1 = ref) (kk : tm_V x (tm_G x (tm_up Ω a (.inr (ci, fs.set k v)))) b n (pc + 3) L st) : tm_V x (tm_G x Ω) b n pc L (v :: .ref a :: st) := by
  intro H locs ls cells slots h1 h2 hS hG hl
  obtain ⟨C, ref, T, N, hc, hin, hk, -, -⟩ := hf
  obtain ⟨C2, ref2, T2, N2, hc2, hlk, hsm⟩ := hnn
  cases Option.some.inj (hc.symm.trans hc2)
  obtain ⟨⟨ty0, hty⟩, hnm, hfin, hown, ty, hpd, hnar, hfit⟩ := ht C T N hc
  obtain ⟨Lw, hL, hP, hD⟩ := hG
  obtain ⟨q0, hq⟩ := tm_hol_get hL ha
  exact va_putF hC.1 hC.2.1 hC.2.2.2.2.1 hin ty0 hty hnm hC.2.2.2.1 (tm_CK hC) hP hD hS q0 hq hc k hk (tm_CW hC hlk) (tm_same hC (Or.inl hsm)) hfin hin2 (hown rfl) hpd hnar hfit hl9 hd (fun H1 locs1 hP1 hD1 hS1 => kk H1 locs1 ls cells slots h1 h2 hS1 (tm_hol_set hL hD hq hP1 hD1) hl)
theorem tm_lt0 {H : Heap} {locs : List Loc} (hC : tm_C x cc own ret) : ∀ q, (tm_st x).heap.size ≤ q → ¬ tm_Fz x q := fun q h z => absurd (hC.2.2.2.2.2.2.2.2.2.2.2.2.2.2 q z) (by omega)
theorem tm_new1 {idx ci : Nat} {fs : List Value} (hC : tm_C x cc own ret) (hnw : tm_nw9 own idx ci fs) (hd : decode cc pc = .ok (.new idx, 3)) (kk : ∀ q, Ω q = none → tm_V x (tm_G x (tm_up Ω q (.inr (ci, fs)))) b n (pc + 3) L (.ref q :: st)) : tm_V x (tm_G x Ω) (1 + b) (fs.length + n) pc L st := by
  intro H locs ls cells slots h1 h2 hS hG hl
  obtain ⟨C, T, N, ty, hc, hin, hty, hcl, hins, hini, hN, hfs⟩ := hnw
  subst hN
  obtain ⟨Lw, hL, hP, hD⟩ := hG
  refine va_new hC.1 hC.2.1 hC.2.2.2.2.1 hin ty hty hC.2.2.2.1 (tm_CW hC hcl) (tm_CW hC hins) (tm_CW hC hini) (tm_CK hC) hP hD hS (tm_lt0 (H := H) (locs := locs) hC) hc hfs (by show cells + 1 ≤ (tm_R x).cells; omega) (by show slots + _ ≤ (tm_R x).slots; omega) hd (fun q H1 hP1 hD1 hS1 => ?_)
  obtain ⟨hh, hn⟩ := tm_hol_push hL hP1 hD1
  exact kk q hn H1 locs ls _ _ (by omega) (by omega) hS1 hh hl
theorem tm_newi1 {k : Int} (hC : tm_C x cc own ret) (hk : 0 ≤ k ∧ k ≤ 100000) (hw : Cond.arrayClass .int ∈ ALL) (hd : decode cc pc = .ok (.newarray .int, 2)) (kk : ∀ q, Ω q = none → tm_V x (tm_G x (tm_up Ω q (tm_ai (tm_T x) k.toNat (fun _ => 0)))) b n (pc + 2) L (.ref q :: st)) : tm_V x (tm_G x Ω) (1 + b) (k.toNat + n) pc L (.int (I k) :: st) := by
  intro H locs ls cells slots h1 h2 hS hG hl
  obtain ⟨Lw, hL, hP, hD⟩ := hG
  refine va_newa (atype := .int) (ty := .int) (a0 := (k.toNat, .inl (fun _ => I 0))) hC.1 hC.2.1 (tm_CW hC hw) rfl (tm_CK hC) hP hD hS (tm_lt0 (H := H) (locs := locs) hC) (fun _ => rfl) (by rw [show (0 : Int32) = I 0 from rfl, I_lt (by omega)]; omega) (I_nat (by omega)) (by show k.toNat * 4 ≤ _; omega) (by show cells + 1 ≤ (tm_R x).cells; omega) (by show slots + _ ≤ (tm_R x).slots; omega) hd (fun q cA H1 hK1 hP1 hD1 hS1 => ?_)
  have hcA : cA = (tm_T x).1 := by
    have e1 := (hK1.2 4 _ rfl).2
    have e2 := ((tm_CK hC).2 0 _ rfl).2
    exact Option.some.inj (e1.symm.trans e2)
  subst hcA
  obtain ⟨hh, hn⟩ := tm_hol_push hL hP1 hD1
  exact kk q hn H1 locs ls _ _ (by omega) (by omega) hS1 hh hl
theorem tm_newz1 {k : Int} (hC : tm_C x cc own ret) (hk : 0 ≤ k ∧ k ≤ 100000) (hw : Cond.arrayClass .boolean ∈ ALL) (hd : decode cc pc = .ok (.newarray .boolean, 2)) (kk : ∀ q, Ω q = none → tm_V x (tm_G x (tm_up Ω q (tm_az (tm_T x) k.toNat (fun _ => 0)))) b n (pc + 2) L (.ref q :: st)) : tm_V x (tm_G x Ω) (1 + b) (k.toNat + n) pc L (.int (I k) :: st) := by
  intro H locs ls cells slots h1 h2 hS hG hl
  obtain ⟨Lw, hL, hP, hD⟩ := hG
  refine va_newa (atype := .boolean) (ty := .boolean) (a0 := (k.toNat, .inl (fun _ => I 0))) hC.1 hC.2.1 (tm_CW hC hw) rfl (tm_CK hC) hP hD hS (tm_lt0 (H := H) (locs := locs) hC) (fun _ => rfl) (by rw [show (0 : Int32) = I 0 from rfl, I_lt (by omega)]; omega) (I_nat (by omega)) (by show k.toNat * 1 ≤ _; omega) (by show cells + 1 ≤ (tm_R x).cells; omega) (by show slots + _ ≤ (tm_R x).slots; omega) hd (fun q cA H1 hK1 hP1 hD1 hS1 => ?_)
  have hcA : cA = (tm_T x).2.1 := by
    have e1 := (hK1.2 4 _ rfl).2
    have e2 := ((tm_CK hC).2 1 _ rfl).2
    exact Option.some.inj (e1.symm.trans e2)
  subst hcA
  obtain ⟨hh, hn⟩ := tm_hol_push hL hP1 hD1
  exact kk q hn H1 locs ls _ _ (by omega) (by omega) hS1 hh hl
theorem tm_newl1 {k : Int} (hC : tm_C x cc own ret) (hk : 0 ≤ k ∧ k ≤ 100000) (hw : Cond.arrayClass .long ∈ ALL) (hd : decode cc pc = .ok (.newarray .long, 2)) (kk : ∀ q, Ω q = none → tm_V x (tm_G x (tm_up Ω q (tm_al (tm_T x) k.toNat (fun _ => 0)))) b n (pc + 2) L (.ref q :: st)) : tm_V x (tm_G x Ω) (1 + b) (k.toNat + n) pc L (.int (I k) :: st) := by
  intro H locs ls cells slots h1 h2 hS hG hl
  obtain ⟨Lw, hL, hP, hD⟩ := hG
  refine va_newa (atype := .long) (ty := .long) (a0 := (k.toNat, .inr (.inl (fun _ => 0)))) hC.1 hC.2.1 (tm_CW hC hw) rfl (tm_CK hC) hP hD hS (tm_lt0 (H := H) (locs := locs) hC) (fun _ => rfl) (by rw [show (0 : Int32) = I 0 from rfl, I_lt (by omega)]; omega) (I_nat (by omega)) (by show k.toNat * 8 ≤ _; omega) (by show cells + 1 ≤ (tm_R x).cells; omega) (by show slots + _ ≤ (tm_R x).slots; omega) hd (fun q cA H1 hK1 hP1 hD1 hS1 => ?_)
  have hcA : cA = (tm_T x).2.2.1 := by
    have e1 := (hK1.2 4 _ rfl).2
    have e2 := ((tm_CK hC).2 2 _ rfl).2
    exact Option.some.inj (e1.symm.trans e2)
  subst hcA
  obtain ⟨hh, hn⟩ := tm_hol_push hL hP1 hD1
  exact kk q hn H1 locs ls _ _ (by omega) (by omega) hS1 hh hl
theorem tm_newo1 {k : Int} {idx : Nat} (hC : tm_C x cc own ret) (hk : 0 ≤ k ∧ k ≤ 100000) (hw : Cond.classLink own idx "java/lang/Object" ∈ ALL) (hd : decode cc pc = .ok (.anewarray idx, 3)) (kk : ∀ q, Ω q = none → tm_V x (tm_G x (tm_up Ω q (tm_ao (tm_T x) k.toNat (fun _ => none)))) b n (pc + 3) L (.ref q :: st)) : tm_V x (tm_G x Ω) (1 + b) (k.toNat + n) pc L (.int (I k) :: st) := by
  intro H locs ls cells slots h1 h2 hS hG hl
  obtain ⟨Lw, hL, hP, hD⟩ := hG
  refine va_newq (C := "java/lang/Object") hC.1 hC.2.1 hC.2.2.2.1 (tm_CW hC hw) hC.2.2.2.2.2.2.2.2.1.2.2.2.2 (tm_CK hC) hP hD hS (tm_lt0 (H := H) (locs := locs) hC) (by rw [show (0 : Int32) = I 0 from rfl, I_lt (by omega)]; omega) (I_nat (by omega)) (by show k.toNat * 4 ≤ _; omega) (by show cells + 1 ≤ (tm_R x).cells; omega) (by show slots + _ ≤ (tm_R x).slots; omega) hd (fun q cA H1 hK1 hP1 hD1 hS1 => ?_)
  have hcA : cA = (tm_T x).2.2.2 := by
    obtain ⟨kA, comp, -, -, -, e1⟩ := (hK1.2 4 _ rfl).2
    obtain ⟨kB, comp2, -, -, -, e2⟩ := ((tm_CK hC).2 3 _ rfl).2
    exact Option.some.inj (e1.symm.trans e2)
  subst hcA
  obtain ⟨hh, hn⟩ := tm_hol_push hL hP1 hD1
  exact kk q hn H1 locs ls _ _ (by omega) (by omega) hS1 hh hl
theorem tm_alen1 {c : ClassId} {y : vp_A} {t0 : Nat} {ty : FieldType} (hC : tm_C x cc own ret) (ha : Ω a = some (.inl (c, y))) (ht : (tm_tys (tm_T x))[t0]? = some (c, ty)) (hd : decode cc pc = .ok (.arraylength, 1)) (kk : tm_V x (tm_G x Ω) b n (pc + 1) L (.int (I y.1) :: st)) : tm_V x (tm_G x Ω) b n pc L (.ref a :: st) := by
  intro H locs ls cells slots h1 h2 hS hG hl
  have kk := kk H locs ls cells slots h1 h2 hS hG hl
  obtain ⟨Lw, hL, hP, hD⟩ := hG
  obtain ⟨q0, hq⟩ := tm_hol_get hL ha
  exact va_alen hC.1 hC.2.1 (tm_CK hC) hP q0 t0 hq ht (v := I y.1) rfl hd kk
theorem tm_alen0 (hC : tm_C x cc own ret) (hd : decode cc pc = .ok (.arraylength, 1)) (kk : tm_V x (tm_G x Ω) b n (pc + 1) L (.int (I 0) :: st)) : tm_V x (tm_G x Ω) b n pc L (.ref (tm_e0 x) :: st) := by
  intro H locs ls cells slots h1 h2 hS hG hl
  have kk := kk H locs ls cells slots h1 h2 hS hG hl
  exact W.alen hC.1 hC.2.1 (tm_CE hC hS).2.1 (((tm_CK hC).2 3 _ rfl).1 0 (fun _ => .null)) (n := I 0) (by rw [arrV_size]; rfl) rfl rfl hd kk
theorem tm_iald1 {i : Int} {k : Nat} {g : Int → Int} (hC : tm_C x cc own ret) (ha : Ω a = some (tm_ai (tm_T x) k g)) (hi : 0 ≤ i ∧ i < k ∧ i ≤ 2147483647) (hd : decode cc pc = .ok (.iaload, 1)) (kk : tm_V x (tm_G x Ω) b n (pc + 1) L (.int (I (g i)) :: st)) : tm_V x (tm_G x Ω) b n pc L (.int (I i) :: .ref a :: st) := by
  intro H locs ls cells slots h1 h2 hS hG hl
  have kk := kk H locs ls cells slots h1 h2 hS hG hl
  obtain ⟨Lw, hL, hP, hD⟩ := hG
  obtain ⟨q0, hq⟩ := tm_hol_get hL ha
  refine va_iald hC.1 hC.2.1 (tm_CK hC) hP q0 0 hq rfl (I_in hi) hd ?_
  rw [I_nat (by omega), show ((i.toNat : Nat) : Int) = i by omega]
  exact kk
theorem tm_iast1 {i v : Int} {k : Nat} {g : Int → Int} (hC : tm_C x cc own ret) (ha : Ω a = some (tm_ai (tm_T x) k g)) (hi : 0 ≤ i ∧ i < k ∧ i ≤ 2147483647) (hd : decode cc pc = .ok (.iastore, 1)) (kk : tm_V x (tm_G x (tm_up Ω a (tm_ai (tm_T x) k (tm_ui g i v)))) b n (pc + 1) L st) : tm_V x (tm_G x Ω) b n pc L (.int (I v) :: .int (I i) :: .ref a :: st) := by
  intro H locs ls cells slots h1 h2 hS hG hl
  obtain ⟨Lw, hL, hP, hD⟩ := hG
  obtain ⟨q0, hq⟩ := tm_hol_get hL ha
  refine va_iast hC.1 hC.2.1 (tm_CK hC) hP hD hS q0 0 hq rfl (I_in hi) hd (fun H1 locs1 hP1 hD1 hS1 => kk H1 locs1 ls cells slots h1 h2 hS1 ?_ hl)
  rw [I_nat (by omega), tm_upd hi.1] at hP1 hD1
  exact tm_hol_set hL hD hq hP1 hD1
theorem tm_zald1 {i : Int} {k : Nat} {g : Int → Int} (hC : tm_C x cc own ret) (ha : Ω a = some (tm_az (tm_T x) k g)) (hi : 0 ≤ i ∧ i < k ∧ i ≤ 2147483647) (hd : decode cc pc = .ok (.baload, 1)) (kk : tm_V x (tm_G x Ω) b n (pc + 1) L (.int (I (g i)) :: st)) : tm_V x (tm_G x Ω) b n pc L (.int (I i) :: .ref a :: st) := by
  intro H locs ls cells slots h1 h2 hS hG hl
  have kk := kk H locs ls cells slots h1 h2 hS hG hl
  obtain ⟨Lw, hL, hP, hD⟩ := hG
  obtain ⟨q0, hq⟩ := tm_hol_get hL ha
  refine va_zald hC.1 hC.2.1 (tm_CK hC) hP q0 1 hq rfl (I_in hi) hd ?_
  rw [I_nat (by omega), show ((i.toNat : Nat) : Int) = i by omega]
  exact kk
theorem tm_zast1 {i v : Int} {k : Nat} {g : Int → Int} (hC : tm_C x cc own ret) (ha : Ω a = some (tm_az (tm_T x) k g)) (hi : 0 ≤ i ∧ i < k ∧ i ≤ 2147483647) (hv : v = 0 ∨ v = 1) (hd : decode cc pc = .ok (.bastore, 1)) (kk : tm_V x (tm_G x (tm_up Ω a (tm_az (tm_T x) k (tm_ui g i v)))) b n (pc + 1) L st) : tm_V x (tm_G x Ω) b n pc L (.int (I v) :: .int (I i) :: .ref a :: st) := by
  intro H locs ls cells slots h1 h2 hS hG hl
  obtain ⟨Lw, hL, hP, hD⟩ := hG
  obtain ⟨q0, hq⟩ := tm_hol_get hL ha
  refine va_zast hC.1 hC.2.1 (tm_CK hC) hP hD hS q0 1 hq rfl (I_in hi) hd (fun H1 locs1 hP1 hD1 hS1 => kk H1 locs1 ls cells slots h1 h2 hS1 ?_ hl)
  rw [show vp_nar .boolean (I v) = I v by rcases hv with rfl | rfl <;> rfl, I_nat (by omega), tm_upd hi.1] at hP1 hD1
  exact tm_hol_set hL hD hq hP1 hD1
theorem tm_lald1 {i : Int} {k : Nat} {g : Nat → Int64} (hC : tm_C x cc own ret) (ha : Ω a = some (tm_al (tm_T x) k g)) (hi : 0 ≤ i ∧ i < k ∧ i ≤ 2147483647) (hd : decode cc pc = .ok (.laload, 1)) (kk : tm_V x (tm_G x Ω) b n (pc + 1) L (.long (g i.toNat) :: st)) : tm_V x (tm_G x Ω) b n pc L (.int (I i) :: .ref a :: st) := by
  intro H locs ls cells slots h1 h2 hS hG hl
  have kk := kk H locs ls cells slots h1 h2 hS hG hl
  obtain ⟨Lw, hL, hP, hD⟩ := hG
  obtain ⟨q0, hq⟩ := tm_hol_get hL ha
  refine va_lald hC.1 hC.2.1 (tm_CK hC) hP q0 2 hq rfl (I_in hi) hd ?_
  rw [I_nat (by omega)]
  exact kk
theorem tm_last1 {i : Int} {v : Int64} {k : Nat} {g : Nat → Int64} (hC : tm_C x cc own ret) (ha : Ω a = some (tm_al (tm_T x) k g)) (hi : 0 ≤ i ∧ i < k ∧ i ≤ 2147483647) (hd : decode cc pc = .ok (.lastore, 1)) (kk : tm_V x (tm_G x (tm_up Ω a (tm_al (tm_T x) k (vp_updL g i.toNat v)))) b n (pc + 1) L st) : tm_V x (tm_G x Ω) b n pc L (.long v :: .int (I i) :: .ref a :: st) := by
  intro H locs ls cells slots h1 h2 hS hG hl
  obtain ⟨Lw, hL, hP, hD⟩ := hG
  obtain ⟨q0, hq⟩ := tm_hol_get hL ha
  refine va_last hC.1 hC.2.1 (tm_CK hC) hP hD hS q0 2 hq rfl (I_in hi) hd (fun H1 locs1 hP1 hD1 hS1 => kk H1 locs1 ls cells slots h1 h2 hS1 ?_ hl)
  rw [I_nat (by omega)] at hP1 hD1
  exact tm_hol_set hL hD hq hP1 hD1
theorem tm_aald1 {i : Int} {k v : Nat} {g : Nat → Option Nat} (hC : tm_C x cc own ret) (ha : Ω a = some (tm_ao (tm_T x) k g)) (hi : 0 ≤ i ∧ i < k ∧ i ≤ 2147483647) (hv : g i.toNat = some v) (hd : decode cc pc = .ok (.aaload, 1)) (kk : tm_V x (tm_G x Ω) b n (pc + 1) L (.ref v :: st)) : tm_V x (tm_G x Ω) b n pc L (.int (I i) :: .ref a :: st) := by
  intro H locs ls cells slots h1 h2 hS hG hl
  have kk := kk H locs ls cells slots h1 h2 hS hG hl
  obtain ⟨Lw, hL, hP, hD⟩ := hG
  obtain ⟨q0, hq⟩ := tm_hol_get hL ha
  refine va_aldq hC.1 hC.2.1 (tm_CK hC) hP q0 3 hq rfl (I_in hi) hd ?_
  rw [I_nat (by omega), hv]
  exact kk
/-- an object that may lie in a list -/
def tm_el (Ω : tmO) (a : Nat) : Prop := ∃ (ci : Nat) (fs : List Value) (r : vw_C), Ω a = some (.inr (ci, fs)) ∧ classes[ci]? = some r ∧ Cond.castable r.1 "java/lang/Object" ∈ NW
theorem tm_any {v : Nat} {H : Heap} {Lw : List Nat} (hC : tm_C x cc own ret) (hL : ∀ a, a ∈ Lw ↔ Ω a ≠ none) (hP : va_P (tm_D x) classes (tm_wl Ω Lw) H) (h : tm_el Ω v) : va_Any "java/lang/Object" (tm_st x) H v := by
  obtain ⟨ci, fs, r, h1, h2, h3⟩ := h
  obtain ⟨q0, hq⟩ := tm_hol_get hL h1
  refine va_rAny (tm_CK hC) hP hq h2 (fun comp c0 e1 e2 => ?_)
  obtain ⟨c, t, f1, f2, f3⟩ := Cond.castable_spec (show (Cond.castable r.1 "java/lang/Object").before #[] (tm_st x) = true from tm_CN hC h3)
  cases Option.some.inj (f1.symm.trans e2)
  cases Option.some.inj (f2.symm.trans e1)
  exact f3
theorem tm_aast1 {i : Int} {k v : Nat} {g : Nat → Option Nat} (hC : tm_C x cc own ret) (ha : Ω a = some (tm_ao (tm_T x) k g)) (hi : 0 ≤ i ∧ i < k ∧ i ≤ 2147483647) (hv : tm_el Ω v) (hd : decode cc pc = .ok (.aastore, 1)) (kk : tm_V x (tm_G x (tm_up Ω a (tm_ao (tm_T x) k (va_up g i.toNat (some v))))) b n (pc + 1) L st) : tm_V x (tm_G x Ω) b n pc L (.ref v :: .int (I i) :: .ref a :: st) := by
  intro H locs ls cells slots h1 h2 hS hG hl
  obtain ⟨Lw, hL, hP, hD⟩ := hG
  obtain ⟨q0, hq⟩ := tm_hol_get hL ha
  refine va_astqM hC.1 hC.2.1 (tm_CK hC) hP hD hS q0 3 (E := "java/lang/Object") hq rfl (tm_any hC hL hP hv) (I_in hi) hd (fun H1 locs1 hP1 hD1 hS1 => kk H1 locs1 ls cells slots h1 h2 hS1 ?_ hl)
  rw [I_nat (by omega)] at hP1 hD1
  exact tm_hol_set hL hD hq hP1 hD1
theorem tm_aastN1 {i : Int} {k : Nat} {g : Nat → Option Nat} (hC : tm_C x cc own ret) (ha : Ω a = some (tm_ao (tm_T x) k g)) (hi : 0 ≤ i ∧ i < k ∧ i ≤ 2147483647) (hd : decode cc pc = .ok (.aastore, 1)) (kk : tm_V x (tm_G x (tm_up Ω a (tm_ao (tm_T x) k (va_up g i.toNat none)))) b n (pc + 1) L st) : tm_V x (tm_G x Ω) b n pc L (.null :: .int (I i) :: .ref a :: st) := by
  intro H locs ls cells slots h1 h2 hS hG hl
  obtain ⟨Lw, hL, hP, hD⟩ := hG
  obtain ⟨q0, hq⟩ := tm_hol_get hL ha
  refine va_astqN hC.1 hC.2.1 (tm_CK hC) hP hD hS q0 3 (C := "java/lang/Object") hq rfl (I_in hi) hd (fun H1 locs1 hP1 hD1 hS1 => kk H1 locs1 ls cells slots h1 h2 hS1 ?_ hl)
  rw [I_nat (by omega)] at hP1 hD1
  exact tm_hol_set hL hD hq hP1 hD1
def tm_cw (own : String) (idx : Nat) : Prop := Cond.methodLink own idx arraycopyName ∈ ALL ∧ Cond.native arraycopyName ∈ ALL ∧ Cond.static arraycopyName ∈ ALL ∧ Cond.initialized "java/lang/System" ∈ ALL
theorem tm_copy1 {idx a0 : Nat} {sp dp k : Int} {n0 n1 : Nat} {f g : Nat → Option Nat} (hC : tm_C x cc own ret) (hk : tm_cw own idx) (ha0 : Ω a0 = some (tm_ao (tm_T x) n0 f)) (ha : Ω a = some (tm_ao (tm_T x) n1 g)) (hr : 0 ≤ sp ∧ 0 ≤ dp ∧ 0 ≤ k ∧ sp + k ≤ n0 ∧ dp + k ≤ n1 ∧ n0 ≤ 100000 ∧ n1 ≤ 100000) (hel : ∀ i : Nat, i < k.toNat → ∀ y : Nat, f (sp.toNat + i) = some y → tm_el Ω y) (hR : 1 ≤ (tm_R x).frames ∧ 64 ≤ (tm_R x).locals) (hst : (st.map fun v => v.category).sum ≤ 8) (hd : decode cc pc = .ok (.invokestatic idx, 3)) (kk : tm_V x (tm_G x (tm_up Ω a (tm_ao (tm_T x) n1 (va_cpy f g sp.toNat dp.toNat k.toNat)))) b n (pc + 3) L st) : tm_V x (tm_G x Ω) b n pc L (.int (I k) :: .int (I dp) :: .ref a :: .int (I sp) :: .ref a0 :: st) := by
  intro H locs ls cells slots h1 h2 hS hG hl
  obtain ⟨Lw, hL, hP, hD⟩ := hG
  obtain ⟨q0, hq0⟩ := tm_hol_get hL ha0
  obtain ⟨q1, hq1⟩ := tm_hol_get hL ha
  have ng : ∀ z : Int, 0 ≤ z ∧ z ≤ 100000 → ¬ I z < 0 := fun z hz => by rw [show (0 : Int32) = I 0 from rfl, I_lt (by omega)]; omega
  have es : (I sp).toNatClampNeg = sp.toNat := I_nat (by omega)
  have ed : (I dp).toNatClampNeg = dp.toNat := I_nat (by omega)
  have ek : (I k).toNatClampNeg = k.toNat := I_nat (by omega)
  refine va_copyM hC.1 hC.2.1 (by rw [hl.1]; exact hC.2.2.1) hC.2.2.2.1 (tm_CW hC hk.1) (tm_CW hC hk.2.1) (tm_CW hC hk.2.2.1) (tm_CW hC hk.2.2.2) (tm_CK hC) hP hD hS q0 q1 3 3 (E0 := "java/lang/Object") (E1 := "java/lang/Object") hq0 hq1 rfl rfl (ng sp (by omega)) (ng dp (by omega)) (ng k (by omega)) (by rw [es, ek]; omega) (by rw [ed, ek]; omega) (fun i hi y hy => ?_) hR.1 ?_ hd (fun H1 locs1 hP1 hD1 hS1 => kk H1 locs1 ls cells slots h1 h2 hS1 ?_ hl)
  · rw [ek] at hi
    rw [es] at hy
    exact tm_any hC hL hP (hel i hi y hy)
  · have h8 : nativeFrameWords "java/lang/System" "arraycopy" 5 + 11 ≤ 56 := by decide
    have h9 : (st.map fun v => v.category).sum + (nativeFrameWords "java/lang/System" "arraycopy" 5 + 11) ≤ (tm_R x).locals := by omega
    exact h9
  · rw [es, ed, ek] at hP1 hD1
    exact tm_hol_set hL hD hq1 hP1 hD1
theorem tm_gets {idx : Nat} {G : Heap → Prop} (hC : tm_C x cc own ret) (hk : Cond.fieldLink own idx "java/util/ArrayList" "DEFAULTCAPACITY_EMPTY_ELEMENTDATA" "[Ljava/lang/Object;" ∈ ALL) (hd : decode cc pc = .ok (.getstatic idx, 3)) (kk : tm_V x G b n (pc + 3) L (.ref (tm_e0 x) :: st)) : tm_V x G b n pc L st := by
  intro H locs ls cells slots h1 h2 hS hG hl
  exact va_gets hC.1 hC.2.1 hC.2.2.2.2.2.2.2.2.2.1 hS hC.2.2.2.1 (tm_CW hC hk) (fun _ h => h) hd (kk H locs ls cells slots h1 h2 hS hG hl)
theorem tm_rec1 {ci : Nat} {fs : List Value} {r : vw_C} (hC : tm_C x cc own ret) (ha : Ω a = some (.inr (ci, fs))) (hc : classes[ci]? = some r) : ∀ H, tm_hol (tm_D x) (tm_Fz x) Ω H → ∃ cell : Cell, H[a]? = some cell ∧ cell.vm.isStatics = false ∧ (tm_st x).vm.findClass r.1 = some cell.cls := by
  intro H hG
  obtain ⟨Lw, hL, hP, hD⟩ := hG
  obtain ⟨q0, hq⟩ := tm_hol_get hL ha
  exact va_recv (tm_CK hC) hP hc hq
theorem tm_cast1 {idx ci : Nat} {fs : List Value} {r : vw_C} (hC : tm_C x cc own ret) (ha : Ω a = some (.inr (ci, fs))) (hc : classes[ci]? = some r) (hk : Cond.classLink own idx r.1 ∈ ALL) (hd : decode cc pc = .ok (.checkcast idx, 3)) (kk : tm_V x (tm_G x Ω) b n (pc + 3) L (.ref a :: st)) : tm_V x (tm_G x Ω) b n pc L (.ref a :: st) := by
  intro H locs ls cells slots h1 h2 hS hG hl
  have hr := tm_rec1 hC ha hc H hG
  exact va_castS hC.1 hC.2.1 hC.2.2.2.1 (tm_CW hC hk) ((tm_CK hC).1 ci r hc).2 hr hd (kk H locs ls cells slots h1 h2 hS hG hl)
theorem tm_castA1 {idx k : Nat} {g : Nat → Option Nat} (hC : tm_C x cc own ret) (ha : Ω a = some (tm_ao (tm_T x) k g)) (hk : Cond.classLink own idx "[Ljava/lang/Object;" ∈ ALL) (hd : decode cc pc = .ok (.checkcast idx, 3)) (kk : tm_V x (tm_G x Ω) b n (pc + 3) L (.ref a :: st)) : tm_V x (tm_G x Ω) b n pc L (.ref a :: st) := by
  intro H locs ls cells slots h1 h2 hS hG hl
  have kk := kk H locs ls cells slots h1 h2 hS hG hl
  obtain ⟨Lw, hL, hP, hD⟩ := hG
  obtain ⟨q0, hq⟩ := tm_hol_get hL ha
  obtain ⟨kB, comp2, -, -, -, e2⟩ := ((tm_CK hC).2 3 _ rfl).2
  exact va_castA hC.1 hC.2.1 hC.2.2.2.1 (tm_CW hC hk) hP q0 hq e2 hd kk
theorem tm_ldcM {idx : Nat} {G : Heap → Prop} (hC : tm_C x cc own ret) (hk : Cond.classLink own idx "[Ljava/lang/Object;" ∈ ALL) (hd : decode cc pc = .ok (.ldc idx, 2)) (kk : tm_V x G b n (pc + 2) L (.ref (tm_mi x) :: st)) : tm_V x G b n pc L st := by
  intro H locs ls cells slots h1 h2 hS hG hl
  exact va_ldcM hC.1 hC.2.1 hC.2.2.2.1 (tm_CW hC hk) hC.2.2.2.2.2.2.2.2.1.2.2.2.1 hd (kk H locs ls cells slots h1 h2 hS hG hl)
abbrev tm_gc : MethodName := ⟨"java/lang/Object", "getClass", "()Ljava/lang/Class;"⟩
theorem tm_getC1 {idx k : Nat} {g : Nat → Option Nat} (hC : tm_C x cc own ret) (ha : Ω a = some (tm_ao (tm_T x) k g)) (hk : Cond.methodLink own idx tm_gc ∈ ALL ∧ Cond.declares tm_gc ∈ NW ∧ Cond.selects "[Ljava/lang/Object;" tm_gc tm_gc ∈ ALL ∧ Cond.instanceMethod tm_gc ∈ ALL ∧ Cond.native tm_gc ∈ ALL) (hR : 1 ≤ (tm_R x).frames ∧ 64 ≤ (tm_R x).locals) (hst : (st.map fun v => v.category).sum ≤ 8) (hd : decode cc pc = .ok (.invokevirtual idx, 3)) (kk : tm_V x (tm_G x Ω) b n (pc + 3) L (.ref (tm_mi x) :: st)) : tm_V x (tm_G x Ω) b n pc L (.ref a :: st) := by
  intro H locs ls cells slots h1 h2 hS hG hl
  have kk := kk H locs ls cells slots h1 h2 hS hG hl
  obtain ⟨Lw, hL, hP, hD⟩ := hG
  obtain ⟨q0, hq⟩ := tm_hol_get hL ha
  obtain ⟨kB, comp2, -, -, -, e2⟩ := ((tm_CK hC).2 3 _ rfl).2
  exact va_getC hC.1 hC.2.1 (by rw [hl.1]; exact hC.2.2.1) hC.2.2.2.1 (tm_CW hC hk.1) (va_Nw.use rfl (tm_CN hC hk.2.1)) (tm_CW hC hk.2.2.1) (tm_CW hC hk.2.2.2.1) (tm_CW hC hk.2.2.2.2) hC.2.2.2.2.2.2.2.2.1.2.2.2.1 ⟨_, hP q0 _ hq, rfl, e2⟩ hR.1 (show (st.map fun v => v.category).sum + 14 ≤ (tm_R x).locals by omega) hd kk
theorem tm_mm (hC : tm_C x cc own ret) (op : Bool) {G : Heap → Prop} {idx : Nat} {u v : Int} (hk : if op then Cond.methodLink own idx Lib.Math.max.name ∈ ALL ∧ Cond.static Lib.Math.max.name ∈ ALL ∧ Cond.initialized "java/lang/Math" ∈ ALL ∧ Cond.code Lib.Math.max.name Lib.Math.max.code 2 (some .int) ∈ ALL else Cond.methodLink own idx Lib.Math.min.name ∈ ALL ∧ Cond.static Lib.Math.min.name ∈ ALL ∧ Cond.initialized "java/lang/Math" ∈ ALL ∧ Cond.code Lib.Math.min.name Lib.Math.min.code 2 (some .int) ∈ ALL)
    (h : (-2147483648 ≤ u ∧ u ≤ 2147483647) ∧ -2147483648 ≤ v ∧ v ≤ 2147483647) (hR : 1 ≤ (tm_R x).frames ∧ 64 ≤ (tm_R x).locals) (hst : (st.map fun v => v.category).sum ≤ 8) (hd : decode cc pc = .ok (.invokestatic idx, 3)) (kk : tm_V x G b n (pc + 3) L (.int (I (if op then max u v else min u v)) :: st)) : tm_V x G b n pc L (.int (I v) :: .int (I u) :: st) := by
  intro H locs ls cells slots h1 h2 hS hG hl
  have kk := kk H locs ls cells slots h1 h2 hS hG hl
  cases op
  · refine va_mmin hC.1 hC.2.1 (by rw [hl.1]; exact hC.2.2.1) hC.2.2.2.1 (tm_CW hC hk.1) (tm_CW hC hk.2.1) (tm_CW hC hk.2.2.1) (tm_CW hC hk.2.2.2) hR.1 (show (st.map fun v => v.category).sum + 13 ≤ (tm_R x).locals by omega) (show cells ≤ (tm_R x).cells by omega) (show slots ≤ (tm_R x).slots by omega) hd ?_
    have e : (if I v < I u then I v else I u) = I (min u v) := by
      by_cases c : v < u
      · rw [if_pos ((I_lt ⟨h.2, h.1⟩).mpr c), show min u v = v by omega]
      · rw [if_neg (fun z => c ((I_lt ⟨h.2, h.1⟩).mp z)), show min u v = u by omega]
    rw [e]; exact kk
  · refine va_mmax hC.1 hC.2.1 (by rw [hl.1]; exact hC.2.2.1) hC.2.2.2.1 (tm_CW hC hk.1) (tm_CW hC hk.2.1) (tm_CW hC hk.2.2.1) (tm_CW hC hk.2.2.2) hR.1 (show (st.map fun v => v.category).sum + 13 ≤ (tm_R x).locals by omega) (show cells ≤ (tm_R x).cells by omega) (show slots ≤ (tm_R x).slots by omega) hd ?_
    have e : (if I u < I v then I v else I u) = I (max u v) := by
      by_cases c : u < v
      · rw [if_pos ((I_lt h).mpr c), show max u v = v by omega]
      · rw [if_neg (fun z => c ((I_lt h).mp z)), show max u v = u by omega]
    rw [e]; exact kk
theorem tm_objInit {idx : Nat} {G : Heap → Prop} (hC : tm_C x cc own ret) (hk : Cond.methodLink own idx objectInit ∈ ALL ∧ Cond.instanceMethod objectInit ∈ ALL ∧ Cond.code objectInit ⟨#[0xb1]⟩ 1 none ∈ ALL) (hR : 1 ≤ (tm_R x).frames ∧ 64 ≤ (tm_R x).locals) (hst : (st.map fun v => v.category).sum ≤ 8) (hd : decode cc pc = .ok (.invokespecial idx, 3)) (kk : tm_V x G b n (pc + 3) L st) : tm_V x G b n pc L (.ref a :: st) := by
  intro H locs ls cells slots h1 h2 hS hG hl
  have hm : 2 * (F0 (tm_m x) pc ls (Value.ref a :: st)).monitorRoom + (st.map fun v => v.category).sum ≤ 8 := lv_room hst
  exact W.objInit hC.1 hC.2.1 hC.2.2.2.1 (tm_CW hC hk.1) (tm_CW hC hk.2.1) (tm_CW hC hk.2.2) rfl (by rw [show (tm_c x).maxLocals = _ from hC.2.2.1]; exact hl.1) rfl hd hR.1 (show 2 * (F0 (tm_m x) pc ls (Value.ref a :: st)).monitorRoom + (st.map fun v => v.category).sum + 12 ≤ (tm_R x).locals by omega) (kk H locs ls cells slots h1 h2 hS hG hl)
end TMH
end
section
abbrev M_Jx4a65c_init_da8c8 : tmM := (yJx4a65c_init_da8c8, cJx4a65c_init_da8c8, 1, none)
abbrev M_Jx4a65c_grow_92f84 : tmM := (yJx4a65c_grow_92f84, cJx4a65c_grow_92f84, 4, some (FieldType.array (FieldType.object "java/lang/Object")))
abbrev M_Jx4a65c_grow_d5877 : tmM := (yJx4a65c_grow_d5877, cJx4a65c_grow_d5877, 1, some (FieldType.array (FieldType.object "java/lang/Object")))
abbrev M_Jx4a65c_size_8abf5 : tmM := (yJx4a65c_size_8abf5, cJx4a65c_size_8abf5, 1, some FieldType.int)
abbrev M_Jx4a65c_isEmpty_aae02 : tmM := (yJx4a65c_isEmpty_aae02, cJx4a65c_isEmpty_aae02, 1, some FieldType.boolean)
abbrev M_Jx4a65c_elementData_915e3 : tmM := (yJx4a65c_elementData_915e3, cJx4a65c_elementData_915e3, 2, some (FieldType.object "java/lang/Object"))
abbrev M_Jx4a65c_get_915e3 : tmM := (yJx4a65c_get_915e3, cJx4a65c_get_915e3, 2, some (FieldType.object "java/lang/Object"))
abbrev M_Jx4a65c_add_72be8 : tmM := (yJx4a65c_add_72be8, cJx4a65c_add_72be8, 4, none)
abbrev M_Jx4a65c_add_9ea2d : tmM := (yJx4a65c_add_9ea2d, cJx4a65c_add_9ea2d, 2, some FieldType.boolean)
abbrev M_Jx4a65c_add_7a177 : tmM := (yJx4a65c_add_7a177, cJx4a65c_add_7a177, 5, none)
abbrev M_Jx4a65c_remove_915e3 : tmM := (yJx4a65c_remove_915e3, cJx4a65c_remove_915e3, 4, some (FieldType.object "java/lang/Object"))
abbrev M_Jx4a65c_fastRemove_b59b0 : tmM := (yJx4a65c_fastRemove_b59b0, cJx4a65c_fastRemove_b59b0, 4, none)
abbrev M_Jx4a65c_rangeCheckForAdd_d00df : tmM := (yJx4a65c_rangeCheckForAdd_d00df, cJx4a65c_rangeCheckForAdd_d00df, 2, none)
abbrev M_Jxc12de_init_da8c8 : tmM := (yJxc12de_init_da8c8, cJxc12de_init_da8c8, 1, none)
abbrev M_Jxa1e45_init_da8c8 : tmM := (yJxa1e45_init_da8c8, cJxa1e45_init_da8c8, 1, none)
abbrev M_J7_copyOf_1904c : tmM := (yJ7_copyOf_1904c, cJ7_copyOf_1904c, 2, some (FieldType.array (FieldType.object "java/lang/Object")))
abbrev M_J7_copyOf_6403c : tmM := (yJ7_copyOf_6403c, cJ7_copyOf_6403c, 4, some (FieldType.array (FieldType.object "java/lang/Object")))
abbrev M_J15_checkIndex_7cf53 : tmM := (yJ15_checkIndex_7cf53, cJ15_checkIndex_7cf53, 2, some FieldType.int)
abbrev M_J3_checkIndex_8e157 : tmM := (yJ3_checkIndex_8e157, cJ3_checkIndex_8e157, 3, some FieldType.int)
abbrev M_J8_newLength_cabcc : tmM := (yJ8_newLength_cabcc, cJ8_newLength_cabcc, 4, some FieldType.int)
abbrev M_X0_init : tmM := (yX0_init, cX0_init, 4, none)
abbrev M_X0_insertDefect : tmM := (yX0_insertDefect, cX0_insertDefect, 3, none)
abbrev M_X0_insertPiece : tmM := (yX0_insertPiece, cX0_insertPiece, 3, none)
abbrev M_X0_removePiece : tmM := (yX0_removePiece, cX0_removePiece, 3, none)
abbrev M_X0_hasPieceSpoiledBy : tmM := (yX0_hasPieceSpoiledBy, cX0_hasPieceSpoiledBy, 6, some FieldType.boolean)
abbrev M_X0_gradeAt : tmM := (yX0_gradeAt, cX0_gradeAt, 5, some FieldType.int)
abbrev M_X0_firstWorse : tmM := (yX0_firstWorse, cX0_firstWorse, 5, some FieldType.int)
abbrev M_X0_firstGood : tmM := (yX0_firstGood, cX0_firstGood, 6, some FieldType.int)
abbrev M_X0_nextStretchStart : tmM := (yX0_nextStretchStart, cX0_nextStretchStart, 3, some FieldType.int)
abbrev M_X0_countStretches : tmM := (yX0_countStretches, cX0_countStretches, 4, some FieldType.int)
abbrev M_X0_stretchStart : tmM := (yX0_stretchStart, cX0_stretchStart, 5, some FieldType.int)
abbrev M_X0_canGive : tmM := (yX0_canGive, cX0_canGive, 5, some FieldType.boolean)
abbrev M_X0_isClearOfPieces : tmM := (yX0_isClearOfPieces, cX0_isClearOfPieces, 5, some FieldType.boolean)
abbrev M_X0_earliestPlace : tmM := (yX0_earliestPlace, cX0_earliestPlace, 5, some FieldType.int)
abbrev M_X0_earliestWithin : tmM := (yX0_earliestWithin, cX0_earliestWithin, 7, some FieldType.int)
abbrev M_X0_roomStart : tmM := (yX0_roomStart, cX0_roomStart, 3, some FieldType.int)
abbrev M_X0_roomEnd : tmM := (yX0_roomEnd, cX0_roomEnd, 3, some FieldType.int)
abbrev M_X0_roomLengthAround : tmM := (yX0_roomLengthAround, cX0_roomLengthAround, 6, some FieldType.int)
abbrev M_X0_longestRoomLength : tmM := (yX0_longestRoomLength, cX0_longestRoomLength, 4, some FieldType.int)
abbrev M_X0_countCuts : tmM := (yX0_countCuts, cX0_countCuts, 5, some FieldType.int)
abbrev M_X0_areaOfPieces : tmM := (yX0_areaOfPieces, cX0_areaOfPieces, 4, some FieldType.int)
abbrev M_X1_init : tmM := (yX1_init, cX1_init, 4, none)
abbrev M_X2_init : tmM := (yX2_init, cX2_init, 4, none)
abbrev M_X3_init : tmM := (yX3_init, cX3_init, 7, none)
abbrev M_X3_isPlannedAhead : tmM := (yX3_isPlannedAhead, cX3_isPlannedAhead, 2, some FieldType.boolean)
abbrev M_X4_init : tmM := (yX4_init, cX4_init, 6, none)
abbrev M_X4_isClearOf : tmM := (yX4_isClearOf, cX4_isClearOf, 4, some FieldType.boolean)
abbrev M_X4_tell : tmM := (yX4_tell, cX4_tell, 2, some FieldType.int)
abbrev M_X5_init : tmM := (yX5_init, cX5_init, 1, none)
abbrev M_X5_addBoard : tmM := (yX5_addBoard, cX5_addBoard, 4, some FieldType.int)
abbrev M_X5_addDefect : tmM := (yX5_addDefect, cX5_addDefect, 6, some FieldType.int)
abbrev M_X5_addPart : tmM := (yX5_addPart, cX5_addPart, 7, some FieldType.int)
abbrev M_X5_setSaw : tmM := (yX5_setSaw, cX5_setSaw, 3, some FieldType.int)
abbrev M_X5_setJoint : tmM := (yX5_setJoint, cX5_setJoint, 3, some FieldType.int)
abbrev M_X5_grade : tmM := (yX5_grade, cX5_grade, 4, some FieldType.int)
abbrev M_X5_stretches : tmM := (yX5_stretches, cX5_stretches, 4, some FieldType.int)
abbrev M_X5_stretch : tmM := (yX5_stretch, cX5_stretch, 7, some FieldType.int)
abbrev M_X5_fits : tmM := (yX5_fits, cX5_fits, 5, some FieldType.boolean)
abbrev M_X5_earliest : tmM := (yX5_earliest, cX5_earliest, 4, some FieldType.int)
abbrev M_X5_cut : tmM := (yX5_cut, cX5_cut, 6, some FieldType.int)
abbrev M_X5_join : tmM := (yX5_join, cX5_join, 13, some FieldType.int)
abbrev M_X5_undo : tmM := (yX5_undo, cX5_undo, 2, some FieldType.int)
abbrev M_X5_plan : tmM := (yX5_plan, cX5_plan, 3, some FieldType.int)
abbrev M_X5_left : tmM := (yX5_left, cX5_left, 2, some FieldType.int)
abbrev M_X5_pieces : tmM := (yX5_pieces, cX5_pieces, 2, some FieldType.int)
abbrev M_X5_piece : tmM := (yX5_piece, cX5_piece, 5, some FieldType.int)
abbrev M_X5_cuts : tmM := (yX5_cuts, cX5_cuts, 2, some FieldType.int)
abbrev M_X5_longestRoom : tmM := (yX5_longestRoom, cX5_longestRoom, 2, some FieldType.int)
abbrev M_X5_bestUse : tmM := (yX5_bestUse, cX5_bestUse, 8, some FieldType.int)
abbrev M_X5_used : tmM := (yX5_used, cX5_used, 5, some FieldType.double)
abbrev M_X5_digest : tmM := (yX5_digest, cX5_digest, 4, some FieldType.long)
abbrev M_X5_isWithin : tmM := (yX5_isWithin, cX5_isWithin, 3, some FieldType.boolean)
abbrev M_X5_isGrade : tmM := (yX5_isGrade, cX5_isGrade, 1, some FieldType.boolean)
abbrev M_X5_checkGrade : tmM := (yX5_checkGrade, cX5_checkGrade, 1, none)
abbrev M_X5_boardNumbered : tmM := (yX5_boardNumbered, cX5_boardNumbered, 2, some (FieldType.object "TimberList$Board"))
abbrev M_X5_partNumbered : tmM := (yX5_partNumbered, cX5_partNumbered, 2, some (FieldType.object "TimberList$Part"))
abbrev M_X5_insertIntoPlanningOrder : tmM := (yX5_insertIntoPlanningOrder, cX5_insertIntoPlanningOrder, 3, none)
abbrev M_X5_cutWhilePossible : tmM := (yX5_cutWhilePossible, cX5_cutWhilePossible, 5, some FieldType.int)
abbrev M_X5_tightestBoard : tmM := (yX5_tightestBoard, cX5_tightestBoard, 8, some (FieldType.object "TimberList$Board"))
abbrev M_X5_cutSingle : tmM := (yX5_cutSingle, cX5_cutSingle, 4, none)
abbrev M_X5_takeFromBoards : tmM := (yX5_takeFromBoards, cX5_takeFromBoards, 2, none)
abbrev M_X5_clearBestSums : tmM := (yX5_clearBestSums, cX5_clearBestSums, 2, none)
abbrev M_X5_addToBestSums : tmM := (yX5_addToBestSums, cX5_addToBestSums, 6, none)
abbrev M_X5_withNext : tmM := (yX5_withNext, cX5_withNext, 4, some FieldType.long)
abbrev M_X5_withPieces : tmM := (yX5_withPieces, cX5_withPieces, 7, some FieldType.long)
abbrev M_X6_init : tmM := (yX6_init, cX6_init, 1, none)
abbrev M_X6_thrown : tmM := (yX6_thrown, cX6_thrown, 1, some FieldType.int)
abbrev M_X6_fail : tmM := (yX6_fail, cX6_fail, 2, some FieldType.int)
abbrev M_X6_isIn : tmM := (yX6_isIn, cX6_isIn, 3, some FieldType.boolean)
abbrev M_X6_isBoard : tmM := (yX6_isBoard, cX6_isBoard, 2, some FieldType.boolean)
abbrev M_X6_isPart : tmM := (yX6_isPart, cX6_isPart, 2, some FieldType.boolean)
abbrev M_X6_length : tmM := (yX6_length, cX6_length, 2, some FieldType.int)
abbrev M_X6_width : tmM := (yX6_width, cX6_width, 2, some FieldType.int)
abbrev M_X6_want : tmM := (yX6_want, cX6_want, 3, some FieldType.int)
abbrev M_X6_addBoard : tmM := (yX6_addBoard, cX6_addBoard, 4, some FieldType.int)
abbrev M_X6_isOn : tmM := (yX6_isOn, cX6_isOn, 3, some FieldType.boolean)
abbrev M_X6_from : tmM := (yX6_from, cX6_from, 2, some FieldType.int)
abbrev M_X6_to : tmM := (yX6_to, cX6_to, 2, some FieldType.int)
abbrev M_X6_partOf : tmM := (yX6_partOf, cX6_partOf, 2, some FieldType.int)
abbrev M_X6_addDefect : tmM := (yX6_addDefect, cX6_addDefect, 7, some FieldType.int)
abbrev M_X6_addPart : tmM := (yX6_addPart, cX6_addPart, 6, some FieldType.int)
abbrev M_X6_setSaw : tmM := (yX6_setSaw, cX6_setSaw, 3, some FieldType.int)
abbrev M_X6_setJoint : tmM := (yX6_setJoint, cX6_setJoint, 3, some FieldType.int)
abbrev M_X6_gradeAt : tmM := (yX6_gradeAt, cX6_gradeAt, 5, some FieldType.int)
abbrev M_X6_grade : tmM := (yX6_grade, cX6_grade, 3, some FieldType.int)
abbrev M_X6_nextChange : tmM := (yX6_nextChange, cX6_nextChange, 5, some FieldType.int)
abbrev M_X6_goOver : tmM := (yX6_goOver, cX6_goOver, 8, some FieldType.int)
abbrev M_X6_stretches : tmM := (yX6_stretches, cX6_stretches, 3, some FieldType.int)
abbrev M_X6_stretch : tmM := (yX6_stretch, cX6_stretch, 5, some FieldType.int)
abbrev M_X6_onward : tmM := (yX6_onward, cX6_onward, 6, some FieldType.int)
abbrev M_X6_isPossible : tmM := (yX6_isPossible, cX6_isPossible, 5, some FieldType.boolean)
abbrev M_X6_earliestOn : tmM := (yX6_earliestOn, cX6_earliestOn, 5, some FieldType.int)
abbrev M_X6_fits : tmM := (yX6_fits, cX6_fits, 4, some FieldType.boolean)
abbrev M_X6_earliest : tmM := (yX6_earliest, cX6_earliest, 3, some FieldType.int)
abbrev M_X6_add : tmM := (yX6_add, cX6_add, 6, none)
abbrev M_X6_lessLeft : tmM := (yX6_lessLeft, cX6_lessLeft, 2, some FieldType.int)
abbrev M_X6_cut : tmM := (yX6_cut, cX6_cut, 4, some FieldType.int)
abbrev M_X6_join : tmM := (yX6_join, cX6_join, 8, some FieldType.int)
abbrev M_X6_undo : tmM := (yX6_undo, cX6_undo, 2, some FieldType.int)
abbrev M_X6_roomFrom : tmM := (yX6_roomFrom, cX6_roomFrom, 5, some FieldType.int)
abbrev M_X6_roomTo : tmM := (yX6_roomTo, cX6_roomTo, 5, some FieldType.int)
abbrev M_X6_isAhead : tmM := (yX6_isAhead, cX6_isAhead, 3, some FieldType.boolean)
abbrev M_X6_planOne : tmM := (yX6_planOne, cX6_planOne, 7, some FieldType.boolean)
abbrev M_X6_plan : tmM := (yX6_plan, cX6_plan, 2, some FieldType.int)
abbrev M_X6_left : tmM := (yX6_left, cX6_left, 2, some FieldType.int)
abbrev M_X6_piecesOf : tmM := (yX6_piecesOf, cX6_piecesOf, 4, some FieldType.int)
abbrev M_X6_pieces : tmM := (yX6_pieces, cX6_pieces, 2, some FieldType.int)
abbrev M_X6_pieceFrom : tmM := (yX6_pieceFrom, cX6_pieceFrom, 5, some FieldType.int)
abbrev M_X6_told : tmM := (yX6_told, cX6_told, 3, some FieldType.int)
abbrev M_X6_piece : tmM := (yX6_piece, cX6_piece, 6, some FieldType.int)
abbrev M_X6_cuts : tmM := (yX6_cuts, cX6_cuts, 5, some FieldType.int)
abbrev M_X6_longestRoom : tmM := (yX6_longestRoom, cX6_longestRoom, 5, some FieldType.int)
abbrev M_X6_bestUse : tmM := (yX6_bestUse, cX6_bestUse, 10, some FieldType.int)
abbrev M_X6_used : tmM := (yX6_used, cX6_used, 7, some FieldType.double)
abbrev M_X6_digest : tmM := (yX6_digest, cX6_digest, 6, some FieldType.long)
abbrev M_L_addBoard : tmM := (yL_addBoard, cL_addBoard, 6, some FieldType.int)
abbrev M_L_addDefect : tmM := (yL_addDefect, cL_addDefect, 7, some FieldType.int)
abbrev M_L_addPart : tmM := (yL_addPart, cL_addPart, 8, some FieldType.int)
abbrev M_L_setSaw : tmM := (yL_setSaw, cL_setSaw, 4, some FieldType.int)
abbrev M_L_setJoint : tmM := (yL_setJoint, cL_setJoint, 4, some FieldType.int)
abbrev M_L_grade : tmM := (yL_grade, cL_grade, 5, some FieldType.int)
abbrev M_L_stretches : tmM := (yL_stretches, cL_stretches, 5, some FieldType.int)
abbrev M_L_stretch : tmM := (yL_stretch, cL_stretch, 7, some FieldType.int)
abbrev M_L_fits : tmM := (yL_fits, cL_fits, 6, some FieldType.int)
abbrev M_L_earliest : tmM := (yL_earliest, cL_earliest, 5, some FieldType.int)
abbrev M_L_cut : tmM := (yL_cut, cL_cut, 6, some FieldType.int)
abbrev M_L_join : tmM := (yL_join, cL_join, 9, some FieldType.int)
abbrev M_L_undo : tmM := (yL_undo, cL_undo, 3, some FieldType.int)
abbrev M_L_left : tmM := (yL_left, cL_left, 4, some FieldType.int)
abbrev M_L_pieces : tmM := (yL_pieces, cL_pieces, 4, some FieldType.int)
abbrev M_L_piece : tmM := (yL_piece, cL_piece, 6, some FieldType.int)
abbrev M_L_cuts : tmM := (yL_cuts, cL_cuts, 4, some FieldType.int)
abbrev M_L_longestRoom : tmM := (yL_longestRoom, cL_longestRoom, 4, some FieldType.int)
abbrev M_L_bestUse : tmM := (yL_bestUse, cL_bestUse, 6, some FieldType.int)
abbrev M_L_law : tmM := (yL_law, cL_law, 9, some .boolean)
theorem u_Jx4a65c : ∀ w ∈ u_ws RJx4a65c TJx4a65c 3, w ∈ ALL := fun w hw => List.mem_filter.mpr ⟨(by decide +kernel : ∀ w ∈ u_ws RJx4a65c TJx4a65c 3, w ∈ lw_tbl) w hw, (by decide +kernel : ∀ w ∈ u_ws RJx4a65c TJx4a65c 3, goodWord w = true) w hw⟩
theorem u_X0 : ∀ w ∈ u_ws RX0 TX0 5, w ∈ ALL := fun w hw => List.mem_filter.mpr ⟨(by decide +kernel : ∀ w ∈ u_ws RX0 TX0 5, w ∈ lw_tbl) w hw, (by decide +kernel : ∀ w ∈ u_ws RX0 TX0 5, goodWord w = true) w hw⟩
theorem u_X1 : ∀ w ∈ u_ws RX1 TX1 3, w ∈ ALL := fun w hw => List.mem_filter.mpr ⟨(by decide +kernel : ∀ w ∈ u_ws RX1 TX1 3, w ∈ lw_tbl) w hw, (by decide +kernel : ∀ w ∈ u_ws RX1 TX1 3, goodWord w = true) w hw⟩
theorem u_X2 : ∀ w ∈ u_ws RX2 TX2 3, w ∈ ALL := fun w hw => List.mem_filter.mpr ⟨(by decide +kernel : ∀ w ∈ u_ws RX2 TX2 3, w ∈ lw_tbl) w hw, (by decide +kernel : ∀ w ∈ u_ws RX2 TX2 3, goodWord w = true) w hw⟩
theorem u_X3 : ∀ w ∈ u_ws RX3 TX3 6, w ∈ ALL := fun w hw => List.mem_filter.mpr ⟨(by decide +kernel : ∀ w ∈ u_ws RX3 TX3 6, w ∈ lw_tbl) w hw, (by decide +kernel : ∀ w ∈ u_ws RX3 TX3 6, goodWord w = true) w hw⟩
theorem u_X4 : ∀ w ∈ u_ws RX4 TX4 5, w ∈ ALL := fun w hw => List.mem_filter.mpr ⟨(by decide +kernel : ∀ w ∈ u_ws RX4 TX4 5, w ∈ lw_tbl) w hw, (by decide +kernel : ∀ w ∈ u_ws RX4 TX4 5, goodWord w = true) w hw⟩
theorem u_X5 : ∀ w ∈ u_ws RX5 TX5 8, w ∈ ALL := fun w hw => List.mem_filter.mpr ⟨(by decide +kernel : ∀ w ∈ u_ws RX5 TX5 8, w ∈ lw_tbl) w hw, (by decide +kernel : ∀ w ∈ u_ws RX5 TX5 8, goodWord w = true) w hw⟩
theorem u_X6 : ∀ w ∈ u_ws RX6 TX6 15, w ∈ ALL := fun w hw => List.mem_filter.mpr ⟨(by decide +kernel : ∀ w ∈ u_ws RX6 TX6 15, w ∈ lw_tbl) w hw, (by decide +kernel : ∀ w ∈ u_ws RX6 TX6 15, goodWord w = true) w hw⟩
theorem k_Jx4a65c_1 : tm_ki RJx4a65c 1 M_Jxc12de_init_da8c8 0 := ⟨tm_in1 43 rfl rfl, tm_in1 44 rfl rfl, ⟨rfl, rfl⟩, tm_in1 3 rfl rfl, tm_in1 45 rfl rfl, ⟨by decide, by decide⟩, by decide +kernel⟩
theorem w_Jx4a65c_39 : (Cond.fieldLink "java/util/ArrayList" (39 : Nat) "java/util/ArrayList" "DEFAULTCAPACITY_EMPTY_ELEMENTDATA" "[Ljava/lang/Object;") ∈ ALL := tm_in1 50 rfl rfl
theorem f_Jx4a65c_9 : tm_f RJx4a65c 9 0 1 := ⟨RJx4a65c, "java/util/ArrayList", TJx4a65c, 3, rfl, u_Jx4a65c, by decide, Or.inl (tm_in1 52 rfl rfl), Or.inl rfl⟩
theorem k_Jx4a65c_73 : tm_ks RJx4a65c 73 M_J8_newLength_cabcc 3 := ⟨tm_in3 81 rfl rfl, tm_in2 83 rfl rfl, trivial, tm_in1 12 rfl rfl, tm_in2 84 rfl rfl, ⟨by decide, by decide⟩, by decide +kernel⟩
theorem k_Jx4a65c_66 : tm_ks RJx4a65c 66 M_J7_copyOf_1904c 2 := ⟨tm_in3 82 rfl rfl, tm_in3 83 rfl rfl, trivial, tm_in1 14 rfl rfl, tm_in3 84 rfl rfl, ⟨by decide, by decide⟩, by decide +kernel⟩
theorem w_Jx4a65c_7 : (Cond.classLink "java/util/ArrayList" (7 : Nat) "java/lang/Object") ∈ ALL := tm_in3 109 rfl rfl
theorem f_Jx4a65c_48 : tm_f RJx4a65c 48 0 2 := ⟨RJx4a65c, "java/util/ArrayList", TJx4a65c, 3, rfl, u_Jx4a65c, by decide, Or.inl (tm_in1 53 rfl rfl), Or.inl rfl⟩
theorem k_Jx4a65c_69 : tm_kv RJx4a65c 69 M_Jx4a65c_grow_92f84 1 := ⟨tm_in3 77 rfl rfl, tm_in3 79 rfl rfl, tm_inS 16 rfl rfl, tm_in1 4 rfl rfl, tm_in3 80 rfl rfl, ⟨by decide, by decide⟩, by decide +kernel⟩
theorem k_Jx4a65c_118 : tm_ks RJx4a65c 118 M_J15_checkIndex_7cf53 2 := ⟨tm_in1 102 rfl rfl, tm_in1 103 rfl rfl, trivial, tm_in1 17 rfl rfl, tm_in1 104 rfl rfl, ⟨by decide, by decide⟩, by decide +kernel⟩
theorem k_Jx4a65c_123 : tm_kv RJx4a65c 123 M_Jx4a65c_elementData_915e3 1 := ⟨tm_in1 108 rfl rfl, tm_in1 109 rfl rfl, tm_in1 110 rfl rfl, tm_in1 4 rfl rfl, tm_in1 111 rfl rfl, ⟨by decide, by decide⟩, by decide +kernel⟩
theorem k_Jx4a65c_129 : tm_kv RJx4a65c 129 M_Jx4a65c_grow_d5877 0 := ⟨tm_in3 73 rfl rfl, tm_in3 75 rfl rfl, tm_inS 15 rfl rfl, tm_in1 4 rfl rfl, tm_in3 76 rfl rfl, ⟨by decide, by decide⟩, by decide +kernel⟩
theorem f_Jx4a65c_63 : tm_f RJx4a65c 63 0 0 := ⟨RJx4a65c, "java/util/ArrayList", TJx4a65c, 3, rfl, u_Jx4a65c, by decide, Or.inl (tm_in1 55 rfl rfl), Or.inr (tm_in1 56 rfl rfl)⟩
theorem k_Jx4a65c_131 : tm_kv RJx4a65c 131 M_Jx4a65c_add_72be8 3 := ⟨tm_in3 115 rfl rfl, tm_in3 117 rfl rfl, tm_inS 17 rfl rfl, tm_in1 4 rfl rfl, tm_in3 118 rfl rfl, ⟨by decide, by decide⟩, by decide +kernel⟩
theorem k_Jx4a65c_135 : tm_kv RJx4a65c 135 M_Jx4a65c_rangeCheckForAdd_d00df 1 := ⟨tm_in1 221 rfl rfl, tm_in1 223 rfl rfl, tm_inS 12 rfl rfl, tm_in1 4 rfl rfl, tm_in1 224 rfl rfl, ⟨by decide, by decide⟩, by decide +kernel⟩
theorem k_Jx4a65c_144 : tm_kv RJx4a65c 144 M_Jx4a65c_fastRemove_b59b0 2 := ⟨tm_in4 188 rfl rfl, tm_in4 190 rfl rfl, tm_inS 33 rfl rfl, tm_in1 4 rfl rfl, tm_in4 191 rfl rfl, ⟨by decide, by decide⟩, by decide +kernel⟩
theorem k_Jxc12de_1 : tm_ki RJxc12de 1 M_Jxa1e45_init_da8c8 0 := ⟨tm_in1 46 rfl rfl, tm_in1 47 rfl rfl, ⟨rfl, rfl⟩, tm_in1 2 rfl rfl, tm_in1 48 rfl rfl, ⟨by decide, by decide⟩, by decide +kernel⟩
theorem f_Jxc12de_7 : tm_f RJxc12de 7 0 0 := ⟨RJx4a65c, "java/util/AbstractList", TJx4a65c, 3, rfl, u_Jx4a65c, by decide, Or.inl (tm_in1 54 rfl rfl), Or.inl rfl⟩
theorem k_J7_300 : tm_ks RJ7 300 M_J7_copyOf_6403c 3 := ⟨tm_in3 102 rfl rfl, tm_in3 103 rfl rfl, trivial, tm_in1 14 rfl rfl, tm_in3 104 rfl rfl, ⟨by decide, by decide⟩, by decide +kernel⟩
theorem w_J7_110 : (Cond.classLink "java/util/Arrays" (110 : Nat) "[Ljava/lang/Object;") ∈ ALL := tm_in3 105 rfl rfl
theorem w_J7_2 : (Cond.classLink "java/util/Arrays" (2 : Nat) "java/lang/Object") ∈ ALL := tm_in3 107 rfl rfl
theorem k_J15_105 : tm_ks RJ15 105 M_J3_checkIndex_8e157 3 := ⟨tm_in1 105 rfl rfl, tm_in1 106 rfl rfl, trivial, tm_in1 18 rfl rfl, tm_in1 107 rfl rfl, ⟨by decide, by decide⟩, by decide +kernel⟩
theorem w_J8_200 : (Cond.constant "jdk/internal/util/ArraysSupport" (200 : Nat) (2147483639 : Int32)) ∈ ALL := tm_in2 86 rfl rfl
theorem n_X0_7 : tm_nw9 RX0 7 0 [.int (I 0), .null, .int (I 0)] := ⟨RJx4a65c, TJx4a65c, 3, tyJx4a65c, rfl, u_Jx4a65c, tyJx4a65c_ok, tm_in3 185 rfl rfl, tm_in1 39 rfl rfl, tm_in1 4 rfl rfl, rfl, by decide⟩
theorem k_X0_9 : tm_ki RX0 9 M_Jx4a65c_init_da8c8 0 := ⟨tm_in3 186 rfl rfl, tm_in1 41 rfl rfl, ⟨rfl, rfl⟩, tm_in1 4 rfl rfl, tm_in1 42 rfl rfl, ⟨by decide, by decide⟩, by decide +kernel⟩
theorem f_X0_10 : tm_f RX0 10 1 3 := ⟨RX0, "TimberList$Board", TX0, 5, rfl, u_X0, by decide, Or.inl (tm_in3 192 rfl rfl), Or.inl rfl⟩
theorem f_X0_16 : tm_f RX0 16 1 4 := ⟨RX0, "TimberList$Board", TX0, 5, rfl, u_X0, by decide, Or.inl (tm_in3 193 rfl rfl), Or.inl rfl⟩
theorem f_X0_19 : tm_f RX0 19 1 0 := ⟨RX0, "TimberList$Board", TX0, 5, rfl, u_X0, by decide, Or.inl (tm_in3 187 rfl rfl), Or.inl rfl⟩
theorem f_X0_23 : tm_f RX0 23 1 1 := ⟨RX0, "TimberList$Board", TX0, 5, rfl, u_X0, by decide, Or.inl (tm_in3 189 rfl rfl), Or.inl rfl⟩
theorem f_X0_26 : tm_f RX0 26 1 2 := ⟨RX0, "TimberList$Board", TX0, 5, rfl, u_X0, by decide, Or.inl (tm_in3 191 rfl rfl), Or.inl rfl⟩
theorem k_X0_29 : tm_kv RX0 29 M_Jx4a65c_size_8abf5 0 := ⟨tm_in1 127 rfl rfl, tm_in1 95 rfl rfl, tm_in1 96 rfl rfl, tm_in1 4 rfl rfl, tm_in1 97 rfl rfl, ⟨by decide, by decide⟩, by decide +kernel⟩
theorem k_X0_33 : tm_kv RX0 33 M_Jx4a65c_get_915e3 1 := ⟨tm_in1 132 rfl rfl, tm_in1 99 rfl rfl, tm_in1 100 rfl rfl, tm_in1 4 rfl rfl, tm_in1 101 rfl rfl, ⟨by decide, by decide⟩, by decide +kernel⟩
theorem w_X0_37 : (Cond.classLink "TimberList$Board" (37 : Nat) "TimberList$Defect") ∈ ALL := tm_in1 146 rfl rfl
theorem f_X0_39 : tm_f RX0 39 3 0 := ⟨RX2, "TimberList$Defect", TX2, 3, rfl, u_X2, by decide, Or.inr ⟨_, tm_nn3 235 rfl rfl⟩, Or.inl rfl⟩
theorem k_X0_42 : tm_kv RX0 42 M_Jx4a65c_add_7a177 2 := ⟨tm_in1 217 rfl rfl, tm_in1 218 rfl rfl, tm_in1 219 rfl rfl, tm_in1 4 rfl rfl, tm_in1 220 rfl rfl, ⟨by decide, by decide⟩, by decide +kernel⟩
theorem w_X0_46 : (Cond.classLink "TimberList$Board" (46 : Nat) "TimberList$Piece") ∈ ALL := tm_in1 133 rfl rfl
theorem f_X0_48 : tm_f RX0 48 5 2 := ⟨RX4, "TimberList$Piece", TX4, 5, rfl, u_X4, by decide, Or.inr ⟨_, tm_nn1 175 rfl rfl⟩, Or.inl rfl⟩
theorem k_X0_49 : tm_kv RX0 49 M_Jx4a65c_remove_915e3 1 := ⟨tm_in4 196 rfl rfl, tm_in4 185 rfl rfl, tm_in4 186 rfl rfl, tm_in1 4 rfl rfl, tm_in4 187 rfl rfl, ⟨by decide, by decide⟩, by decide +kernel⟩
theorem f_X0_52 : tm_f RX0 52 5 3 := ⟨RX4, "TimberList$Piece", TX4, 5, rfl, u_X4, by decide, Or.inr ⟨_, tm_nn1 178 rfl rfl⟩, Or.inl rfl⟩
theorem f_X0_55 : tm_f RX0 55 5 0 := ⟨RX4, "TimberList$Piece", TX4, 5, rfl, u_X4, by decide, Or.inr ⟨_, tm_nn1 171 rfl rfl⟩, Or.inl rfl⟩
theorem f_X0_59 : tm_f RX0 59 4 3 := ⟨RX3, "TimberList$Part", TX3, 6, rfl, u_X3, by decide, Or.inr ⟨_, tm_nn4 35 rfl rfl⟩, Or.inl rfl⟩
theorem f_X0_62 : tm_f RX0 62 3 1 := ⟨RX2, "TimberList$Defect", TX2, 3, rfl, u_X2, by decide, Or.inr ⟨_, tm_nn3 237 rfl rfl⟩, Or.inl rfl⟩
theorem f_X0_63 : tm_f RX0 63 3 2 := ⟨RX2, "TimberList$Defect", TX2, 3, rfl, u_X2, by decide, Or.inr ⟨_, tm_nn3 239 rfl rfl⟩, Or.inl rfl⟩
theorem k_X0_70 : tm_kv RX0 70 M_X0_firstWorse 2 := ⟨tm_in1 142 rfl rfl, tm_in1 144 rfl rfl, tm_inS 6 rfl rfl, tm_in1 11 rfl rfl, tm_in1 145 rfl rfl, ⟨by decide, by decide⟩, by decide +kernel⟩
theorem k_X0_73 : tm_kv RX0 73 M_X0_firstGood 2 := ⟨tm_in1 150 rfl rfl, tm_in1 152 rfl rfl, tm_inS 7 rfl rfl, tm_in1 11 rfl rfl, tm_in1 153 rfl rfl, ⟨by decide, by decide⟩, by decide +kernel⟩
theorem k_X0_76 : tm_kv RX0 76 M_X0_nextStretchStart 2 := ⟨tm_in4 107 rfl rfl, tm_in4 109 rfl rfl, tm_inS 27 rfl rfl, tm_in1 11 rfl rfl, tm_in4 110 rfl rfl, ⟨by decide, by decide⟩, by decide +kernel⟩
theorem f_X0_79 : tm_f RX0 79 4 2 := ⟨RX3, "TimberList$Part", TX3, 6, rfl, u_X3, by decide, Or.inr ⟨_, tm_nn4 32 rfl rfl⟩, Or.inl rfl⟩
theorem k_X0_80 : tm_kv RX0 80 M_X0_isClearOfPieces 3 := ⟨tm_in4 140 rfl rfl, tm_in4 142 rfl rfl, tm_inS 31 rfl rfl, tm_in1 11 rfl rfl, tm_in4 143 rfl rfl, ⟨by decide, by decide⟩, by decide +kernel⟩
theorem k_X0_84 : tm_kn RX0 84 M_X4_isClearOf 3 := ⟨⟨_, tm_nn4 144 rfl rfl⟩, tm_in4 146 rfl rfl, tm_inS 32 rfl rfl, tm_in1 29 rfl rfl, tm_in4 147 rfl rfl, ⟨by decide, by decide⟩, by decide +kernel⟩
theorem k_X0_87 : tm_kv RX0 87 M_X0_roomStart 2 := ⟨tm_in1 128 rfl rfl, tm_in1 130 rfl rfl, tm_inS 3 rfl rfl, tm_in1 11 rfl rfl, tm_in1 131 rfl rfl, ⟨by decide, by decide⟩, by decide +kernel⟩
theorem k_X0_90 : tm_kv RX0 90 M_X0_roomEnd 2 := ⟨tm_in1 134 rfl rfl, tm_in1 136 rfl rfl, tm_inS 4 rfl rfl, tm_in1 11 rfl rfl, tm_in1 137 rfl rfl, ⟨by decide, by decide⟩, by decide +kernel⟩
theorem k_X0_93 : tm_kv RX0 93 M_X0_earliestWithin 3 := ⟨tm_in1 138 rfl rfl, tm_in1 140 rfl rfl, tm_inS 5 rfl rfl, tm_in1 11 rfl rfl, tm_in1 141 rfl rfl, ⟨by decide, by decide⟩, by decide +kernel⟩
theorem f_X0_97 : tm_f RX0 97 4 1 := ⟨RX3, "TimberList$Part", TX3, 6, rfl, u_X3, by decide, Or.inr ⟨_, tm_nn4 30 rfl rfl⟩, Or.inl rfl⟩
theorem f_X1_7 : tm_f RX1 7 2 0 := ⟨RX1, "TimberList$Cutting", TX1, 3, rfl, u_X1, by decide, Or.inl (tm_in1 196 rfl rfl), Or.inl rfl⟩
theorem f_X1_13 : tm_f RX1 13 2 1 := ⟨RX1, "TimberList$Cutting", TX1, 3, rfl, u_X1, by decide, Or.inl (tm_in1 198 rfl rfl), Or.inl rfl⟩
theorem f_X1_17 : tm_f RX1 17 2 2 := ⟨RX1, "TimberList$Cutting", TX1, 3, rfl, u_X1, by decide, Or.inl (tm_in1 200 rfl rfl), Or.inl rfl⟩
theorem f_X2_7 : tm_f RX2 7 3 0 := ⟨RX2, "TimberList$Defect", TX2, 3, rfl, u_X2, by decide, Or.inl (tm_in3 234 rfl rfl), Or.inl rfl⟩
theorem f_X2_13 : tm_f RX2 13 3 1 := ⟨RX2, "TimberList$Defect", TX2, 3, rfl, u_X2, by decide, Or.inl (tm_in3 236 rfl rfl), Or.inl rfl⟩
theorem f_X2_16 : tm_f RX2 16 3 2 := ⟨RX2, "TimberList$Defect", TX2, 3, rfl, u_X2, by decide, Or.inl (tm_in3 238 rfl rfl), Or.inl rfl⟩
theorem f_X3_7 : tm_f RX3 7 4 0 := ⟨RX3, "TimberList$Part", TX3, 6, rfl, u_X3, by decide, Or.inl (tm_in4 25 rfl rfl), Or.inl rfl⟩
theorem f_X3_13 : tm_f RX3 13 4 1 := ⟨RX3, "TimberList$Part", TX3, 6, rfl, u_X3, by decide, Or.inl (tm_in4 28 rfl rfl), Or.inl rfl⟩
theorem f_X3_16 : tm_f RX3 16 4 2 := ⟨RX3, "TimberList$Part", TX3, 6, rfl, u_X3, by decide, Or.inl (tm_in4 31 rfl rfl), Or.inl rfl⟩
theorem f_X3_19 : tm_f RX3 19 4 3 := ⟨RX3, "TimberList$Part", TX3, 6, rfl, u_X3, by decide, Or.inl (tm_in4 34 rfl rfl), Or.inl rfl⟩
theorem f_X3_22 : tm_f RX3 22 4 4 := ⟨RX3, "TimberList$Part", TX3, 6, rfl, u_X3, by decide, Or.inl (tm_in4 37 rfl rfl), Or.inl rfl⟩
theorem f_X3_26 : tm_f RX3 26 4 5 := ⟨RX3, "TimberList$Part", TX3, 6, rfl, u_X3, by decide, Or.inl (tm_in4 39 rfl rfl), Or.inl rfl⟩
theorem f_X4_7 : tm_f RX4 7 5 0 := ⟨RX4, "TimberList$Piece", TX4, 5, rfl, u_X4, by decide, Or.inl (tm_in1 170 rfl rfl), Or.inl rfl⟩
theorem f_X4_13 : tm_f RX4 13 5 1 := ⟨RX4, "TimberList$Piece", TX4, 5, rfl, u_X4, by decide, Or.inl (tm_in1 172 rfl rfl), Or.inl rfl⟩
theorem f_X4_17 : tm_f RX4 17 5 2 := ⟨RX4, "TimberList$Piece", TX4, 5, rfl, u_X4, by decide, Or.inl (tm_in1 174 rfl rfl), Or.inl rfl⟩
theorem f_X4_21 : tm_f RX4 21 5 3 := ⟨RX4, "TimberList$Piece", TX4, 5, rfl, u_X4, by decide, Or.inl (tm_in1 177 rfl rfl), Or.inl rfl⟩
theorem f_X4_24 : tm_f RX4 24 5 4 := ⟨RX4, "TimberList$Piece", TX4, 5, rfl, u_X4, by decide, Or.inl (tm_in1 180 rfl rfl), Or.inl rfl⟩
theorem f_X4_28 : tm_f RX4 28 4 0 := ⟨RX3, "TimberList$Part", TX3, 6, rfl, u_X3, by decide, Or.inr ⟨_, tm_nn4 26 rfl rfl⟩, Or.inl rfl⟩
theorem n_X5_7 : tm_nw9 RX5 7 0 [.int (I 0), .null, .int (I 0)] := ⟨RJx4a65c, TJx4a65c, 3, tyJx4a65c, rfl, u_Jx4a65c, tyJx4a65c_ok, tm_in1 38 rfl rfl, tm_in1 39 rfl rfl, tm_in1 4 rfl rfl, rfl, by decide⟩
theorem k_X5_9 : tm_ki RX5 9 M_Jx4a65c_init_da8c8 0 := ⟨tm_in1 40 rfl rfl, tm_in1 41 rfl rfl, ⟨rfl, rfl⟩, tm_in1 4 rfl rfl, tm_in1 42 rfl rfl, ⟨by decide, by decide⟩, by decide +kernel⟩
theorem f_X5_10 : tm_f RX5 10 6 0 := ⟨RX5, "TimberList", TX5, 8, rfl, u_X5, by decide, Or.inl (tm_in1 64 rfl rfl), Or.inl rfl⟩
theorem f_X5_16 : tm_f RX5 16 6 1 := ⟨RX5, "TimberList", TX5, 8, rfl, u_X5, by decide, Or.inl (tm_in1 65 rfl rfl), Or.inl rfl⟩
theorem f_X5_19 : tm_f RX5 19 6 2 := ⟨RX5, "TimberList", TX5, 8, rfl, u_X5, by decide, Or.inl (tm_in1 66 rfl rfl), Or.inl rfl⟩
theorem f_X5_22 : tm_f RX5 22 6 3 := ⟨RX5, "TimberList", TX5, 8, rfl, u_X5, by decide, Or.inl (tm_in1 67 rfl rfl), Or.inl rfl⟩
theorem f_X5_25 : tm_f RX5 25 6 4 := ⟨RX5, "TimberList", TX5, 8, rfl, u_X5, by decide, Or.inl (tm_in1 68 rfl rfl), Or.inl rfl⟩
theorem f_X5_29 : tm_f RX5 29 6 5 := ⟨RX5, "TimberList", TX5, 8, rfl, u_X5, by decide, Or.inl (tm_in1 69 rfl rfl), Or.inl rfl⟩
theorem f_X5_33 : tm_f RX5 33 6 6 := ⟨RX5, "TimberList", TX5, 8, rfl, u_X5, by decide, Or.inl (tm_in1 70 rfl rfl), Or.inl rfl⟩
theorem f_X5_36 : tm_f RX5 36 6 7 := ⟨RX5, "TimberList", TX5, 8, rfl, u_X5, by decide, Or.inl (tm_in1 71 rfl rfl), Or.inl rfl⟩
theorem k_X5_39 : tm_ks RX5 39 M_X5_isWithin 3 := ⟨tm_in3 156 rfl rfl, tm_in3 157 rfl rfl, trivial, tm_in1 1 rfl rfl, tm_in3 158 rfl rfl, ⟨by decide, by decide⟩, by decide +kernel⟩
theorem k_X5_43 : tm_ks RX5 43 M_X5_isGrade 1 := ⟨tm_in3 159 rfl rfl, tm_in3 160 rfl rfl, trivial, tm_in1 1 rfl rfl, tm_in3 161 rfl rfl, ⟨by decide, by decide⟩, by decide +kernel⟩
theorem k_X5_54 : tm_kv RX5 54 M_Jx4a65c_size_8abf5 0 := ⟨tm_in1 94 rfl rfl, tm_in1 95 rfl rfl, tm_in1 96 rfl rfl, tm_in1 4 rfl rfl, tm_in1 97 rfl rfl, ⟨by decide, by decide⟩, by decide +kernel⟩
theorem n_X5_63 : tm_nw9 RX5 63 1 [.int (I 0), .int (I 0), .int (I 0), .null, .null] := ⟨RX0, TX0, 5, tyX0, rfl, u_X0, tyX0_ok, tm_in1 121 rfl rfl, tm_in1 125 rfl rfl, tm_in1 11 rfl rfl, rfl, by decide⟩
theorem k_X5_65 : tm_kin RX5 65 M_X0_init 3 := ⟨⟨_, tm_nn3 181 rfl rfl⟩, tm_in3 182 rfl rfl, ⟨rfl, rfl⟩, tm_in1 11 rfl rfl, tm_in3 183 rfl rfl, ⟨by decide, by decide⟩, by decide +kernel⟩
theorem k_X5_68 : tm_kv RX5 68 M_Jx4a65c_add_9ea2d 1 := ⟨tm_in3 111 rfl rfl, tm_in3 112 rfl rfl, tm_in3 113 rfl rfl, tm_in1 4 rfl rfl, tm_in3 114 rfl rfl, ⟨by decide, by decide⟩, by decide +kernel⟩
theorem k_X5_72 : tm_kv RX5 72 M_X5_boardNumbered 1 := ⟨tm_in3 214 rfl rfl, tm_in3 216 rfl rfl, tm_inS 20 rfl rfl, tm_in1 1 rfl rfl, tm_in3 217 rfl rfl, ⟨by decide, by decide⟩, by decide +kernel⟩
theorem f_X5_76 : tm_f RX5 76 1 0 := ⟨RX0, "TimberList$Board", TX0, 5, rfl, u_X0, by decide, Or.inr ⟨_, tm_nn3 188 rfl rfl⟩, Or.inl rfl⟩
theorem k_X5_83 : tm_kn RX5 83 M_X0_hasPieceSpoiledBy 3 := ⟨⟨_, tm_nn3 223 rfl rfl⟩, tm_in3 225 rfl rfl, tm_inS 21 rfl rfl, tm_in1 11 rfl rfl, tm_in3 226 rfl rfl, ⟨by decide, by decide⟩, by decide +kernel⟩
theorem n_X5_88 : tm_nw9 RX5 88 3 [.int (I 0), .int (I 0), .int (I 0)] := ⟨RX2, TX2, 3, tyX2, rfl, u_X2, tyX2_ok, tm_in3 228 rfl rfl, tm_in3 229 rfl rfl, tm_in1 19 rfl rfl, rfl, by decide⟩
theorem k_X5_90 : tm_kin RX5 90 M_X2_init 3 := ⟨⟨_, tm_nn3 230 rfl rfl⟩, tm_in3 231 rfl rfl, ⟨rfl, rfl⟩, tm_in1 19 rfl rfl, tm_in3 232 rfl rfl, ⟨by decide, by decide⟩, by decide +kernel⟩
theorem k_X5_91 : tm_kn RX5 91 M_X0_insertDefect 1 := ⟨⟨_, tm_nn4 7 rfl rfl⟩, tm_in4 9 rfl rfl, tm_inS 22 rfl rfl, tm_in1 11 rfl rfl, tm_in4 10 rfl rfl, ⟨by decide, by decide⟩, by decide +kernel⟩
theorem n_X5_99 : tm_nw9 RX5 99 4 [.int (I 0), .int (I 0), .int (I 0), .int (I 0), .int (I 0), .int (I 0)] := ⟨RX3, TX3, 6, tyX3, rfl, u_X3, tyX3_ok, tm_in1 112 rfl rfl, tm_in4 20 rfl rfl, tm_in1 27 rfl rfl, rfl, by decide⟩
theorem k_X5_101 : tm_kin RX5 101 M_X3_init 6 := ⟨⟨_, tm_nn4 21 rfl rfl⟩, tm_in4 22 rfl rfl, ⟨rfl, rfl⟩, tm_in1 27 rfl rfl, tm_in4 23 rfl rfl, ⟨by decide, by decide⟩, by decide +kernel⟩
theorem k_X5_104 : tm_kv RX5 104 M_X5_insertIntoPlanningOrder 1 := ⟨tm_in4 54 rfl rfl, tm_in4 56 rfl rfl, tm_inS 23 rfl rfl, tm_in1 1 rfl rfl, tm_in4 57 rfl rfl, ⟨by decide, by decide⟩, by decide +kernel⟩
theorem f_X5_108 : tm_f RX5 108 4 0 := ⟨RX3, "TimberList$Part", TX3, 6, rfl, u_X3, by decide, Or.inr ⟨_, tm_nn4 27 rfl rfl⟩, Or.inl rfl⟩
theorem k_X5_113 : tm_kv RX5 113 M_Jx4a65c_isEmpty_aae02 0 := ⟨tm_in3 123 rfl rfl, tm_in3 124 rfl rfl, tm_in3 125 rfl rfl, tm_in1 4 rfl rfl, tm_in3 126 rfl rfl, ⟨by decide, by decide⟩, by decide +kernel⟩
theorem k_X5_126 : tm_kn RX5 126 M_X0_gradeAt 1 := ⟨⟨_, tm_nn4 88 rfl rfl⟩, tm_in4 90 rfl rfl, tm_inS 25 rfl rfl, tm_in1 11 rfl rfl, tm_in4 91 rfl rfl, ⟨by decide, by decide⟩, by decide +kernel⟩
theorem k_X5_130 : tm_ks RX5 130 M_X5_checkGrade 1 := ⟨tm_in4 99 rfl rfl, tm_in4 100 rfl rfl, trivial, tm_in1 1 rfl rfl, tm_in4 101 rfl rfl, ⟨by decide, by decide⟩, by decide +kernel⟩
theorem k_X5_134 : tm_kn RX5 134 M_X0_countStretches 1 := ⟨⟨_, tm_nn4 103 rfl rfl⟩, tm_in4 105 rfl rfl, tm_inS 26 rfl rfl, tm_in1 11 rfl rfl, tm_in4 106 rfl rfl, ⟨by decide, by decide⟩, by decide +kernel⟩
theorem k_X5_139 : tm_kn RX5 139 M_X0_stretchStart 2 := ⟨⟨_, tm_nn4 119 rfl rfl⟩, tm_in4 121 rfl rfl, tm_inS 28 rfl rfl, tm_in1 11 rfl rfl, tm_in4 122 rfl rfl, ⟨by decide, by decide⟩, by decide +kernel⟩
theorem k_X5_143 : tm_kn RX5 143 M_X0_firstWorse 2 := ⟨⟨_, tm_nn4 123 rfl rfl⟩, tm_in1 144 rfl rfl, tm_inS 6 rfl rfl, tm_in1 11 rfl rfl, tm_in1 145 rfl rfl, ⟨by decide, by decide⟩, by decide +kernel⟩
theorem k_X5_146 : tm_kv RX5 146 M_X5_partNumbered 1 := ⟨tm_in4 131 rfl rfl, tm_in4 133 rfl rfl, tm_inS 29 rfl rfl, tm_in1 1 rfl rfl, tm_in4 134 rfl rfl, ⟨by decide, by decide⟩, by decide +kernel⟩
theorem f_X5_150 : tm_f RX5 150 4 1 := ⟨RX3, "TimberList$Part", TX3, 6, rfl, u_X3, by decide, Or.inr ⟨_, tm_nn4 29 rfl rfl⟩, Or.inl rfl⟩
theorem k_X5_151 : tm_kn RX5 151 M_X0_canGive 4 := ⟨⟨_, tm_nn4 136 rfl rfl⟩, tm_in4 138 rfl rfl, tm_inS 30 rfl rfl, tm_in1 11 rfl rfl, tm_in4 139 rfl rfl, ⟨by decide, by decide⟩, by decide +kernel⟩
theorem k_X5_155 : tm_kn RX5 155 M_X0_earliestPlace 2 := ⟨⟨_, tm_nn1 122 rfl rfl⟩, tm_in1 124 rfl rfl, tm_inS 2 rfl rfl, tm_in1 11 rfl rfl, tm_in1 126 rfl rfl, ⟨by decide, by decide⟩, by decide +kernel⟩
theorem f_X5_159 : tm_f RX5 159 4 5 := ⟨RX3, "TimberList$Part", TX3, 6, rfl, u_X3, by decide, Or.inr ⟨_, tm_nn4 40 rfl rfl⟩, Or.inl rfl⟩
theorem k_X5_166 : tm_kv RX5 166 M_X5_cutSingle 3 := ⟨tm_in1 158 rfl rfl, tm_in1 160 rfl rfl, tm_inS 9 rfl rfl, tm_in1 1 rfl rfl, tm_in1 161 rfl rfl, ⟨by decide, by decide⟩, by decide +kernel⟩
theorem f_X5_172 : tm_f RX5 172 4 4 := ⟨RX3, "TimberList$Part", TX3, 6, rfl, u_X3, by decide, Or.inr ⟨_, tm_nn4 38 rfl rfl⟩, Or.inl rfl⟩
theorem n_X5_180 : tm_nw9 RX5 180 5 [.null, .null, .int (I 0), .int (I 0), .int (I 0)] := ⟨RX4, TX4, 5, tyX4, rfl, u_X4, tyX4_ok, tm_in1 164 rfl rfl, tm_in1 165 rfl rfl, tm_in1 29 rfl rfl, rfl, by decide⟩
theorem k_X5_182 : tm_kin RX5 182 M_X4_init 5 := ⟨⟨_, tm_nn1 166 rfl rfl⟩, tm_in1 167 rfl rfl, ⟨rfl, rfl⟩, tm_in1 29 rfl rfl, tm_in1 168 rfl rfl, ⟨by decide, by decide⟩, by decide +kernel⟩
theorem f_X5_185 : tm_f RX5 185 5 2 := ⟨RX4, "TimberList$Piece", TX4, 5, rfl, u_X4, by decide, Or.inr ⟨_, tm_nn1 176 rfl rfl⟩, Or.inl rfl⟩
theorem f_X5_188 : tm_f RX5 188 5 3 := ⟨RX4, "TimberList$Piece", TX4, 5, rfl, u_X4, by decide, Or.inr ⟨_, tm_nn1 179 rfl rfl⟩, Or.inl rfl⟩
theorem k_X5_191 : tm_kn RX5 191 M_X4_isClearOf 3 := ⟨⟨_, tm_nn4 174 rfl rfl⟩, tm_in4 146 rfl rfl, tm_inS 32 rfl rfl, tm_in1 29 rfl rfl, tm_in4 147 rfl rfl, ⟨by decide, by decide⟩, by decide +kernel⟩
theorem n_X5_196 : tm_nw9 RX5 196 2 [.null, .null, .null] := ⟨RX1, TX1, 3, tyX1, rfl, u_X1, tyX1_ok, tm_in1 162 rfl rfl, tm_in1 163 rfl rfl, tm_in1 28 rfl rfl, rfl, by decide⟩
theorem k_X5_198 : tm_kin RX5 198 M_X1_init 3 := ⟨⟨_, tm_nn1 192 rfl rfl⟩, tm_in1 193 rfl rfl, ⟨rfl, rfl⟩, tm_in1 28 rfl rfl, tm_in1 194 rfl rfl, ⟨by decide, by decide⟩, by decide +kernel⟩
theorem k_X5_201 : tm_kv RX5 201 M_X5_takeFromBoards 1 := ⟨tm_in1 209 rfl rfl, tm_in1 211 rfl rfl, tm_inS 10 rfl rfl, tm_in1 1 rfl rfl, tm_in1 212 rfl rfl, ⟨by decide, by decide⟩, by decide +kernel⟩
theorem k_X5_207 : tm_kv RX5 207 M_Jx4a65c_remove_915e3 1 := ⟨tm_in4 184 rfl rfl, tm_in4 185 rfl rfl, tm_in4 186 rfl rfl, tm_in1 4 rfl rfl, tm_in4 187 rfl rfl, ⟨by decide, by decide⟩, by decide +kernel⟩
theorem f_X5_211 : tm_f RX5 211 2 1 := ⟨RX1, "TimberList$Cutting", TX1, 3, rfl, u_X1, by decide, Or.inr ⟨_, tm_nn1 199 rfl rfl⟩, Or.inl rfl⟩
theorem f_X5_215 : tm_f RX5 215 5 1 := ⟨RX4, "TimberList$Piece", TX4, 5, rfl, u_X4, by decide, Or.inr ⟨_, tm_nn1 173 rfl rfl⟩, Or.inl rfl⟩
theorem k_X5_219 : tm_kn RX5 219 M_X0_removePiece 1 := ⟨⟨_, tm_nn4 192 rfl rfl⟩, tm_in4 194 rfl rfl, tm_inS 34 rfl rfl, tm_in1 11 rfl rfl, tm_in4 195 rfl rfl, ⟨by decide, by decide⟩, by decide +kernel⟩
theorem f_X5_223 : tm_f RX5 223 2 2 := ⟨RX1, "TimberList$Cutting", TX1, 3, rfl, u_X1, by decide, Or.inr ⟨_, tm_nn1 201 rfl rfl⟩, Or.inl rfl⟩
theorem f_X5_226 : tm_f RX5 226 2 0 := ⟨RX1, "TimberList$Cutting", TX1, 3, rfl, u_X1, by decide, Or.inr ⟨_, tm_nn1 197 rfl rfl⟩, Or.inl rfl⟩
theorem k_X5_230 : tm_kv RX5 230 M_Jx4a65c_get_915e3 1 := ⟨tm_in1 98 rfl rfl, tm_in1 99 rfl rfl, tm_in1 100 rfl rfl, tm_in1 4 rfl rfl, tm_in1 101 rfl rfl, ⟨by decide, by decide⟩, by decide +kernel⟩
theorem k_X5_233 : tm_kv RX5 233 M_X5_cutWhilePossible 1 := ⟨tm_in1 113 rfl rfl, tm_in1 115 rfl rfl, tm_inS 0 rfl rfl, tm_in1 1 rfl rfl, tm_in1 116 rfl rfl, ⟨by decide, by decide⟩, by decide +kernel⟩
theorem f_X5_237 : tm_f RX5 237 1 4 := ⟨RX0, "TimberList$Board", TX0, 5, rfl, u_X0, by decide, Or.inr ⟨_, tm_nn3 194 rfl rfl⟩, Or.inl rfl⟩
theorem k_X5_244 : tm_kn RX5 244 M_X4_tell 1 := ⟨⟨_, tm_nn3 143 rfl rfl⟩, tm_in3 145 rfl rfl, tm_inS 19 rfl rfl, tm_in1 29 rfl rfl, tm_in3 146 rfl rfl, ⟨by decide, by decide⟩, by decide +kernel⟩
theorem k_X5_247 : tm_kn RX5 247 M_X0_countCuts 1 := ⟨⟨_, tm_nn4 227 rfl rfl⟩, tm_in4 229 rfl rfl, tm_inS 35 rfl rfl, tm_in1 11 rfl rfl, tm_in4 230 rfl rfl, ⟨by decide, by decide⟩, by decide +kernel⟩
theorem k_X5_250 : tm_kn RX5 250 M_X0_longestRoomLength 1 := ⟨⟨_, tm_nn4 238 rfl rfl⟩, tm_in5 0 rfl rfl, tm_inS 36 rfl rfl, tm_in1 11 rfl rfl, tm_in5 1 rfl rfl, ⟨by decide, by decide⟩, by decide +kernel⟩
theorem k_X5_260 : tm_kv RX5 260 M_X5_clearBestSums 0 := ⟨tm_in5 11 rfl rfl, tm_in5 13 rfl rfl, tm_inS 37 rfl rfl, tm_in1 1 rfl rfl, tm_in5 14 rfl rfl, ⟨by decide, by decide⟩, by decide +kernel⟩
theorem f_X5_263 : tm_f RX5 263 4 2 := ⟨RX3, "TimberList$Part", TX3, 6, rfl, u_X3, by decide, Or.inr ⟨_, tm_nn4 33 rfl rfl⟩, Or.inl rfl⟩
theorem f_X5_266 : tm_f RX5 266 1 1 := ⟨RX0, "TimberList$Board", TX0, 5, rfl, u_X0, by decide, Or.inr ⟨_, tm_nn3 190 rfl rfl⟩, Or.inl rfl⟩
theorem f_X5_267 : tm_f RX5 267 4 3 := ⟨RX3, "TimberList$Part", TX3, 6, rfl, u_X3, by decide, Or.inr ⟨_, tm_nn4 36 rfl rfl⟩, Or.inl rfl⟩
theorem k_X5_270 : tm_kv RX5 270 M_X5_addToBestSums 2 := ⟨tm_in5 15 rfl rfl, tm_in5 17 rfl rfl, tm_inS 38 rfl rfl, tm_in1 1 rfl rfl, tm_in5 18 rfl rfl, ⟨by decide, by decide⟩, by decide +kernel⟩
theorem k_X5_274 : tm_kn RX5 274 M_X0_areaOfPieces 0 := ⟨⟨_, tm_nn3 127 rfl rfl⟩, tm_in3 129 rfl rfl, tm_inS 18 rfl rfl, tm_in1 11 rfl rfl, tm_in3 130 rfl rfl, ⟨by decide, by decide⟩, by decide +kernel⟩
theorem w_X5_277 : (Cond.constantLong "TimberList" (277 : Nat) (269 : Int64)) ∈ ALL := tm_in3 135 rfl rfl
theorem k_X5_279 : tm_ks RX5 279 M_X5_withNext 2 := ⟨tm_in3 136 rfl rfl, tm_in3 137 rfl rfl, trivial, tm_in1 1 rfl rfl, tm_in3 138 rfl rfl, ⟨by decide, by decide⟩, by decide +kernel⟩
theorem k_X5_283 : tm_ks RX5 283 M_X5_withPieces 2 := ⟨tm_in3 140 rfl rfl, tm_in3 141 rfl rfl, trivial, tm_in1 1 rfl rfl, tm_in3 142 rfl rfl, ⟨by decide, by decide⟩, by decide +kernel⟩
theorem k_X5_293 : tm_kn RX5 293 M_X3_isPlannedAhead 1 := ⟨⟨_, tm_nn4 58 rfl rfl⟩, tm_in4 60 rfl rfl, tm_inS 24 rfl rfl, tm_in1 27 rfl rfl, tm_in4 61 rfl rfl, ⟨by decide, by decide⟩, by decide +kernel⟩
theorem k_X5_297 : tm_kv RX5 297 M_Jx4a65c_add_7a177 2 := ⟨tm_in4 62 rfl rfl, tm_in1 218 rfl rfl, tm_in1 219 rfl rfl, tm_in1 4 rfl rfl, tm_in1 220 rfl rfl, ⟨by decide, by decide⟩, by decide +kernel⟩
theorem k_X5_300 : tm_kv RX5 300 M_X5_tightestBoard 1 := ⟨tm_in1 117 rfl rfl, tm_in1 119 rfl rfl, tm_inS 1 rfl rfl, tm_in1 1 rfl rfl, tm_in1 120 rfl rfl, ⟨by decide, by decide⟩, by decide +kernel⟩
theorem k_X5_304 : tm_kn RX5 304 M_X0_roomLengthAround 2 := ⟨⟨_, tm_nn1 154 rfl rfl⟩, tm_in1 156 rfl rfl, tm_inS 8 rfl rfl, tm_in1 11 rfl rfl, tm_in1 157 rfl rfl, ⟨by decide, by decide⟩, by decide +kernel⟩
theorem k_X5_307 : tm_kn RX5 307 M_X0_insertPiece 1 := ⟨⟨_, tm_nn1 213 rfl rfl⟩, tm_in1 215 rfl rfl, tm_inS 11 rfl rfl, tm_in1 11 rfl rfl, tm_in1 216 rfl rfl, ⟨by decide, by decide⟩, by decide +kernel⟩
theorem w_X5_313 : (Cond.constantLong "TimberList" (313 : Nat) (31 : Int64)) ∈ ALL := tm_in3 139 rfl rfl
theorem f_X6_9 : tm_f RX6 9 7 2 := ⟨RX6, "TimberListModel", TX6, 15, rfl, u_X6, by decide, Or.inl (tm_in5 28 rfl rfl), Or.inl rfl⟩
theorem f_X6_13 : tm_f RX6 13 7 4 := ⟨RX6, "TimberListModel", TX6, 15, rfl, u_X6, by decide, Or.inl (tm_in5 30 rfl rfl), Or.inl rfl⟩
theorem f_X6_16 : tm_f RX6 16 7 6 := ⟨RX6, "TimberListModel", TX6, 15, rfl, u_X6, by decide, Or.inl (tm_in5 32 rfl rfl), Or.inl rfl⟩
theorem f_X6_19 : tm_f RX6 19 7 7 := ⟨RX6, "TimberListModel", TX6, 15, rfl, u_X6, by decide, Or.inl (tm_in5 33 rfl rfl), Or.inl rfl⟩
theorem f_X6_23 : tm_f RX6 23 7 8 := ⟨RX6, "TimberListModel", TX6, 15, rfl, u_X6, by decide, Or.inl (tm_in5 34 rfl rfl), Or.inl rfl⟩
theorem f_X6_27 : tm_f RX6 27 7 9 := ⟨RX6, "TimberListModel", TX6, 15, rfl, u_X6, by decide, Or.inl (tm_in5 35 rfl rfl), Or.inl rfl⟩
theorem f_X6_30 : tm_f RX6 30 7 11 := ⟨RX6, "TimberListModel", TX6, 15, rfl, u_X6, by decide, Or.inl (tm_in5 37 rfl rfl), Or.inl rfl⟩
theorem f_X6_33 : tm_f RX6 33 7 12 := ⟨RX6, "TimberListModel", TX6, 15, rfl, u_X6, by decide, Or.inl (tm_in5 38 rfl rfl), Or.inl rfl⟩
theorem f_X6_36 : tm_f RX6 36 7 0 := ⟨RX6, "TimberListModel", TX6, 15, rfl, u_X6, by decide, Or.inl (tm_in5 26 rfl rfl), Or.inl rfl⟩
theorem f_X6_39 : tm_f RX6 39 7 1 := ⟨RX6, "TimberListModel", TX6, 15, rfl, u_X6, by decide, Or.inl (tm_in5 27 rfl rfl), Or.inl rfl⟩
theorem k_X6_42 : tm_ks RX6 42 M_X6_isIn 3 := ⟨tm_in5 81 rfl rfl, tm_in5 82 rfl rfl, trivial, tm_in1 5 rfl rfl, tm_in5 83 rfl rfl, ⟨by decide, by decide⟩, by decide +kernel⟩
theorem f_X6_46 : tm_f RX6 46 7 5 := ⟨RX6, "TimberListModel", TX6, 15, rfl, u_X6, by decide, Or.inl (tm_in5 31 rfl rfl), Or.inl rfl⟩
theorem k_X6_49 : tm_kv RX6 49 M_X6_fail 1 := ⟨tm_in5 84 rfl rfl, tm_in5 86 rfl rfl, tm_inS 39 rfl rfl, tm_in1 5 rfl rfl, tm_in5 87 rfl rfl, ⟨by decide, by decide⟩, by decide +kernel⟩
theorem k_X6_53 : tm_kv RX6 53 M_X6_isBoard 1 := ⟨tm_in5 92 rfl rfl, tm_in5 94 rfl rfl, tm_inS 40 rfl rfl, tm_in1 5 rfl rfl, tm_in5 95 rfl rfl, ⟨by decide, by decide⟩, by decide +kernel⟩
theorem k_X6_57 : tm_kv RX6 57 M_X6_length 1 := ⟨tm_in5 96 rfl rfl, tm_in5 98 rfl rfl, tm_inS 41 rfl rfl, tm_in1 5 rfl rfl, tm_in5 99 rfl rfl, ⟨by decide, by decide⟩, by decide +kernel⟩
theorem f_X6_60 : tm_f RX6 60 7 3 := ⟨RX6, "TimberListModel", TX6, 15, rfl, u_X6, by decide, Or.inl (tm_in5 29 rfl rfl), Or.inl rfl⟩
theorem f_X6_63 : tm_f RX6 63 7 10 := ⟨RX6, "TimberListModel", TX6, 15, rfl, u_X6, by decide, Or.inl (tm_in5 36 rfl rfl), Or.inl rfl⟩
theorem k_X6_66 : tm_kv RX6 66 M_X6_isOn 2 := ⟨tm_in5 100 rfl rfl, tm_in5 102 rfl rfl, tm_inS 42 rfl rfl, tm_in1 5 rfl rfl, tm_in5 103 rfl rfl, ⟨by decide, by decide⟩, by decide +kernel⟩
theorem k_X6_70 : tm_kv RX6 70 M_X6_from 1 := ⟨tm_in5 104 rfl rfl, tm_in5 106 rfl rfl, tm_inS 43 rfl rfl, tm_in1 5 rfl rfl, tm_in5 107 rfl rfl, ⟨by decide, by decide⟩, by decide +kernel⟩
theorem k_X6_73 : tm_kv RX6 73 M_X6_to 1 := ⟨tm_in5 108 rfl rfl, tm_in5 110 rfl rfl, tm_inS 44 rfl rfl, tm_in1 5 rfl rfl, tm_in5 111 rfl rfl, ⟨by decide, by decide⟩, by decide +kernel⟩
theorem k_X6_76 : tm_kv RX6 76 M_X6_partOf 1 := ⟨tm_in5 112 rfl rfl, tm_in5 114 rfl rfl, tm_inS 45 rfl rfl, tm_in1 5 rfl rfl, tm_in5 115 rfl rfl, ⟨by decide, by decide⟩, by decide +kernel⟩
theorem k_X6_79 : tm_kv RX6 79 M_X6_want 2 := ⟨tm_in5 116 rfl rfl, tm_in5 118 rfl rfl, tm_inS 46 rfl rfl, tm_in1 5 rfl rfl, tm_in5 119 rfl rfl, ⟨by decide, by decide⟩, by decide +kernel⟩
theorem k_X6_88 : tm_kv RX6 88 M_X6_gradeAt 2 := ⟨tm_in5 136 rfl rfl, tm_in5 138 rfl rfl, tm_inS 47 rfl rfl, tm_in1 5 rfl rfl, tm_in5 139 rfl rfl, ⟨by decide, by decide⟩, by decide +kernel⟩
theorem f_X6_94 : tm_f RX6 94 7 13 := ⟨RX6, "TimberListModel", TX6, 15, rfl, u_X6, by decide, Or.inl (tm_in5 39 rfl rfl), Or.inl rfl⟩
theorem k_X6_97 : tm_kv RX6 97 M_X6_nextChange 2 := ⟨tm_in5 149 rfl rfl, tm_in5 151 rfl rfl, tm_inS 49 rfl rfl, tm_in1 5 rfl rfl, tm_in5 152 rfl rfl, ⟨by decide, by decide⟩, by decide +kernel⟩
theorem f_X6_100 : tm_f RX6 100 7 14 := ⟨RX6, "TimberListModel", TX6, 15, rfl, u_X6, by decide, Or.inl (tm_in5 40 rfl rfl), Or.inl rfl⟩
theorem k_X6_103 : tm_kv RX6 103 M_X6_goOver 3 := ⟨tm_in5 145 rfl rfl, tm_in5 147 rfl rfl, tm_inS 48 rfl rfl, tm_in1 5 rfl rfl, tm_in5 148 rfl rfl, ⟨by decide, by decide⟩, by decide +kernel⟩
theorem k_X6_107 : tm_kv RX6 107 M_X6_width 1 := ⟨tm_in5 174 rfl rfl, tm_in5 176 rfl rfl, tm_inS 53 rfl rfl, tm_in1 5 rfl rfl, tm_in5 177 rfl rfl, ⟨by decide, by decide⟩, by decide +kernel⟩
theorem k_X6_110 : tm_kv RX6 110 M_X6_onward 4 := ⟨tm_in5 170 rfl rfl, tm_in5 172 rfl rfl, tm_inS 52 rfl rfl, tm_in1 5 rfl rfl, tm_in5 173 rfl rfl, ⟨by decide, by decide⟩, by decide +kernel⟩
theorem k_X6_114 : tm_kv RX6 114 M_X6_isPart 1 := ⟨tm_in5 162 rfl rfl, tm_in5 164 rfl rfl, tm_inS 50 rfl rfl, tm_in1 5 rfl rfl, tm_in5 165 rfl rfl, ⟨by decide, by decide⟩, by decide +kernel⟩
theorem k_X6_117 : tm_kv RX6 117 M_X6_isPossible 4 := ⟨tm_in5 166 rfl rfl, tm_in5 168 rfl rfl, tm_inS 51 rfl rfl, tm_in1 5 rfl rfl, tm_in5 169 rfl rfl, ⟨by decide, by decide⟩, by decide +kernel⟩
theorem k_X6_121 : tm_kv RX6 121 M_X6_earliestOn 2 := ⟨tm_in5 182 rfl rfl, tm_in5 184 rfl rfl, tm_inS 54 rfl rfl, tm_in1 5 rfl rfl, tm_in5 185 rfl rfl, ⟨by decide, by decide⟩, by decide +kernel⟩
theorem k_X6_124 : tm_kv RX6 124 M_X6_add 5 := ⟨tm_in5 190 rfl rfl, tm_in5 192 rfl rfl, tm_inS 55 rfl rfl, tm_in1 5 rfl rfl, tm_in5 193 rfl rfl, ⟨by decide, by decide⟩, by decide +kernel⟩
theorem k_X6_128 : tm_kv RX6 128 M_X6_lessLeft 1 := ⟨tm_in5 194 rfl rfl, tm_in5 196 rfl rfl, tm_inS 56 rfl rfl, tm_in1 5 rfl rfl, tm_in5 197 rfl rfl, ⟨by decide, by decide⟩, by decide +kernel⟩
theorem k_X6_131 : tm_kv RX6 131 M_X6_isAhead 2 := ⟨tm_in5 214 rfl rfl, tm_in5 216 rfl rfl, tm_inS 58 rfl rfl, tm_in1 5 rfl rfl, tm_in5 217 rfl rfl, ⟨by decide, by decide⟩, by decide +kernel⟩
theorem k_X6_134 : tm_kv RX6 134 M_X6_roomTo 2 := ⟨tm_in5 218 rfl rfl, tm_in5 220 rfl rfl, tm_inS 59 rfl rfl, tm_in1 5 rfl rfl, tm_in5 221 rfl rfl, ⟨by decide, by decide⟩, by decide +kernel⟩
theorem k_X6_137 : tm_kv RX6 137 M_X6_roomFrom 2 := ⟨tm_in5 222 rfl rfl, tm_in5 224 rfl rfl, tm_inS 60 rfl rfl, tm_in1 5 rfl rfl, tm_in5 225 rfl rfl, ⟨by decide, by decide⟩, by decide +kernel⟩
theorem k_X6_140 : tm_kv RX6 140 M_X6_planOne 0 := ⟨tm_in5 210 rfl rfl, tm_in5 212 rfl rfl, tm_inS 57 rfl rfl, tm_in1 5 rfl rfl, tm_in5 213 rfl rfl, ⟨by decide, by decide⟩, by decide +kernel⟩
theorem k_X6_144 : tm_kv RX6 144 M_X6_piecesOf 1 := ⟨tm_in5 234 rfl rfl, tm_in5 236 rfl rfl, tm_inS 61 rfl rfl, tm_in1 5 rfl rfl, tm_in5 237 rfl rfl, ⟨by decide, by decide⟩, by decide +kernel⟩
theorem k_X6_147 : tm_kv RX6 147 M_X6_pieceFrom 2 := ⟨tm_in6 2 rfl rfl, tm_in6 4 rfl rfl, tm_inS 62 rfl rfl, tm_in1 5 rfl rfl, tm_in6 5 rfl rfl, ⟨by decide, by decide⟩, by decide +kernel⟩
theorem k_X6_150 : tm_kv RX6 150 M_X6_told 2 := ⟨tm_in6 6 rfl rfl, tm_in6 8 rfl rfl, tm_inS 63 rfl rfl, tm_in1 5 rfl rfl, tm_in6 9 rfl rfl, ⟨by decide, by decide⟩, by decide +kernel⟩
theorem w_X6_153 : (Cond.constantLong "TimberListModel" (153 : Nat) (8339 : Int64)) ∈ ALL := tm_in6 30 rfl rfl
theorem w_X6_155 : (Cond.constantLong "TimberListModel" (155 : Nat) (31 : Int64)) ∈ ALL := tm_in6 31 rfl rfl
theorem k_L_7 : tm_kv RL 7 M_X5_addBoard 3 := ⟨tm_in3 152 rfl rfl, tm_in3 153 rfl rfl, tm_in3 154 rfl rfl, tm_in1 1 rfl rfl, tm_in3 155 rfl rfl, ⟨by decide, by decide⟩, by decide +kernel⟩
theorem k_L_17 : tm_kv RL 17 M_X5_addDefect 4 := ⟨tm_in3 210 rfl rfl, tm_in3 211 rfl rfl, tm_in3 212 rfl rfl, tm_in1 1 rfl rfl, tm_in3 213 rfl rfl, ⟨by decide, by decide⟩, by decide +kernel⟩
theorem k_L_23 : tm_kv RL 23 M_X5_addPart 5 := ⟨tm_in4 14 rfl rfl, tm_in4 15 rfl rfl, tm_in4 16 rfl rfl, tm_in1 1 rfl rfl, tm_in4 17 rfl rfl, ⟨by decide, by decide⟩, by decide +kernel⟩
theorem k_L_27 : tm_kv RL 27 M_X5_setSaw 1 := ⟨tm_in4 66 rfl rfl, tm_in4 67 rfl rfl, tm_in4 68 rfl rfl, tm_in1 1 rfl rfl, tm_in4 69 rfl rfl, ⟨by decide, by decide⟩, by decide +kernel⟩
theorem k_L_31 : tm_kv RL 31 M_X5_setJoint 1 := ⟨tm_in4 75 rfl rfl, tm_in4 76 rfl rfl, tm_in4 77 rfl rfl, tm_in1 1 rfl rfl, tm_in4 78 rfl rfl, ⟨by decide, by decide⟩, by decide +kernel⟩
theorem k_L_34 : tm_kv RL 34 M_X5_grade 2 := ⟨tm_in4 83 rfl rfl, tm_in4 84 rfl rfl, tm_in4 85 rfl rfl, tm_in1 1 rfl rfl, tm_in4 86 rfl rfl, ⟨by decide, by decide⟩, by decide +kernel⟩
theorem k_L_38 : tm_kv RL 38 M_X5_stretches 2 := ⟨tm_in4 95 rfl rfl, tm_in4 96 rfl rfl, tm_in4 97 rfl rfl, tm_in1 1 rfl rfl, tm_in4 98 rfl rfl, ⟨by decide, by decide⟩, by decide +kernel⟩
theorem k_L_41 : tm_kv RL 41 M_X5_stretch 4 := ⟨tm_in4 114 rfl rfl, tm_in4 115 rfl rfl, tm_in4 116 rfl rfl, tm_in1 1 rfl rfl, tm_in4 117 rfl rfl, ⟨by decide, by decide⟩, by decide +kernel⟩
theorem k_L_45 : tm_kv RL 45 M_X5_fits 3 := ⟨tm_in4 127 rfl rfl, tm_in4 128 rfl rfl, tm_in4 129 rfl rfl, tm_in1 1 rfl rfl, tm_in4 130 rfl rfl, ⟨by decide, by decide⟩, by decide +kernel⟩
theorem k_L_49 : tm_kv RL 49 M_X5_earliest 2 := ⟨tm_in4 151 rfl rfl, tm_in4 152 rfl rfl, tm_in4 153 rfl rfl, tm_in1 1 rfl rfl, tm_in4 154 rfl rfl, ⟨by decide, by decide⟩, by decide +kernel⟩
theorem k_L_52 : tm_kv RL 52 M_X5_cut 3 := ⟨tm_in4 158 rfl rfl, tm_in4 159 rfl rfl, tm_in4 160 rfl rfl, tm_in1 1 rfl rfl, tm_in4 161 rfl rfl, ⟨by decide, by decide⟩, by decide +kernel⟩
theorem k_L_55 : tm_kv RL 55 M_X5_join 6 := ⟨tm_in4 167 rfl rfl, tm_in4 168 rfl rfl, tm_in4 169 rfl rfl, tm_in1 1 rfl rfl, tm_in4 170 rfl rfl, ⟨by decide, by decide⟩, by decide +kernel⟩
theorem k_L_59 : tm_kv RL 59 M_X5_undo 0 := ⟨tm_in4 179 rfl rfl, tm_in4 180 rfl rfl, tm_in4 181 rfl rfl, tm_in1 1 rfl rfl, tm_in4 182 rfl rfl, ⟨by decide, by decide⟩, by decide +kernel⟩
theorem k_L_63 : tm_kv RL 63 M_X5_left 1 := ⟨tm_in4 200 rfl rfl, tm_in4 201 rfl rfl, tm_in4 202 rfl rfl, tm_in1 1 rfl rfl, tm_in4 203 rfl rfl, ⟨by decide, by decide⟩, by decide +kernel⟩
theorem k_L_66 : tm_kv RL 66 M_X5_pieces 1 := ⟨tm_in4 207 rfl rfl, tm_in4 208 rfl rfl, tm_in4 209 rfl rfl, tm_in1 1 rfl rfl, tm_in4 210 rfl rfl, ⟨by decide, by decide⟩, by decide +kernel⟩
theorem k_L_69 : tm_kv RL 69 M_X5_piece 3 := ⟨tm_in4 214 rfl rfl, tm_in4 215 rfl rfl, tm_in4 216 rfl rfl, tm_in1 1 rfl rfl, tm_in4 217 rfl rfl, ⟨by decide, by decide⟩, by decide +kernel⟩
theorem k_L_72 : tm_kv RL 72 M_X5_cuts 1 := ⟨tm_in4 223 rfl rfl, tm_in4 224 rfl rfl, tm_in4 225 rfl rfl, tm_in1 1 rfl rfl, tm_in4 226 rfl rfl, ⟨by decide, by decide⟩, by decide +kernel⟩
theorem k_L_75 : tm_kv RL 75 M_X5_longestRoom 1 := ⟨tm_in4 234 rfl rfl, tm_in4 235 rfl rfl, tm_in4 236 rfl rfl, tm_in1 1 rfl rfl, tm_in4 237 rfl rfl, ⟨by decide, by decide⟩, by decide +kernel⟩
theorem k_L_78 : tm_kv RL 78 M_X5_bestUse 3 := ⟨tm_in5 5 rfl rfl, tm_in5 6 rfl rfl, tm_in5 7 rfl rfl, tm_in1 1 rfl rfl, tm_in5 8 rfl rfl, ⟨by decide, by decide⟩, by decide +kernel⟩
theorem n_L_8 : tm_nw9 RL 8 6 [.null, .null, .null, .null, .null, .int (I 0), .int (I 0), .int (I 0)] := ⟨RX5, TX5, 8, tyX5, rfl, u_X5, tyX5_ok, tm_in1 30 rfl rfl, tm_in1 31 rfl rfl, tm_in1 1 rfl rfl, rfl, by decide⟩
theorem k_L_81 : tm_ki RL 81 M_X5_init 0 := ⟨tm_in1 32 rfl rfl, tm_in1 33 rfl rfl, ⟨rfl, rfl⟩, tm_in1 1 rfl rfl, tm_in1 34 rfl rfl, ⟨by decide, by decide⟩, by decide +kernel⟩
theorem n_L_82 : tm_nw9 RL 82 7 [.int (I 0), .int (I 0), .null, .int (I 0), .null, .int (I 0), .null, .null, .int (I 0), .int (I 0), .int (I 0), .null, .null, .int (I 0), .int (I 0)] := ⟨RX6, TX6, 15, tyX6, rfl, u_X6, tyX6_ok, tm_in5 20 rfl rfl, tm_in5 21 rfl rfl, tm_in1 5 rfl rfl, rfl, by decide⟩
theorem k_L_84 : tm_ki RL 84 M_X6_init 0 := ⟨tm_in5 22 rfl rfl, tm_in5 23 rfl rfl, ⟨rfl, rfl⟩, tm_in1 5 rfl rfl, tm_in5 24 rfl rfl, ⟨by decide, by decide⟩, by decide +kernel⟩
theorem k_L_90 : tm_kv RL 90 M_X6_addBoard 3 := ⟨tm_in5 77 rfl rfl, tm_in5 78 rfl rfl, tm_in5 79 rfl rfl, tm_in1 5 rfl rfl, tm_in5 80 rfl rfl, ⟨by decide, by decide⟩, by decide +kernel⟩
theorem k_L_91 : tm_kv RL 91 M_X6_thrown 0 := ⟨tm_in5 73 rfl rfl, tm_in5 74 rfl rfl, tm_in5 75 rfl rfl, tm_in1 5 rfl rfl, tm_in5 76 rfl rfl, ⟨by decide, by decide⟩, by decide +kernel⟩
theorem k_L_97 : tm_kv RL 97 M_X6_addDefect 4 := ⟨tm_in5 88 rfl rfl, tm_in5 89 rfl rfl, tm_in5 90 rfl rfl, tm_in1 5 rfl rfl, tm_in5 91 rfl rfl, ⟨by decide, by decide⟩, by decide +kernel⟩
theorem k_L_101 : tm_kv RL 101 M_X6_addPart 5 := ⟨tm_in5 120 rfl rfl, tm_in5 121 rfl rfl, tm_in5 122 rfl rfl, tm_in1 5 rfl rfl, tm_in5 123 rfl rfl, ⟨by decide, by decide⟩, by decide +kernel⟩
theorem k_L_105 : tm_kv RL 105 M_X6_setSaw 1 := ⟨tm_in5 124 rfl rfl, tm_in5 125 rfl rfl, tm_in5 126 rfl rfl, tm_in1 5 rfl rfl, tm_in5 127 rfl rfl, ⟨by decide, by decide⟩, by decide +kernel⟩
theorem k_L_108 : tm_kv RL 108 M_X6_setJoint 1 := ⟨tm_in5 128 rfl rfl, tm_in5 129 rfl rfl, tm_in5 130 rfl rfl, tm_in1 5 rfl rfl, tm_in5 131 rfl rfl, ⟨by decide, by decide⟩, by decide +kernel⟩
theorem k_L_112 : tm_kv RL 112 M_X6_grade 2 := ⟨tm_in5 132 rfl rfl, tm_in5 133 rfl rfl, tm_in5 134 rfl rfl, tm_in1 5 rfl rfl, tm_in5 135 rfl rfl, ⟨by decide, by decide⟩, by decide +kernel⟩
theorem k_L_115 : tm_kv RL 115 M_X6_stretches 2 := ⟨tm_in5 141 rfl rfl, tm_in5 142 rfl rfl, tm_in5 143 rfl rfl, tm_in1 5 rfl rfl, tm_in5 144 rfl rfl, ⟨by decide, by decide⟩, by decide +kernel⟩
theorem k_L_119 : tm_kv RL 119 M_X6_stretch 4 := ⟨tm_in5 154 rfl rfl, tm_in5 155 rfl rfl, tm_in5 156 rfl rfl, tm_in1 5 rfl rfl, tm_in5 157 rfl rfl, ⟨by decide, by decide⟩, by decide +kernel⟩
theorem k_L_122 : tm_kv RL 122 M_X6_fits 3 := ⟨tm_in5 158 rfl rfl, tm_in5 159 rfl rfl, tm_in5 160 rfl rfl, tm_in1 5 rfl rfl, tm_in5 161 rfl rfl, ⟨by decide, by decide⟩, by decide +kernel⟩
theorem k_L_125 : tm_kv RL 125 M_X6_earliest 2 := ⟨tm_in5 178 rfl rfl, tm_in5 179 rfl rfl, tm_in5 180 rfl rfl, tm_in1 5 rfl rfl, tm_in5 181 rfl rfl, ⟨by decide, by decide⟩, by decide +kernel⟩
theorem k_L_128 : tm_kv RL 128 M_X6_cut 3 := ⟨tm_in5 186 rfl rfl, tm_in5 187 rfl rfl, tm_in5 188 rfl rfl, tm_in1 5 rfl rfl, tm_in5 189 rfl rfl, ⟨by decide, by decide⟩, by decide +kernel⟩
theorem k_L_132 : tm_kv RL 132 M_X6_join 6 := ⟨tm_in5 198 rfl rfl, tm_in5 199 rfl rfl, tm_in5 200 rfl rfl, tm_in1 5 rfl rfl, tm_in5 201 rfl rfl, ⟨by decide, by decide⟩, by decide +kernel⟩
theorem k_L_136 : tm_kv RL 136 M_X6_undo 0 := ⟨tm_in5 202 rfl rfl, tm_in5 203 rfl rfl, tm_in5 204 rfl rfl, tm_in1 5 rfl rfl, tm_in5 205 rfl rfl, ⟨by decide, by decide⟩, by decide +kernel⟩
theorem k_L_137 : tm_kv RL 137 M_X5_plan 0 := ⟨tm_in1 90 rfl rfl, tm_in1 91 rfl rfl, tm_in1 92 rfl rfl, tm_in1 1 rfl rfl, tm_in1 93 rfl rfl, ⟨by decide, by decide⟩, by decide +kernel⟩
theorem k_L_140 : tm_kv RL 140 M_X6_plan 0 := ⟨tm_in5 206 rfl rfl, tm_in5 207 rfl rfl, tm_in5 208 rfl rfl, tm_in1 5 rfl rfl, tm_in5 209 rfl rfl, ⟨by decide, by decide⟩, by decide +kernel⟩
theorem k_L_143 : tm_kv RL 143 M_X6_left 1 := ⟨tm_in5 226 rfl rfl, tm_in5 227 rfl rfl, tm_in5 228 rfl rfl, tm_in1 5 rfl rfl, tm_in5 229 rfl rfl, ⟨by decide, by decide⟩, by decide +kernel⟩
theorem k_L_146 : tm_kv RL 146 M_X6_pieces 1 := ⟨tm_in5 230 rfl rfl, tm_in5 231 rfl rfl, tm_in5 232 rfl rfl, tm_in1 5 rfl rfl, tm_in5 233 rfl rfl, ⟨by decide, by decide⟩, by decide +kernel⟩
theorem k_L_149 : tm_kv RL 149 M_X6_piece 3 := ⟨tm_in5 238 rfl rfl, tm_in5 239 rfl rfl, tm_in6 0 rfl rfl, tm_in1 5 rfl rfl, tm_in6 1 rfl rfl, ⟨by decide, by decide⟩, by decide +kernel⟩
theorem k_L_152 : tm_kv RL 152 M_X6_cuts 1 := ⟨tm_in6 10 rfl rfl, tm_in6 11 rfl rfl, tm_in6 12 rfl rfl, tm_in1 5 rfl rfl, tm_in6 13 rfl rfl, ⟨by decide, by decide⟩, by decide +kernel⟩
theorem k_L_155 : tm_kv RL 155 M_X6_longestRoom 1 := ⟨tm_in6 14 rfl rfl, tm_in6 15 rfl rfl, tm_in6 16 rfl rfl, tm_in1 5 rfl rfl, tm_in6 17 rfl rfl, ⟨by decide, by decide⟩, by decide +kernel⟩
theorem k_L_158 : tm_kv RL 158 M_X6_bestUse 3 := ⟨tm_in6 18 rfl rfl, tm_in6 19 rfl rfl, tm_in6 20 rfl rfl, tm_in1 5 rfl rfl, tm_in6 21 rfl rfl, ⟨by decide, by decide⟩, by decide +kernel⟩
theorem k_L_159 : tm_kv RL 159 M_X5_used 0 := ⟨tm_in3 119 rfl rfl, tm_in3 120 rfl rfl, tm_in3 121 rfl rfl, tm_in1 1 rfl rfl, tm_in3 122 rfl rfl, ⟨by decide, by decide⟩, by decide +kernel⟩
theorem k_L_163 : tm_kv RL 163 M_X6_used 0 := ⟨tm_in6 22 rfl rfl, tm_in6 23 rfl rfl, tm_in6 24 rfl rfl, tm_in1 5 rfl rfl, tm_in6 25 rfl rfl, ⟨by decide, by decide⟩, by decide +kernel⟩
theorem k_L_164 : tm_kv RL 164 M_X5_digest 0 := ⟨tm_in3 131 rfl rfl, tm_in3 132 rfl rfl, tm_in3 133 rfl rfl, tm_in1 1 rfl rfl, tm_in3 134 rfl rfl, ⟨by decide, by decide⟩, by decide +kernel⟩
theorem k_L_168 : tm_kv RL 168 M_X6_digest 0 := ⟨tm_in6 26 rfl rfl, tm_in6 27 rfl rfl, tm_in6 28 rfl rfl, tm_in1 5 rfl rfl, tm_in6 29 rfl rfl, ⟨by decide, by decide⟩, by decide +kernel⟩
theorem x_X0_1 : Cond.methodLink RX0 1 objectInit ∈ ALL ∧ Cond.instanceMethod objectInit ∈ ALL ∧ Cond.code objectInit ⟨#[0xb1]⟩ 1 none ∈ ALL := ⟨tm_in3 184 rfl rfl, tm_in1 36 rfl rfl, tm_in1 37 rfl rfl⟩
theorem x_X0_64 : Cond.methodLink RX0 64 Lib.Math.max.name ∈ ALL ∧ Cond.static Lib.Math.max.name ∈ ALL ∧ Cond.initialized "java/lang/Math" ∈ ALL ∧ Cond.code Lib.Math.max.name Lib.Math.max.code 2 (some .int) ∈ ALL := ⟨tm_in1 147 rfl rfl, tm_in1 148 rfl rfl, tm_in1 13 rfl rfl, tm_in1 149 rfl rfl⟩
theorem x_X1_1 : Cond.methodLink RX1 1 objectInit ∈ ALL ∧ Cond.instanceMethod objectInit ∈ ALL ∧ Cond.code objectInit ⟨#[0xb1]⟩ 1 none ∈ ALL := ⟨tm_in1 195 rfl rfl, tm_in1 36 rfl rfl, tm_in1 37 rfl rfl⟩
theorem x_X2_1 : Cond.methodLink RX2 1 objectInit ∈ ALL ∧ Cond.instanceMethod objectInit ∈ ALL ∧ Cond.code objectInit ⟨#[0xb1]⟩ 1 none ∈ ALL := ⟨tm_in3 233 rfl rfl, tm_in1 36 rfl rfl, tm_in1 37 rfl rfl⟩
theorem x_X3_1 : Cond.methodLink RX3 1 objectInit ∈ ALL ∧ Cond.instanceMethod objectInit ∈ ALL ∧ Cond.code objectInit ⟨#[0xb1]⟩ 1 none ∈ ALL := ⟨tm_in4 24 rfl rfl, tm_in1 36 rfl rfl, tm_in1 37 rfl rfl⟩
theorem x_X4_1 : Cond.methodLink RX4 1 objectInit ∈ ALL ∧ Cond.instanceMethod objectInit ∈ ALL ∧ Cond.code objectInit ⟨#[0xb1]⟩ 1 none ∈ ALL := ⟨tm_in1 169 rfl rfl, tm_in1 36 rfl rfl, tm_in1 37 rfl rfl⟩
theorem x_X5_1 : Cond.methodLink RX5 1 objectInit ∈ ALL ∧ Cond.instanceMethod objectInit ∈ ALL ∧ Cond.code objectInit ⟨#[0xb1]⟩ 1 none ∈ ALL := ⟨tm_in1 35 rfl rfl, tm_in1 36 rfl rfl, tm_in1 37 rfl rfl⟩
theorem x_X5_255 : Cond.methodLink RX5 255 Lib.Math.min.name ∈ ALL ∧ Cond.static Lib.Math.min.name ∈ ALL ∧ Cond.initialized "java/lang/Math" ∈ ALL ∧ Cond.code Lib.Math.min.name Lib.Math.min.code 2 (some .int) ∈ ALL := ⟨tm_in5 10 rfl rfl, tm_in2 102 rfl rfl, tm_in1 13 rfl rfl, tm_in2 103 rfl rfl⟩
theorem x_X5_310 : Cond.methodLink RX5 310 Lib.Math.max.name ∈ ALL ∧ Cond.static Lib.Math.max.name ∈ ALL ∧ Cond.initialized "java/lang/Math" ∈ ALL ∧ Cond.code Lib.Math.max.name Lib.Math.max.code 2 (some .int) ∈ ALL := ⟨tm_in5 19 rfl rfl, tm_in1 148 rfl rfl, tm_in1 13 rfl rfl, tm_in1 149 rfl rfl⟩
theorem x_X6_3 : Cond.methodLink RX6 3 objectInit ∈ ALL ∧ Cond.instanceMethod objectInit ∈ ALL ∧ Cond.code objectInit ⟨#[0xb1]⟩ 1 none ∈ ALL := ⟨tm_in5 25 rfl rfl, tm_in1 36 rfl rfl, tm_in1 37 rfl rfl⟩
theorem x_X6_83 : Cond.methodLink RX6 83 Lib.Math.max.name ∈ ALL ∧ Cond.static Lib.Math.max.name ∈ ALL ∧ Cond.initialized "java/lang/Math" ∈ ALL ∧ Cond.code Lib.Math.max.name Lib.Math.max.code 2 (some .int) ∈ ALL := ⟨tm_in5 140 rfl rfl, tm_in1 148 rfl rfl, tm_in1 13 rfl rfl, tm_in1 149 rfl rfl⟩
theorem x_X6_91 : Cond.methodLink RX6 91 Lib.Math.min.name ∈ ALL ∧ Cond.static Lib.Math.min.name ∈ ALL ∧ Cond.initialized "java/lang/Math" ∈ ALL ∧ Cond.code Lib.Math.min.name Lib.Math.min.code 2 (some .int) ∈ ALL := ⟨tm_in5 153 rfl rfl, tm_in2 102 rfl rfl, tm_in1 13 rfl rfl, tm_in2 103 rfl rfl⟩
theorem x_Jxa1e45_1 : Cond.methodLink RJxa1e45 1 objectInit ∈ ALL ∧ Cond.instanceMethod objectInit ∈ ALL ∧ Cond.code objectInit ⟨#[0xb1]⟩ 1 none ∈ ALL := ⟨tm_in1 49 rfl rfl, tm_in1 36 rfl rfl, tm_in1 37 rfl rfl⟩
theorem x_Jx4a65c_112 : tm_cw RJx4a65c 112 := ⟨tm_in3 110 rfl rfl, tm_in2 106 rfl rfl, tm_in2 105 rfl rfl, tm_in1 15 rfl rfl⟩
theorem x_Jx4a65c_79 : Cond.methodLink RJx4a65c 79 Lib.Math.max.name ∈ ALL ∧ Cond.static Lib.Math.max.name ∈ ALL ∧ Cond.initialized "java/lang/Math" ∈ ALL ∧ Cond.code Lib.Math.max.name Lib.Math.max.code 2 (some .int) ∈ ALL := ⟨tm_in3 108 rfl rfl, tm_in1 148 rfl rfl, tm_in1 13 rfl rfl, tm_in1 149 rfl rfl⟩
theorem x_J7_150 : tm_cw RJ7 150 := ⟨tm_in2 104 rfl rfl, tm_in2 106 rfl rfl, tm_in2 105 rfl rfl, tm_in1 15 rfl rfl⟩
theorem x_J7_304 : Cond.methodLink RJ7 304 Lib.Math.min.name ∈ ALL ∧ Cond.static Lib.Math.min.name ∈ ALL ∧ Cond.initialized "java/lang/Math" ∈ ALL ∧ Cond.code Lib.Math.min.name Lib.Math.min.code 2 (some .int) ∈ ALL := ⟨tm_in2 101 rfl rfl, tm_in2 102 rfl rfl, tm_in1 13 rfl rfl, tm_in2 103 rfl rfl⟩
theorem x_J7_86 : Cond.methodLink RJ7 86 tm_gc ∈ ALL ∧ Cond.declares tm_gc ∈ NW ∧ Cond.selects "[Ljava/lang/Object;" tm_gc tm_gc ∈ ALL ∧ Cond.instanceMethod tm_gc ∈ ALL ∧ Cond.native tm_gc ∈ ALL := ⟨tm_in3 85 rfl rfl, tm_nn6 58 rfl rfl, tm_in6 57 rfl rfl, tm_in3 86 rfl rfl, tm_in3 101 rfl rfl⟩
theorem x_J8_194 : Cond.methodLink RJ8 194 Lib.Math.max.name ∈ ALL ∧ Cond.static Lib.Math.max.name ∈ ALL ∧ Cond.initialized "java/lang/Math" ∈ ALL ∧ Cond.code Lib.Math.max.name Lib.Math.max.code 2 (some .int) ∈ ALL := ⟨tm_in2 85 rfl rfl, tm_in1 148 rfl rfl, tm_in1 13 rfl rfl, tm_in1 149 rfl rfl⟩
theorem w_arr_int : Cond.arrayClass .int ∈ ALL := tm_in1 89 rfl rfl
theorem w_arr_boolean : Cond.arrayClass .boolean ∈ ALL := tm_in5 72 rfl rfl
theorem w_arr_long : Cond.arrayClass .long ∈ ALL := tm_in6 32 rfl rfl
theorem w_el_X0 : Cond.castable RX0 "java/lang/Object" ∈ NW := tm_nn6 47 rfl rfl
theorem w_el_X1 : Cond.castable RX1 "java/lang/Object" ∈ NW := tm_nn6 53 rfl rfl
theorem w_el_X2 : Cond.castable RX2 "java/lang/Object" ∈ NW := tm_nn6 49 rfl rfl
theorem w_el_X3 : Cond.castable RX3 "java/lang/Object" ∈ NW := tm_nn6 52 rfl rfl
theorem w_el_X4 : Cond.castable RX4 "java/lang/Object" ∈ NW := tm_nn6 54 rfl rfl
end
section
/-! The world with lists: an address holds a plain cell, or a java.util.ArrayList with its elements. -/
abbrev tmL : Type := Nat → Option (va_E ⊕ List Nat)
def tm_u2 (Λ : tmL) (a : Nat) (e : va_E) : tmL := fun b => if b = a then some (.inl e) else Λ b
def tm_ul (Λ : tmL) (a : Nat) (xs : List Nat) : tmL := fun b => if b = a then some (.inr xs) else Λ b
theorem tm_u2_s {Λ : tmL} {a : Nat} {e : va_E} : tm_u2 Λ a e a = some (.inl e) := if_pos rfl
theorem tm_u2_n {Λ : tmL} {a b : Nat} {e : va_E} (h : b ≠ a) : tm_u2 Λ a e b = Λ b := if_neg h
theorem tm_ul_s {Λ : tmL} {a : Nat} {e : List Nat} : tm_ul Λ a e a = some (.inr e) := if_pos rfl
theorem tm_ul_n {Λ : tmL} {a b : Nat} {e : List Nat} (h : b ≠ a) : tm_ul Λ a e b = Λ b := if_neg h
/-- the list at a, with its array at d -/
def tm_ls (T : ClassId × ClassId × ClassId × ClassId) (e0 : Nat) (Ω : tmO) (a d : Nat) (xs : List Nat) : Prop := ∃ (mc : Int32) (cap : Nat) (f : Nat → Option Nat), Ω a = some (.inr (0, [.int mc, .ref d, .int (I xs.length)])) ∧ (d ≠ e0 → Ω d = some (tm_ao T cap f) ∧ (∀ i, i < xs.length → f i = xs[i]?) ∧ xs.length ≤ cap ∧ cap ≤ 400 ∧ 10 ≤ cap) ∧ (d = e0 → xs = [])
def tm_el2 (Λ : tmL) (a : Nat) : Prop := ∃ (ci : Nat) (fs : List Value) (r : vw_C), Λ a = some (.inl (.inr (ci, fs))) ∧ classes[ci]? = some r ∧ Cond.castable r.1 "java/lang/Object" ∈ NW ∧ ci ≠ 0
def tm_lw (T : ClassId × ClassId × ClassId × ClassId) (e0 : Nat) (Λ : tmL) (Ω : tmO) : Prop := ∃ E : Nat → Nat,
  (∀ a e, Λ a = some (.inl e) → Ω a = some e) ∧ (∀ a xs, Λ a = some (.inr xs) → tm_ls T e0 Ω a (E a) xs ∧ (E a ≠ e0 → Λ (E a) = none) ∧ ∀ v ∈ xs, tm_el2 Λ v) ∧
  (∀ a b xs ys, Λ a = some (.inr xs) → Λ b = some (.inr ys) → E a = E b → E a ≠ e0 → a = b) ∧ Ω e0 = none
def tm_h2 (D : va_G) (T : ClassId × ClassId × ClassId × ClassId) (e0 : Nat) (Fz : Nat → Prop) (Λ : tmL) (H : Heap) : Prop := ∃ Ω, tm_lw T e0 Λ Ω ∧ tm_hol D Fz Ω H
abbrev tm_H (x : tmX) (Λ : tmL) : Heap → Prop := tm_h2 (tm_D x) (tm_T x) (tm_e0 x) (tm_Fz x) Λ
theorem tm_lw_none {T : ClassId × ClassId × ClassId × ClassId} {e0 : Nat} {Λ : tmL} {Ω : tmO} (h : tm_lw T e0 Λ Ω) {q : Nat} (hq : Ω q = none) : Λ q = none := by
  obtain ⟨E, h1, h2, h3, h4⟩ := h
  cases hΛ : Λ q with
  | none => rfl
  | some z =>
    cases z with
    | inl e => rw [h1 q e hΛ] at hq; cases hq
    | inr xs =>
      obtain ⟨mc, cap, f, g1, -⟩ := (h2 q xs hΛ).1
      rw [g1] at hq; cases hq
theorem tm_lw_e0 {T : ClassId × ClassId × ClassId × ClassId} {e0 : Nat} {Λ : tmL} {Ω : tmO} (h : tm_lw T e0 Λ Ω) : Λ e0 = none := tm_lw_none h h.choose_spec.2.2.2
/-- a plain cell is written: what is a cell stays a cell of its kind (an object of its class), or it is new -/
theorem tm_lw_set {T : ClassId × ClassId × ClassId × ClassId} {e0 : Nat} {Λ : tmL} {Ω : tmO} {a : Nat} {e : va_E} (h : tm_lw T e0 Λ Ω) (ha : (∃ e', Λ a = some (.inl e') ∧ (∀ ci fs, e' = .inr (ci, fs) → ∃ fs', e = .inr (ci, fs'))) ∨ (Ω a = none ∧ a ≠ e0)) : tm_lw T e0 (tm_u2 Λ a e) (tm_up Ω a e) := by
  obtain ⟨E, h1, h2, h3, h4⟩ := id h
  have hal : ∀ xs, Λ a ≠ some (.inr xs) := by
    intro xs hx
    rcases ha with ⟨e', h5, -⟩ | ⟨h5, -⟩
    · rw [h5] at hx; cases hx
    · rw [tm_lw_none h h5] at hx; cases hx
  have hae : a ≠ e0 := by
    rcases ha with ⟨e', h5, -⟩ | ⟨-, h5⟩
    · intro z; rw [z, tm_lw_e0 h] at h5; cases h5
    · exact h5
  have hEa : ∀ q xs, Λ q = some (.inr xs) → E q ≠ a := by
    intro q xs hq z
    obtain ⟨mc, cap, f, g1, g2, g3⟩ := (h2 q xs hq).1
    by_cases hz : E q = e0
    · exact hae (z.symm.trans hz)
    · rcases ha with ⟨e', h5, -⟩ | ⟨h5, -⟩
      · have := (h2 q xs hq).2.1 hz; rw [z, h5] at this; cases this
      · have := (g2 hz).1; rw [z, h5] at this; cases this
  refine ⟨E, fun b e9 hb => ?_, fun b xs hb => ?_, fun b c xs ys hb hc => ?_, by rw [tm_up_n (Ne.symm hae)]; exact h4⟩
  · by_cases hba : b = a
    · subst hba; rw [tm_u2_s] at hb; rw [tm_up_s]; cases hb; rfl
    · rw [tm_u2_n hba] at hb; rw [tm_up_n hba]; exact h1 b e9 hb
  · have hba : b ≠ a := by intro z; subst z; rw [tm_u2_s] at hb; cases hb
    rw [tm_u2_n hba] at hb
    obtain ⟨⟨mc, cap, f, g1, g2, g3⟩, g4, g5⟩ := h2 b xs hb
    refine ⟨⟨mc, cap, f, by rw [tm_up_n hba]; exact g1, fun hz => ?_, g3⟩, fun hz => ?_, fun v hv => ?_⟩
    · rw [tm_up_n (hEa b xs hb)]; exact g2 hz
    · rw [tm_u2_n (hEa b xs hb)]; exact g4 hz
    · obtain ⟨ci, fs, r, k1, k2, k3⟩ := g5 v hv
      by_cases hva : v = a
      · subst hva
        rcases ha with ⟨e', h5, h6⟩ | ⟨h5, -⟩
        · rw [h5] at k1
          obtain ⟨fs', h7⟩ := h6 ci fs (by cases k1; rfl)
          exact ⟨ci, fs', r, by rw [tm_u2_s, h7], k2, k3⟩
        · rw [tm_lw_none h h5] at k1; cases k1
      · exact ⟨ci, fs, r, by rw [tm_u2_n hva]; exact k1, k2, k3⟩
  · have hba : b ≠ a := by intro z; subst z; rw [tm_u2_s] at hb; cases hb
    have hca : c ≠ a := by intro z; subst z; rw [tm_u2_s] at hc; cases hc
    rw [tm_u2_n hba] at hb
    rw [tm_u2_n hca] at hc
    exact h3 b c xs ys hb hc
theorem tm_el_of {T : ClassId × ClassId × ClassId × ClassId} {e0 : Nat} {Λ : tmL} {Ω : tmO} (h : tm_lw T e0 Λ Ω) {v : Nat} (hv : tm_el2 Λ v) : tm_el Ω v := by
  obtain ⟨ci, fs, r, k1, k2, k3⟩ := hv
  exact ⟨ci, fs, r, h.choose_spec.1 v _ k1, k2, k3.1⟩
/-- a list is written: its array is its own, or new -/
theorem tm_lw_list {T : ClassId × ClassId × ClassId × ClassId} {e0 : Nat} {Λ : tmL} {Ω Ω' : tmO} {E : Nat → Nat} {a d cap : Nat} {mc : Int32} {g : Nat → Option Nat} {xs xs' : List Nat}
    (h1 : ∀ a e, Λ a = some (.inl e) → Ω a = some e) (h2 : ∀ a xs, Λ a = some (.inr xs) → tm_ls T e0 Ω a (E a) xs ∧ (E a ≠ e0 → Λ (E a) = none) ∧ ∀ v ∈ xs, tm_el2 Λ v) (h3 : ∀ a b xs ys, Λ a = some (.inr xs) → Λ b = some (.inr ys) → E a = E b → E a ≠ e0 → a = b) (h4 : Ω e0 = none)
    (ha : Λ a = some (.inr xs)) (hk : ∀ b, b ≠ a → b ≠ d → Ω' b = Ω b) (hoa : Ω' a = some (.inr (0, [.int mc, .ref d, .int (I xs'.length)]))) (hod : Ω' d = some (tm_ao T cap g)) (hg : ∀ i, i < xs'.length → g i = xs'[i]?) (hc : xs'.length ≤ cap ∧ cap ≤ 400 ∧ 10 ≤ cap) (hd : (d = E a ∧ d ≠ e0) ∨ (Ω d = none ∧ d ≠ e0)) (hel : ∀ v ∈ xs', tm_el2 Λ v) : tm_lw T e0 (tm_ul Λ a xs') Ω' := by
  have hw : tm_lw T e0 Λ Ω := ⟨E, h1, h2, h3, h4⟩
  have hd0 : d ≠ e0 := by rcases hd with h | h; exact h.2; exact h.2
  have hΛd : Λ d = none := by
    rcases hd with ⟨h5, h6⟩ | ⟨h5, h6⟩
    · rw [h5]; rw [h5] at h6; exact (h2 a xs ha).2.1 h6
    · exact tm_lw_none hw h5
  have had : a ≠ d := by intro z; rw [z, hΛd] at ha; cases ha
  have hae : a ≠ e0 := by intro z; rw [z, tm_lw_e0 hw] at ha; cases ha
  have hEd : ∀ b ys, b ≠ a → Λ b = some (.inr ys) → E b ≠ d := by
    intro b ys hb hΛb z
    rcases hd with ⟨h5, h6⟩ | ⟨h5, h6⟩
    · exact hb (h3 b a ys xs hΛb ha (z.trans h5) (by rw [z]; exact h6))
    · obtain ⟨mc2, cap2, f2, g1, g2, g3⟩ := (h2 b ys hΛb).1
      have := (g2 (by rw [z]; exact h6)).1
      rw [z, h5] at this; cases this
  have hEa : ∀ b ys, Λ b = some (.inr ys) → E b ≠ e0 → E b ≠ a := by
    intro b ys hΛb hne z
    have := (h2 b ys hΛb).2.1 hne
    rw [z, ha] at this; cases this
  have hel' : ∀ v, tm_el2 Λ v → tm_el2 (tm_ul Λ a xs') v := by
    intro v hv
    obtain ⟨ci, fs, r, k1, k2, k3⟩ := hv
    exact ⟨ci, fs, r, by rw [tm_ul_n (by intro z; rw [z, ha] at k1; cases k1)]; exact k1, k2, k3⟩
  obtain ⟨E', hEs, hEn⟩ : ∃ E' : Nat → Nat, E' a = d ∧ ∀ b, b ≠ a → E' b = E b := ⟨fun b => if b = a then d else E b, if_pos rfl, fun b h => if_neg h⟩
  refine ⟨E', fun b e hb => ?_, fun b ys hb => ?_, fun b c ys zs hb hc9 he hne => ?_, by rw [hk e0 (Ne.symm hae) (Ne.symm hd0)]; exact h4⟩
  · have hba : b ≠ a := by intro z; subst z; rw [tm_ul_s] at hb; cases hb
    rw [tm_ul_n hba] at hb
    rw [hk b hba (by intro z; rw [z, hΛd] at hb; cases hb)]
    exact h1 b e hb
  · by_cases hba : b = a
    · subst hba
      rw [tm_ul_s] at hb
      cases hb
      refine ⟨⟨mc, cap, g, by rw [hEs]; exact hoa, fun _ => by rw [hEs]; exact ⟨hod, hg, hc⟩, fun z => by rw [hEs] at z; exact absurd z hd0⟩, fun _ => by rw [hEs, tm_ul_n (Ne.symm had)]; exact hΛd, fun v hv => hel' v (hel v hv)⟩
    · rw [tm_ul_n hba] at hb
      obtain ⟨⟨mc2, cap2, f2, g1, g2, g3⟩, g4, g5⟩ := h2 b ys hb
      have hbd : b ≠ d := by intro z; rw [z, hΛd] at hb; cases hb
      refine ⟨⟨mc2, cap2, f2, by rw [hEn b hba, hk b hba hbd]; exact g1, fun z => ?_, fun z => by rw [hEn b hba] at z; exact g3 z⟩, fun z => ?_, fun v hv => hel' v (g5 v hv)⟩
      · rw [hEn b hba] at z ⊢
        rw [hk _ (hEa b ys hb z) (hEd b ys hba hb)]
        exact g2 z
      · rw [hEn b hba] at z ⊢
        rw [tm_ul_n (hEa b ys hb z)]
        exact g4 z
  · by_cases hba : b = a
    · by_cases hca : c = a
      · rw [hba, hca]
      · rw [hba, hEs, hEn c hca] at he
        rw [tm_ul_n hca] at hc9
        exact absurd he.symm (hEd c zs hca hc9)
    · by_cases hca : c = a
      · rw [hEn b hba, hca, hEs] at he
        rw [tm_ul_n hba] at hb
        exact absurd he (hEd b ys hba hb)
      · rw [hEn b hba, hEn c hca] at he
        rw [hEn b hba] at hne
        rw [tm_ul_n hba] at hb
        rw [tm_ul_n hca] at hc9
        exact h3 b c ys zs hb hc9 he hne
/-- a list is born: an object of ArrayList's becomes an empty list -/
theorem tm_lw_born {T : ClassId × ClassId × ClassId × ClassId} {e0 : Nat} {Λ : tmL} {Ω : tmO} {a : Nat} {mc : Int32} {fs : List Value} (h : tm_lw T e0 Λ Ω) (ha : Λ a = some (.inl (.inr (0, fs)))) : tm_lw T e0 (tm_ul Λ a []) (tm_up Ω a (.inr (0, [.int mc, .ref e0, .int (I 0)]))) := by
  obtain ⟨E, h1, h2, h3, h4⟩ := id h
  have hae : a ≠ e0 := by intro z; rw [z, tm_lw_e0 h] at ha; cases ha
  have hEa : ∀ b ys, Λ b = some (.inr ys) → E b ≠ a := by
    intro b ys hΛb z
    by_cases hne : E b = e0
    · exact hae (z.symm.trans hne)
    · have := (h2 b ys hΛb).2.1 hne
      rw [z, ha] at this; cases this
  have hel' : ∀ v, tm_el2 Λ v → tm_el2 (tm_ul Λ a []) v := by
    intro v hv
    obtain ⟨ci, fs, r, k1, k2, k3⟩ := hv
    exact ⟨ci, fs, r, by rw [tm_ul_n (by intro z; rw [z, ha] at k1; cases k1; exact k3.2 rfl)]; exact k1, k2, k3⟩
  obtain ⟨E', hEs, hEn⟩ : ∃ E' : Nat → Nat, E' a = e0 ∧ ∀ b, b ≠ a → E' b = E b := ⟨fun b => if b = a then e0 else E b, if_pos rfl, fun b h => if_neg h⟩
  refine ⟨E', fun b e hb => ?_, fun b ys hb => ?_, fun b c ys zs hb hc9 he hne => ?_, by rw [tm_up_n (Ne.symm hae)]; exact h4⟩
  · have hba : b ≠ a := by intro z; subst z; rw [tm_ul_s] at hb; cases hb
    rw [tm_ul_n hba] at hb
    rw [tm_up_n hba]
    exact h1 b e hb
  · by_cases hba : b = a
    · subst hba
      rw [tm_ul_s] at hb
      cases hb
      refine ⟨⟨mc, 0, fun _ => none, by rw [hEs, tm_up_s]; rfl, fun z => absurd hEs z, fun _ => rfl⟩, fun z => absurd hEs z, fun v hv => by cases hv⟩
    · rw [tm_ul_n hba] at hb
      obtain ⟨⟨mc2, cap2, f2, g1, g2, g3⟩, g4, g5⟩ := h2 b ys hb
      refine ⟨⟨mc2, cap2, f2, by rw [hEn b hba, tm_up_n hba]; exact g1, fun z => ?_, fun z => by rw [hEn b hba] at z; exact g3 z⟩, fun z => ?_, fun v hv => hel' v (g5 v hv)⟩
      · rw [hEn b hba] at z ⊢
        rw [tm_up_n (hEa b ys hb)]
        exact g2 z
      · rw [hEn b hba] at z ⊢
        rw [tm_ul_n (hEa b ys hb)]
        exact g4 z
  · by_cases hba : b = a
    · rw [hba, hEs] at hne; exact absurd rfl hne
    · by_cases hca : c = a
      · rw [hEn b hba] at hne
        rw [hEn b hba, hca, hEs] at he
        exact absurd he hne
      · rw [hEn b hba, hEn c hca] at he
        rw [hEn b hba] at hne
        rw [tm_ul_n hba] at hb
        rw [tm_ul_n hca] at hc9
        exact h3 b c ys zs hb hc9 he hne
section TML
variable {x : tmX} {cc : ByteArray} {own : String} {ret : Option FieldType} {b n pc : Nat} {L : List (Nat × Value)} {st : List Value} {Λ : tmL} {Ω : tmO} {a : Nat}
theorem tm_li (k : ∀ Ω, tm_lw (tm_T x) (tm_e0 x) Λ Ω → tm_V x (tm_G x Ω) b n pc L st) : tm_V x (tm_H x Λ) b n pc L st := by
  intro H locs ls cells slots h1 h2 hS hG hl
  obtain ⟨Ω, hw, hh⟩ := hG
  exact k Ω hw H locs ls cells slots h1 h2 hS hh hl
theorem tm_lo (hw : tm_lw (tm_T x) (tm_e0 x) Λ Ω) (k : tm_V x (tm_H x Λ) b n pc L st) : tm_V x (tm_G x Ω) b n pc L st := by
  intro H locs ls cells slots h1 h2 hS hG hl
  exact k H locs ls cells slots h1 h2 hS ⟨Ω, hw, hG⟩ hl
/-- what the heap gives: the addresses of a world aren't frozen -/
theorem tm_nfz {e : va_E} (ha : Ω a = some e) (k : ¬ tm_Fz x a → tm_V x (tm_G x Ω) b n pc L st) : tm_V x (tm_G x Ω) b n pc L st := by
  intro H locs ls cells slots h1 h2 hS hG hl
  exact k (tm_hol_at hG ha).2.1 H locs ls cells slots h1 h2 hS hG hl
theorem tm_ne0 (hC : tm_C x cc own ret) (h : ¬ tm_Fz x a) : a ≠ tm_e0 x := fun z => h (by rw [z]; exact hC.2.2.2.2.2.2.2.2.2.2.2.1)
theorem tm_getf2 {idx ci k : Nat} {fs : List Value} {v : Value} (hC : tm_C x cc own ret) (hf : tm_f own idx ci k) (ha : Λ a = some (.inl (.inr (ci, fs)))) (hv : fs[k]? = some v) (hd : decode cc pc = .ok (.getfield idx, 3)) (kk : tm_V x (tm_H x Λ) b n (pc + 3) L (v :: st)) : tm_V x (tm_H x Λ) b n pc L (.ref a :: st) :=
  tm_li (fun Ω hw => tm_getf1 hC hf (hw.choose_spec.1 _ _ ha) hv hd (tm_lo hw kk))
theorem tm_putf2 {idx ci k : Nat} {fs : List Value} {v : Value} (hC : tm_C x cc own ret) (hf : tm_f own idx ci k) (ha : Λ a = some (.inl (.inr (ci, fs)))) (ht : tm_tt ci k false own v) (hl9 : k < fs.length) (hd : decode cc pc = .ok (.putfield idx, 3)) (kk : tm_V x (tm_H x (tm_u2 Λ a (.inr (ci, fs.set k v)))) b n (pc + 3) L st) : tm_V x (tm_H x Λ) b n pc L (v :: .ref a :: st) :=
  tm_li (fun Ω hw => tm_putf1 hC hf (hw.choose_spec.1 _ _ ha) ht hl9 hd (tm_lo (tm_lw_set hw (Or.inl ⟨_, ha, fun ci2 fs2 z => by cases z; exact ⟨_, rfl⟩⟩)) kk))
theorem tm_putfF2 {idx ci k : Nat} {fs : List Value} {v : Value} (hC : tm_C x cc own ret) (hin2 : (tm_me x).name = "<init>") (hf : tm_f own idx ci k) (ha : Λ a = some (.inl (.inr (ci, fs)))) (ht : tm_tt ci k true own v) (hl9 : k < fs.length) (hd : decode cc pc = .ok (.putfield idx, 3)) (hnn : ∃ (C ref : String) (T : u_T) (N : Nat), classes[ci]? = some (C, T, N) ∧ Cond.fieldLink own idx ref (T k).2.1 (T k).2.2.1 ∈ ALL ∧ (T k).1 = ref) (kk : tm_V x (tm_H x (tm_u2 Λ a (.inr (ci, fs.set k v)))) b n (pc + 3) L st) : tm_V x (tm_H x Λ) b n pc L (v :: .ref a :: st) :=
  tm_li (fun Ω hw => tm_putfF1 hC hin2 hf (hw.choose_spec.1 _ _ ha) ht hl9 hd hnn (tm_lo (tm_lw_set hw (Or.inl ⟨_, ha, fun ci2 fs2 z => by cases z; exact ⟨_, rfl⟩⟩)) kk))
theorem tm_new2 {idx ci : Nat} {fs : List Value} (hC : tm_C x cc own ret) (hnw : tm_nw9 own idx ci fs) (hd : decode cc pc = .ok (.new idx, 3)) (kk : ∀ q, Λ q = none → tm_V x (tm_H x (tm_u2 Λ q (.inr (ci, fs)))) b n (pc + 3) L (.ref q :: st)) : tm_V x (tm_H x Λ) (1 + b) (fs.length + n) pc L st :=
  tm_li (fun Ω hw => tm_new1 hC hnw hd (fun q hq => tm_nfz tm_up_s (fun hz => tm_lo (tm_lw_set hw (Or.inr ⟨hq, tm_ne0 hC hz⟩)) (kk q (tm_lw_none hw hq)))))
theorem tm_newi2 {k : Int} (hC : tm_C x cc own ret) (hk : 0 ≤ k ∧ k ≤ 100000) (hw9 : Cond.arrayClass .int ∈ ALL) (hd : decode cc pc = .ok (.newarray .int, 2)) (kk : ∀ q, Λ q = none → tm_V x (tm_H x (tm_u2 Λ q (tm_ai (tm_T x) k.toNat (fun _ => 0)))) b n (pc + 2) L (.ref q :: st)) : tm_V x (tm_H x Λ) (1 + b) (k.toNat + n) pc L (.int (I k) :: st) :=
  tm_li (fun Ω hw => tm_newi1 hC hk hw9 hd (fun q hq => tm_nfz tm_up_s (fun hz => tm_lo (tm_lw_set hw (Or.inr ⟨hq, tm_ne0 hC hz⟩)) (kk q (tm_lw_none hw hq)))))
theorem tm_newz2 {k : Int} (hC : tm_C x cc own ret) (hk : 0 ≤ k ∧ k ≤ 100000) (hw9 : Cond.arrayClass .boolean ∈ ALL) (hd : decode cc pc = .ok (.newarray .boolean, 2)) (kk : ∀ q, Λ q = none → tm_V x (tm_H x (tm_u2 Λ q (tm_az (tm_T x) k.toNat (fun _ => 0)))) b n (pc + 2) L (.ref q :: st)) : tm_V x (tm_H x Λ) (1 + b) (k.toNat + n) pc L (.int (I k) :: st) :=
  tm_li (fun Ω hw => tm_newz1 hC hk hw9 hd (fun q hq => tm_nfz tm_up_s (fun hz => tm_lo (tm_lw_set hw (Or.inr ⟨hq, tm_ne0 hC hz⟩)) (kk q (tm_lw_none hw hq)))))
theorem tm_newl2 {k : Int} (hC : tm_C x cc own ret) (hk : 0 ≤ k ∧ k ≤ 100000) (hw9 : Cond.arrayClass .long ∈ ALL) (hd : decode cc pc = .ok (.newarray .long, 2)) (kk : ∀ q, Λ q = none → tm_V x (tm_H x (tm_u2 Λ q (tm_al (tm_T x) k.toNat (fun _ => 0)))) b n (pc + 2) L (.ref q :: st)) : tm_V x (tm_H x Λ) (1 + b) (k.toNat + n) pc L (.int (I k) :: st) :=
  tm_li (fun Ω hw => tm_newl1 hC hk hw9 hd (fun q hq => tm_nfz tm_up_s (fun hz => tm_lo (tm_lw_set hw (Or.inr ⟨hq, tm_ne0 hC hz⟩)) (kk q (tm_lw_none hw hq)))))
theorem tm_alen2 {c : ClassId} {y : vp_A} {t0 : Nat} {ty : FieldType} (hC : tm_C x cc own ret) (ha : Λ a = some (.inl (.inl (c, y)))) (ht : (tm_tys (tm_T x))[t0]? = some (c, ty)) (hd : decode cc pc = .ok (.arraylength, 1)) (kk : tm_V x (tm_H x Λ) b n (pc + 1) L (.int (I y.1) :: st)) : tm_V x (tm_H x Λ) b n pc L (.ref a :: st) :=
  tm_li (fun Ω hw => tm_alen1 hC (hw.choose_spec.1 _ _ ha) ht hd (tm_lo hw kk))
theorem tm_iald2 {i : Int} {k : Nat} {g : Int → Int} (hC : tm_C x cc own ret) (ha : Λ a = some (.inl (tm_ai (tm_T x) k g))) (hi : 0 ≤ i ∧ i < k ∧ i ≤ 2147483647) (hd : decode cc pc = .ok (.iaload, 1)) (kk : tm_V x (tm_H x Λ) b n (pc + 1) L (.int (I (g i)) :: st)) : tm_V x (tm_H x Λ) b n pc L (.int (I i) :: .ref a :: st) :=
  tm_li (fun Ω hw => tm_iald1 hC (hw.choose_spec.1 _ _ ha) hi hd (tm_lo hw kk))
theorem tm_zald2 {i : Int} {k : Nat} {g : Int → Int} (hC : tm_C x cc own ret) (ha : Λ a = some (.inl (tm_az (tm_T x) k g))) (hi : 0 ≤ i ∧ i < k ∧ i ≤ 2147483647) (hd : decode cc pc = .ok (.baload, 1)) (kk : tm_V x (tm_H x Λ) b n (pc + 1) L (.int (I (g i)) :: st)) : tm_V x (tm_H x Λ) b n pc L (.int (I i) :: .ref a :: st) :=
  tm_li (fun Ω hw => tm_zald1 hC (hw.choose_spec.1 _ _ ha) hi hd (tm_lo hw kk))
theorem tm_lald2 {i : Int} {k : Nat} {g : Nat → Int64} (hC : tm_C x cc own ret) (ha : Λ a = some (.inl (tm_al (tm_T x) k g))) (hi : 0 ≤ i ∧ i < k ∧ i ≤ 2147483647) (hd : decode cc pc = .ok (.laload, 1)) (kk : tm_V x (tm_H x Λ) b n (pc + 1) L (.long (g i.toNat) :: st)) : tm_V x (tm_H x Λ) b n pc L (.int (I i) :: .ref a :: st) :=
  tm_li (fun Ω hw => tm_lald1 hC (hw.choose_spec.1 _ _ ha) hi hd (tm_lo hw kk))
theorem tm_iast2 {i v : Int} {k : Nat} {g : Int → Int} (hC : tm_C x cc own ret) (ha : Λ a = some (.inl (tm_ai (tm_T x) k g))) (hi : 0 ≤ i ∧ i < k ∧ i ≤ 2147483647) (hd : decode cc pc = .ok (.iastore, 1)) (kk : tm_V x (tm_H x (tm_u2 Λ a (tm_ai (tm_T x) k (tm_ui g i v)))) b n (pc + 1) L st) : tm_V x (tm_H x Λ) b n pc L (.int (I v) :: .int (I i) :: .ref a :: st) :=
  tm_li (fun Ω hw => tm_iast1 hC (hw.choose_spec.1 _ _ ha) hi hd (tm_lo (tm_lw_set hw (Or.inl ⟨_, ha, fun ci2 fs2 z => by cases z⟩)) kk))
theorem tm_zast2 {i v : Int} {k : Nat} {g : Int → Int} (hC : tm_C x cc own ret) (ha : Λ a = some (.inl (tm_az (tm_T x) k g))) (hi : 0 ≤ i ∧ i < k ∧ i ≤ 2147483647) (hv : v = 0 ∨ v = 1) (hd : decode cc pc = .ok (.bastore, 1)) (kk : tm_V x (tm_H x (tm_u2 Λ a (tm_az (tm_T x) k (tm_ui g i v)))) b n (pc + 1) L st) : tm_V x (tm_H x Λ) b n pc L (.int (I v) :: .int (I i) :: .ref a :: st) :=
  tm_li (fun Ω hw => tm_zast1 hC (hw.choose_spec.1 _ _ ha) hi hv hd (tm_lo (tm_lw_set hw (Or.inl ⟨_, ha, fun ci2 fs2 z => by cases z⟩)) kk))
theorem tm_last2 {i : Int} {v : Int64} {k : Nat} {g : Nat → Int64} (hC : tm_C x cc own ret) (ha : Λ a = some (.inl (tm_al (tm_T x) k g))) (hi : 0 ≤ i ∧ i < k ∧ i ≤ 2147483647) (hd : decode cc pc = .ok (.lastore, 1)) (kk : tm_V x (tm_H x (tm_u2 Λ a (tm_al (tm_T x) k (vp_updL g i.toNat v)))) b n (pc + 1) L st) : tm_V x (tm_H x Λ) b n pc L (.long v :: .int (I i) :: .ref a :: st) :=
  tm_li (fun Ω hw => tm_last1 hC (hw.choose_spec.1 _ _ ha) hi hd (tm_lo (tm_lw_set hw (Or.inl ⟨_, ha, fun ci2 fs2 z => by cases z⟩)) kk))
theorem tm_rec2 {ci : Nat} {fs : List Value} {r : vw_C} (hC : tm_C x cc own ret) (ha : Λ a = some (.inl (.inr (ci, fs)))) (hc : classes[ci]? = some r) : ∀ H, tm_h2 (tm_D x) (tm_T x) (tm_e0 x) (tm_Fz x) Λ H → ∃ cell : Cell, H[a]? = some cell ∧ cell.vm.isStatics = false ∧ (tm_st x).vm.findClass r.1 = some cell.cls := by
  intro H hG
  obtain ⟨Ω, hw, hh⟩ := hG
  exact tm_rec1 hC (hw.choose_spec.1 _ _ ha) hc H hh
theorem tm_recL {xs : List Nat} (hC : tm_C x cc own ret) (ha : Λ a = some (.inr xs)) : ∀ H, tm_h2 (tm_D x) (tm_T x) (tm_e0 x) (tm_Fz x) Λ H → ∃ cell : Cell, H[a]? = some cell ∧ cell.vm.isStatics = false ∧ (tm_st x).vm.findClass RJx4a65c = some cell.cls := by
  intro H hG
  obtain ⟨Ω, hw, hh⟩ := hG
  obtain ⟨mc, cap, f, g1, -⟩ := (hw.choose_spec.2.1 a xs ha).1
  exact tm_rec1 (r := (RJx4a65c, TJx4a65c, 3)) hC g1 rfl H hh
theorem tm_cast2 {idx ci : Nat} {fs : List Value} {r : vw_C} (hC : tm_C x cc own ret) (ha : Λ a = some (.inl (.inr (ci, fs)))) (hc : classes[ci]? = some r) (hk : Cond.classLink own idx r.1 ∈ ALL) (hd : decode cc pc = .ok (.checkcast idx, 3)) (kk : tm_V x (tm_H x Λ) b n (pc + 3) L (.ref a :: st)) : tm_V x (tm_H x Λ) b n pc L (.ref a :: st) :=
  tm_li (fun Ω hw => tm_cast1 hC (hw.choose_spec.1 _ _ ha) hc hk hd (tm_lo hw kk))
end TML
theorem tt_0_0 {own : String} (v : Int32) : tm_tt 0 0 false own (.int v) := by
  intro C T N hc
  cases Option.some.inj hc
  exact ⟨⟨tyJx4a65c, tyJx4a65c_ok⟩, nmJx4a65c, rfl, (fun z => by cases z), tyJx4a65c 0, tyJx4a65c_ok 0 (by decide), rfl, rfl⟩
theorem tt_0_1 {own : String} (a : Nat) : tm_tt 0 1 false own (.ref a) := by
  intro C T N hc
  cases Option.some.inj hc
  exact ⟨⟨tyJx4a65c, tyJx4a65c_ok⟩, nmJx4a65c, rfl, (fun z => by cases z), tyJx4a65c 1, tyJx4a65c_ok 1 (by decide), rfl, rfl⟩
theorem tt_0_1_n {own : String} : tm_tt 0 1 false own .null := by
  intro C T N hc
  cases Option.some.inj hc
  exact ⟨⟨tyJx4a65c, tyJx4a65c_ok⟩, nmJx4a65c, rfl, (fun z => by cases z), tyJx4a65c 1, tyJx4a65c_ok 1 (by decide), rfl, rfl⟩
theorem tt_0_2 {own : String} (v : Int32) : tm_tt 0 2 false own (.int v) := by
  intro C T N hc
  cases Option.some.inj hc
  exact ⟨⟨tyJx4a65c, tyJx4a65c_ok⟩, nmJx4a65c, rfl, (fun z => by cases z), tyJx4a65c 2, tyJx4a65c_ok 2 (by decide), rfl, rfl⟩
theorem tt_1_0 (v : Int32) : tm_tt 1 0 true RX0 (.int v) := by
  intro C T N hc
  cases Option.some.inj hc
  exact ⟨⟨tyX0, tyX0_ok⟩, nmX0, rfl, fun _ => rfl, tyX0 0, tyX0_ok 0 (by decide), rfl, rfl⟩
theorem tt_1_1 (v : Int32) : tm_tt 1 1 true RX0 (.int v) := by
  intro C T N hc
  cases Option.some.inj hc
  exact ⟨⟨tyX0, tyX0_ok⟩, nmX0, rfl, fun _ => rfl, tyX0 1, tyX0_ok 1 (by decide), rfl, rfl⟩
theorem tt_1_2 (v : Int32) : tm_tt 1 2 true RX0 (.int v) := by
  intro C T N hc
  cases Option.some.inj hc
  exact ⟨⟨tyX0, tyX0_ok⟩, nmX0, rfl, fun _ => rfl, tyX0 2, tyX0_ok 2 (by decide), rfl, rfl⟩
theorem tt_1_3 (a : Nat) : tm_tt 1 3 true RX0 (.ref a) := by
  intro C T N hc
  cases Option.some.inj hc
  exact ⟨⟨tyX0, tyX0_ok⟩, nmX0, rfl, fun _ => rfl, tyX0 3, tyX0_ok 3 (by decide), rfl, rfl⟩
theorem tt_1_3_n : tm_tt 1 3 true RX0 .null := by
  intro C T N hc
  cases Option.some.inj hc
  exact ⟨⟨tyX0, tyX0_ok⟩, nmX0, rfl, fun _ => rfl, tyX0 3, tyX0_ok 3 (by decide), rfl, rfl⟩
theorem tt_1_4 (a : Nat) : tm_tt 1 4 true RX0 (.ref a) := by
  intro C T N hc
  cases Option.some.inj hc
  exact ⟨⟨tyX0, tyX0_ok⟩, nmX0, rfl, fun _ => rfl, tyX0 4, tyX0_ok 4 (by decide), rfl, rfl⟩
theorem tt_1_4_n : tm_tt 1 4 true RX0 .null := by
  intro C T N hc
  cases Option.some.inj hc
  exact ⟨⟨tyX0, tyX0_ok⟩, nmX0, rfl, fun _ => rfl, tyX0 4, tyX0_ok 4 (by decide), rfl, rfl⟩
theorem tt_2_0 (a : Nat) : tm_tt 2 0 true RX1 (.ref a) := by
  intro C T N hc
  cases Option.some.inj hc
  exact ⟨⟨tyX1, tyX1_ok⟩, nmX1, rfl, fun _ => rfl, tyX1 0, tyX1_ok 0 (by decide), rfl, rfl⟩
theorem tt_2_0_n : tm_tt 2 0 true RX1 .null := by
  intro C T N hc
  cases Option.some.inj hc
  exact ⟨⟨tyX1, tyX1_ok⟩, nmX1, rfl, fun _ => rfl, tyX1 0, tyX1_ok 0 (by decide), rfl, rfl⟩
theorem tt_2_1 (a : Nat) : tm_tt 2 1 true RX1 (.ref a) := by
  intro C T N hc
  cases Option.some.inj hc
  exact ⟨⟨tyX1, tyX1_ok⟩, nmX1, rfl, fun _ => rfl, tyX1 1, tyX1_ok 1 (by decide), rfl, rfl⟩
theorem tt_2_1_n : tm_tt 2 1 true RX1 .null := by
  intro C T N hc
  cases Option.some.inj hc
  exact ⟨⟨tyX1, tyX1_ok⟩, nmX1, rfl, fun _ => rfl, tyX1 1, tyX1_ok 1 (by decide), rfl, rfl⟩
theorem tt_2_2 (a : Nat) : tm_tt 2 2 true RX1 (.ref a) := by
  intro C T N hc
  cases Option.some.inj hc
  exact ⟨⟨tyX1, tyX1_ok⟩, nmX1, rfl, fun _ => rfl, tyX1 2, tyX1_ok 2 (by decide), rfl, rfl⟩
theorem tt_2_2_n : tm_tt 2 2 true RX1 .null := by
  intro C T N hc
  cases Option.some.inj hc
  exact ⟨⟨tyX1, tyX1_ok⟩, nmX1, rfl, fun _ => rfl, tyX1 2, tyX1_ok 2 (by decide), rfl, rfl⟩
theorem tt_3_0 (v : Int32) : tm_tt 3 0 true RX2 (.int v) := by
  intro C T N hc
  cases Option.some.inj hc
  exact ⟨⟨tyX2, tyX2_ok⟩, nmX2, rfl, fun _ => rfl, tyX2 0, tyX2_ok 0 (by decide), rfl, rfl⟩
theorem tt_3_1 (v : Int32) : tm_tt 3 1 true RX2 (.int v) := by
  intro C T N hc
  cases Option.some.inj hc
  exact ⟨⟨tyX2, tyX2_ok⟩, nmX2, rfl, fun _ => rfl, tyX2 1, tyX2_ok 1 (by decide), rfl, rfl⟩
theorem tt_3_2 (v : Int32) : tm_tt 3 2 true RX2 (.int v) := by
  intro C T N hc
  cases Option.some.inj hc
  exact ⟨⟨tyX2, tyX2_ok⟩, nmX2, rfl, fun _ => rfl, tyX2 2, tyX2_ok 2 (by decide), rfl, rfl⟩
theorem tt_4_0 (v : Int32) : tm_tt 4 0 true RX3 (.int v) := by
  intro C T N hc
  cases Option.some.inj hc
  exact ⟨⟨tyX3, tyX3_ok⟩, nmX3, rfl, fun _ => rfl, tyX3 0, tyX3_ok 0 (by decide), rfl, rfl⟩
theorem tt_4_1 (v : Int32) : tm_tt 4 1 true RX3 (.int v) := by
  intro C T N hc
  cases Option.some.inj hc
  exact ⟨⟨tyX3, tyX3_ok⟩, nmX3, rfl, fun _ => rfl, tyX3 1, tyX3_ok 1 (by decide), rfl, rfl⟩
theorem tt_4_2 (v : Int32) : tm_tt 4 2 true RX3 (.int v) := by
  intro C T N hc
  cases Option.some.inj hc
  exact ⟨⟨tyX3, tyX3_ok⟩, nmX3, rfl, fun _ => rfl, tyX3 2, tyX3_ok 2 (by decide), rfl, rfl⟩
theorem tt_4_3 (v : Int32) : tm_tt 4 3 true RX3 (.int v) := by
  intro C T N hc
  cases Option.some.inj hc
  exact ⟨⟨tyX3, tyX3_ok⟩, nmX3, rfl, fun _ => rfl, tyX3 3, tyX3_ok 3 (by decide), rfl, rfl⟩
theorem tt_4_4 (v : Int) (h : v = 0 ∨ v = 1) : tm_tt 4 4 true RX3 (.int (I v)) := by
  intro C T N hc
  cases Option.some.inj hc
  exact ⟨⟨tyX3, tyX3_ok⟩, nmX3, rfl, fun _ => rfl, tyX3 4, tyX3_ok 4 (by decide), (by rcases h with rfl | rfl <;> rfl), (by rcases h with rfl | rfl <;> rfl)⟩
theorem tt_4_5 {own : String} (v : Int32) : tm_tt 4 5 false own (.int v) := by
  intro C T N hc
  cases Option.some.inj hc
  exact ⟨⟨tyX3, tyX3_ok⟩, nmX3, rfl, (fun z => by cases z), tyX3 5, tyX3_ok 5 (by decide), rfl, rfl⟩
theorem tt_5_0 (a : Nat) : tm_tt 5 0 true RX4 (.ref a) := by
  intro C T N hc
  cases Option.some.inj hc
  exact ⟨⟨tyX4, tyX4_ok⟩, nmX4, rfl, fun _ => rfl, tyX4 0, tyX4_ok 0 (by decide), rfl, rfl⟩
theorem tt_5_0_n : tm_tt 5 0 true RX4 .null := by
  intro C T N hc
  cases Option.some.inj hc
  exact ⟨⟨tyX4, tyX4_ok⟩, nmX4, rfl, fun _ => rfl, tyX4 0, tyX4_ok 0 (by decide), rfl, rfl⟩
theorem tt_5_1 (a : Nat) : tm_tt 5 1 true RX4 (.ref a) := by
  intro C T N hc
  cases Option.some.inj hc
  exact ⟨⟨tyX4, tyX4_ok⟩, nmX4, rfl, fun _ => rfl, tyX4 1, tyX4_ok 1 (by decide), rfl, rfl⟩
theorem tt_5_1_n : tm_tt 5 1 true RX4 .null := by
  intro C T N hc
  cases Option.some.inj hc
  exact ⟨⟨tyX4, tyX4_ok⟩, nmX4, rfl, fun _ => rfl, tyX4 1, tyX4_ok 1 (by decide), rfl, rfl⟩
theorem tt_5_2 (v : Int32) : tm_tt 5 2 true RX4 (.int v) := by
  intro C T N hc
  cases Option.some.inj hc
  exact ⟨⟨tyX4, tyX4_ok⟩, nmX4, rfl, fun _ => rfl, tyX4 2, tyX4_ok 2 (by decide), rfl, rfl⟩
theorem tt_5_3 (v : Int32) : tm_tt 5 3 true RX4 (.int v) := by
  intro C T N hc
  cases Option.some.inj hc
  exact ⟨⟨tyX4, tyX4_ok⟩, nmX4, rfl, fun _ => rfl, tyX4 3, tyX4_ok 3 (by decide), rfl, rfl⟩
theorem tt_5_4 (v : Int) (h : v = 0 ∨ v = 1) : tm_tt 5 4 true RX4 (.int (I v)) := by
  intro C T N hc
  cases Option.some.inj hc
  exact ⟨⟨tyX4, tyX4_ok⟩, nmX4, rfl, fun _ => rfl, tyX4 4, tyX4_ok 4 (by decide), (by rcases h with rfl | rfl <;> rfl), (by rcases h with rfl | rfl <;> rfl)⟩
theorem tt_6_0 (a : Nat) : tm_tt 6 0 true RX5 (.ref a) := by
  intro C T N hc
  cases Option.some.inj hc
  exact ⟨⟨tyX5, tyX5_ok⟩, nmX5, rfl, fun _ => rfl, tyX5 0, tyX5_ok 0 (by decide), rfl, rfl⟩
theorem tt_6_0_n : tm_tt 6 0 true RX5 .null := by
  intro C T N hc
  cases Option.some.inj hc
  exact ⟨⟨tyX5, tyX5_ok⟩, nmX5, rfl, fun _ => rfl, tyX5 0, tyX5_ok 0 (by decide), rfl, rfl⟩
theorem tt_6_1 (a : Nat) : tm_tt 6 1 true RX5 (.ref a) := by
  intro C T N hc
  cases Option.some.inj hc
  exact ⟨⟨tyX5, tyX5_ok⟩, nmX5, rfl, fun _ => rfl, tyX5 1, tyX5_ok 1 (by decide), rfl, rfl⟩
theorem tt_6_1_n : tm_tt 6 1 true RX5 .null := by
  intro C T N hc
  cases Option.some.inj hc
  exact ⟨⟨tyX5, tyX5_ok⟩, nmX5, rfl, fun _ => rfl, tyX5 1, tyX5_ok 1 (by decide), rfl, rfl⟩
theorem tt_6_2 (a : Nat) : tm_tt 6 2 true RX5 (.ref a) := by
  intro C T N hc
  cases Option.some.inj hc
  exact ⟨⟨tyX5, tyX5_ok⟩, nmX5, rfl, fun _ => rfl, tyX5 2, tyX5_ok 2 (by decide), rfl, rfl⟩
theorem tt_6_2_n : tm_tt 6 2 true RX5 .null := by
  intro C T N hc
  cases Option.some.inj hc
  exact ⟨⟨tyX5, tyX5_ok⟩, nmX5, rfl, fun _ => rfl, tyX5 2, tyX5_ok 2 (by decide), rfl, rfl⟩
theorem tt_6_3 (a : Nat) : tm_tt 6 3 true RX5 (.ref a) := by
  intro C T N hc
  cases Option.some.inj hc
  exact ⟨⟨tyX5, tyX5_ok⟩, nmX5, rfl, fun _ => rfl, tyX5 3, tyX5_ok 3 (by decide), rfl, rfl⟩
theorem tt_6_3_n : tm_tt 6 3 true RX5 .null := by
  intro C T N hc
  cases Option.some.inj hc
  exact ⟨⟨tyX5, tyX5_ok⟩, nmX5, rfl, fun _ => rfl, tyX5 3, tyX5_ok 3 (by decide), rfl, rfl⟩
theorem tt_6_4 (a : Nat) : tm_tt 6 4 true RX5 (.ref a) := by
  intro C T N hc
  cases Option.some.inj hc
  exact ⟨⟨tyX5, tyX5_ok⟩, nmX5, rfl, fun _ => rfl, tyX5 4, tyX5_ok 4 (by decide), rfl, rfl⟩
theorem tt_6_4_n : tm_tt 6 4 true RX5 .null := by
  intro C T N hc
  cases Option.some.inj hc
  exact ⟨⟨tyX5, tyX5_ok⟩, nmX5, rfl, fun _ => rfl, tyX5 4, tyX5_ok 4 (by decide), rfl, rfl⟩
theorem tt_6_5 {own : String} (v : Int32) : tm_tt 6 5 false own (.int v) := by
  intro C T N hc
  cases Option.some.inj hc
  exact ⟨⟨tyX5, tyX5_ok⟩, nmX5, rfl, (fun z => by cases z), tyX5 5, tyX5_ok 5 (by decide), rfl, rfl⟩
theorem tt_6_6 {own : String} (v : Int32) : tm_tt 6 6 false own (.int v) := by
  intro C T N hc
  cases Option.some.inj hc
  exact ⟨⟨tyX5, tyX5_ok⟩, nmX5, rfl, (fun z => by cases z), tyX5 6, tyX5_ok 6 (by decide), rfl, rfl⟩
theorem tt_6_7 {own : String} (v : Int32) : tm_tt 6 7 false own (.int v) := by
  intro C T N hc
  cases Option.some.inj hc
  exact ⟨⟨tyX5, tyX5_ok⟩, nmX5, rfl, (fun z => by cases z), tyX5 7, tyX5_ok 7 (by decide), rfl, rfl⟩
theorem tt_7_0 {own : String} (v : Int32) : tm_tt 7 0 false own (.int v) := by
  intro C T N hc
  cases Option.some.inj hc
  exact ⟨⟨tyX6, tyX6_ok⟩, nmX6, rfl, (fun z => by cases z), tyX6 0, tyX6_ok 0 (by decide), rfl, rfl⟩
theorem tt_7_1 {own : String} (v : Int32) : tm_tt 7 1 false own (.int v) := by
  intro C T N hc
  cases Option.some.inj hc
  exact ⟨⟨tyX6, tyX6_ok⟩, nmX6, rfl, (fun z => by cases z), tyX6 1, tyX6_ok 1 (by decide), rfl, rfl⟩
theorem tt_7_2 (a : Nat) : tm_tt 7 2 true RX6 (.ref a) := by
  intro C T N hc
  cases Option.some.inj hc
  exact ⟨⟨tyX6, tyX6_ok⟩, nmX6, rfl, fun _ => rfl, tyX6 2, tyX6_ok 2 (by decide), rfl, rfl⟩
theorem tt_7_2_n : tm_tt 7 2 true RX6 .null := by
  intro C T N hc
  cases Option.some.inj hc
  exact ⟨⟨tyX6, tyX6_ok⟩, nmX6, rfl, fun _ => rfl, tyX6 2, tyX6_ok 2 (by decide), rfl, rfl⟩
theorem tt_7_3 {own : String} (v : Int32) : tm_tt 7 3 false own (.int v) := by
  intro C T N hc
  cases Option.some.inj hc
  exact ⟨⟨tyX6, tyX6_ok⟩, nmX6, rfl, (fun z => by cases z), tyX6 3, tyX6_ok 3 (by decide), rfl, rfl⟩
theorem tt_7_4 (a : Nat) : tm_tt 7 4 true RX6 (.ref a) := by
  intro C T N hc
  cases Option.some.inj hc
  exact ⟨⟨tyX6, tyX6_ok⟩, nmX6, rfl, fun _ => rfl, tyX6 4, tyX6_ok 4 (by decide), rfl, rfl⟩
theorem tt_7_4_n : tm_tt 7 4 true RX6 .null := by
  intro C T N hc
  cases Option.some.inj hc
  exact ⟨⟨tyX6, tyX6_ok⟩, nmX6, rfl, fun _ => rfl, tyX6 4, tyX6_ok 4 (by decide), rfl, rfl⟩
theorem tt_7_5 {own : String} (v : Int32) : tm_tt 7 5 false own (.int v) := by
  intro C T N hc
  cases Option.some.inj hc
  exact ⟨⟨tyX6, tyX6_ok⟩, nmX6, rfl, (fun z => by cases z), tyX6 5, tyX6_ok 5 (by decide), rfl, rfl⟩
theorem tt_7_6 (a : Nat) : tm_tt 7 6 true RX6 (.ref a) := by
  intro C T N hc
  cases Option.some.inj hc
  exact ⟨⟨tyX6, tyX6_ok⟩, nmX6, rfl, fun _ => rfl, tyX6 6, tyX6_ok 6 (by decide), rfl, rfl⟩
theorem tt_7_6_n : tm_tt 7 6 true RX6 .null := by
  intro C T N hc
  cases Option.some.inj hc
  exact ⟨⟨tyX6, tyX6_ok⟩, nmX6, rfl, fun _ => rfl, tyX6 6, tyX6_ok 6 (by decide), rfl, rfl⟩
theorem tt_7_7 (a : Nat) : tm_tt 7 7 true RX6 (.ref a) := by
  intro C T N hc
  cases Option.some.inj hc
  exact ⟨⟨tyX6, tyX6_ok⟩, nmX6, rfl, fun _ => rfl, tyX6 7, tyX6_ok 7 (by decide), rfl, rfl⟩
theorem tt_7_7_n : tm_tt 7 7 true RX6 .null := by
  intro C T N hc
  cases Option.some.inj hc
  exact ⟨⟨tyX6, tyX6_ok⟩, nmX6, rfl, fun _ => rfl, tyX6 7, tyX6_ok 7 (by decide), rfl, rfl⟩
theorem tt_7_8 {own : String} (v : Int32) : tm_tt 7 8 false own (.int v) := by
  intro C T N hc
  cases Option.some.inj hc
  exact ⟨⟨tyX6, tyX6_ok⟩, nmX6, rfl, (fun z => by cases z), tyX6 8, tyX6_ok 8 (by decide), rfl, rfl⟩
theorem tt_7_9 {own : String} (v : Int32) : tm_tt 7 9 false own (.int v) := by
  intro C T N hc
  cases Option.some.inj hc
  exact ⟨⟨tyX6, tyX6_ok⟩, nmX6, rfl, (fun z => by cases z), tyX6 9, tyX6_ok 9 (by decide), rfl, rfl⟩
theorem tt_7_10 {own : String} (v : Int32) : tm_tt 7 10 false own (.int v) := by
  intro C T N hc
  cases Option.some.inj hc
  exact ⟨⟨tyX6, tyX6_ok⟩, nmX6, rfl, (fun z => by cases z), tyX6 10, tyX6_ok 10 (by decide), rfl, rfl⟩
theorem tt_7_11 (a : Nat) : tm_tt 7 11 true RX6 (.ref a) := by
  intro C T N hc
  cases Option.some.inj hc
  exact ⟨⟨tyX6, tyX6_ok⟩, nmX6, rfl, fun _ => rfl, tyX6 11, tyX6_ok 11 (by decide), rfl, rfl⟩
theorem tt_7_11_n : tm_tt 7 11 true RX6 .null := by
  intro C T N hc
  cases Option.some.inj hc
  exact ⟨⟨tyX6, tyX6_ok⟩, nmX6, rfl, fun _ => rfl, tyX6 11, tyX6_ok 11 (by decide), rfl, rfl⟩
theorem tt_7_12 (a : Nat) : tm_tt 7 12 true RX6 (.ref a) := by
  intro C T N hc
  cases Option.some.inj hc
  exact ⟨⟨tyX6, tyX6_ok⟩, nmX6, rfl, fun _ => rfl, tyX6 12, tyX6_ok 12 (by decide), rfl, rfl⟩
theorem tt_7_12_n : tm_tt 7 12 true RX6 .null := by
  intro C T N hc
  cases Option.some.inj hc
  exact ⟨⟨tyX6, tyX6_ok⟩, nmX6, rfl, fun _ => rfl, tyX6 12, tyX6_ok 12 (by decide), rfl, rfl⟩
theorem tt_7_13 {own : String} (v : Int32) : tm_tt 7 13 false own (.int v) := by
  intro C T N hc
  cases Option.some.inj hc
  exact ⟨⟨tyX6, tyX6_ok⟩, nmX6, rfl, (fun z => by cases z), tyX6 13, tyX6_ok 13 (by decide), rfl, rfl⟩
theorem tt_7_14 {own : String} (v : Int32) : tm_tt 7 14 false own (.int v) := by
  intro C T N hc
  cases Option.some.inj hc
  exact ⟨⟨tyX6, tyX6_ok⟩, nmX6, rfl, (fun z => by cases z), tyX6 14, tyX6_ok 14 (by decide), rfl, rfl⟩
theorem l_X0_10 : (Cond.fieldLink "TimberList$Board" (10 : Nat) "TimberList$Board" "defects" "Ljava/util/ArrayList;") ∈ ALL := tm_in3 192 rfl rfl
theorem l_X0_16 : (Cond.fieldLink "TimberList$Board" (16 : Nat) "TimberList$Board" "cutPieces" "Ljava/util/ArrayList;") ∈ ALL := tm_in3 193 rfl rfl
theorem l_X0_19 : (Cond.fieldLink "TimberList$Board" (19 : Nat) "TimberList$Board" "length" "I") ∈ ALL := tm_in3 187 rfl rfl
theorem l_X0_23 : (Cond.fieldLink "TimberList$Board" (23 : Nat) "TimberList$Board" "width" "I") ∈ ALL := tm_in3 189 rfl rfl
theorem l_X0_26 : (Cond.fieldLink "TimberList$Board" (26 : Nat) "TimberList$Board" "grade" "I") ∈ ALL := tm_in3 191 rfl rfl
theorem l_X1_7 : (Cond.fieldLink "TimberList$Cutting" (7 : Nat) "TimberList$Cutting" "part" "LTimberList$Part;") ∈ ALL := tm_in1 196 rfl rfl
theorem l_X1_13 : (Cond.fieldLink "TimberList$Cutting" (13 : Nat) "TimberList$Cutting" "first" "LTimberList$Piece;") ∈ ALL := tm_in1 198 rfl rfl
theorem l_X1_17 : (Cond.fieldLink "TimberList$Cutting" (17 : Nat) "TimberList$Cutting" "second" "LTimberList$Piece;") ∈ ALL := tm_in1 200 rfl rfl
theorem l_X2_7 : (Cond.fieldLink "TimberList$Defect" (7 : Nat) "TimberList$Defect" "from" "I") ∈ ALL := tm_in3 234 rfl rfl
theorem l_X2_13 : (Cond.fieldLink "TimberList$Defect" (13 : Nat) "TimberList$Defect" "to" "I") ∈ ALL := tm_in3 236 rfl rfl
theorem l_X2_16 : (Cond.fieldLink "TimberList$Defect" (16 : Nat) "TimberList$Defect" "grade" "I") ∈ ALL := tm_in3 238 rfl rfl
theorem l_X3_7 : (Cond.fieldLink "TimberList$Part" (7 : Nat) "TimberList$Part" "number" "I") ∈ ALL := tm_in4 25 rfl rfl
theorem l_X3_13 : (Cond.fieldLink "TimberList$Part" (13 : Nat) "TimberList$Part" "length" "I") ∈ ALL := tm_in4 28 rfl rfl
theorem l_X3_16 : (Cond.fieldLink "TimberList$Part" (16 : Nat) "TimberList$Part" "width" "I") ∈ ALL := tm_in4 31 rfl rfl
theorem l_X3_19 : (Cond.fieldLink "TimberList$Part" (19 : Nat) "TimberList$Part" "grade" "I") ∈ ALL := tm_in4 34 rfl rfl
theorem l_X3_22 : (Cond.fieldLink "TimberList$Part" (22 : Nat) "TimberList$Part" "canBeJoined" "Z") ∈ ALL := tm_in4 37 rfl rfl
theorem l_X4_7 : (Cond.fieldLink "TimberList$Piece" (7 : Nat) "TimberList$Piece" "part" "LTimberList$Part;") ∈ ALL := tm_in1 170 rfl rfl
theorem l_X4_13 : (Cond.fieldLink "TimberList$Piece" (13 : Nat) "TimberList$Piece" "board" "LTimberList$Board;") ∈ ALL := tm_in1 172 rfl rfl
theorem l_X4_17 : (Cond.fieldLink "TimberList$Piece" (17 : Nat) "TimberList$Piece" "from" "I") ∈ ALL := tm_in1 174 rfl rfl
theorem l_X4_21 : (Cond.fieldLink "TimberList$Piece" (21 : Nat) "TimberList$Piece" "to" "I") ∈ ALL := tm_in1 177 rfl rfl
theorem l_X4_24 : (Cond.fieldLink "TimberList$Piece" (24 : Nat) "TimberList$Piece" "isJoined" "Z") ∈ ALL := tm_in1 180 rfl rfl
theorem l_X5_10 : (Cond.fieldLink "TimberList" (10 : Nat) "TimberList" "boards" "Ljava/util/ArrayList;") ∈ ALL := tm_in1 64 rfl rfl
theorem l_X5_16 : (Cond.fieldLink "TimberList" (16 : Nat) "TimberList" "parts" "Ljava/util/ArrayList;") ∈ ALL := tm_in1 65 rfl rfl
theorem l_X5_19 : (Cond.fieldLink "TimberList" (19 : Nat) "TimberList" "planningOrder" "Ljava/util/ArrayList;") ∈ ALL := tm_in1 66 rfl rfl
theorem l_X5_22 : (Cond.fieldLink "TimberList" (22 : Nat) "TimberList" "cuttings" "Ljava/util/ArrayList;") ∈ ALL := tm_in1 67 rfl rfl
theorem l_X5_25 : (Cond.fieldLink "TimberList" (25 : Nat) "TimberList" "bestSums" "[I") ∈ ALL := tm_in1 68 rfl rfl
theorem l_X6_9 : (Cond.fieldLink "TimberListModel" (9 : Nat) "TimberListModel" "wood" "[I") ∈ ALL := tm_in5 28 rfl rfl
theorem l_X6_13 : (Cond.fieldLink "TimberListModel" (13 : Nat) "TimberListModel" "flaws" "[I") ∈ ALL := tm_in5 30 rfl rfl
theorem l_X6_16 : (Cond.fieldLink "TimberListModel" (16 : Nat) "TimberListModel" "wants" "[I") ∈ ALL := tm_in5 32 rfl rfl
theorem l_X6_19 : (Cond.fieldLink "TimberListModel" (19 : Nat) "TimberListModel" "mayBeJoined" "[Z") ∈ ALL := tm_in5 33 rfl rfl
theorem l_X6_30 : (Cond.fieldLink "TimberListModel" (30 : Nat) "TimberListModel" "cuts" "[I") ∈ ALL := tm_in5 37 rfl rfl
theorem l_X6_33 : (Cond.fieldLink "TimberListModel" (33 : Nat) "TimberListModel" "areJoined" "[Z") ∈ ALL := tm_in5 38 rfl rfl
end
section
theorem tm_ishr1 {x : tmX} {cc : ByteArray} {own : String} {ret : Option FieldType} {G : Heap → Prop} {b n pc : Nat} {L : List (Nat × Value)} {st : List Value} {u : Int} (hC : tm_C x cc own ret) (hd : decode cc pc = .ok (.ishr, 1)) (h : 0 ≤ u ∧ u ≤ 2147483647) (k : tm_V x G b n (pc + 1) L (.int (I (u / 2)) :: st)) : tm_V x G b n pc L (.int (I 1) :: .int (I u) :: st) := by
  intro H locs ls cells slots h1 h2 hS hG hl
  have e0 : ∀ z : Int, 0 ≤ z ∧ z ≤ 2147483647 → I z = nI z.toNat := fun z hz => by rw [← Int32.toInt_inj, I_toInt (by omega), nI_toInt (by omega)]; omega
  have e : I u >>> ((I 1) &&& 31) = I (u / 2) := by
    rw [e0 u h, e0 (u / 2) (by omega), pk_shrN (by omega) ((I 1) &&& 31) 1 (by decide)]
    congr 1
    omega
  refine lv_ishr hC.1 hC.2.1 hd ?_
  rw [e]
  exact k H locs ls cells slots h1 h2 hS hG hl
theorem tm_up_up {Ω : tmO} {a : Nat} {e e' : va_E} : tm_up (tm_up Ω a e) a e' = tm_up Ω a e' := by
  funext b
  by_cases h : b = a
  · subst h; rw [tm_up_s, tm_up_s]
  · rw [tm_up_n h, tm_up_n h, tm_up_n h]
theorem tm_up_c {Ω : tmO} {a c : Nat} {e e' : va_E} (h : a ≠ c) : tm_up (tm_up Ω a e) c e' = tm_up (tm_up Ω c e') a e := by
  funext b
  by_cases h1 : b = a
  · subst h1; rw [tm_up_n h, tm_up_s, tm_up_s]
  · by_cases h2 : b = c
    · subst h2; rw [tm_up_s, tm_up_n h1, tm_up_s]
    · rw [tm_up_n h2, tm_up_n h1, tm_up_n h1, tm_up_n h2]
theorem tm_el_put {Ω : tmO} {a v : Nat} {fs fs' : List Value} (h : tm_el Ω v) (ha : Ω a = some (.inr (0, fs))) : tm_el (tm_up Ω a (.inr (0, fs'))) v := by
  obtain ⟨ci, gs, r, h1, h2, h3⟩ := h
  by_cases hv : v = a
  · subst hv; rw [ha] at h1; cases h1; exact ⟨0, fs', r, tm_up_s, h2, h3⟩
  · exact ⟨ci, gs, r, by rw [tm_up_n hv]; exact h1, h2, h3⟩
theorem tm_el_arr {Ω : tmO} {a v : Nat} {e e' : ClassId × vp_A} (h : tm_el Ω v) (ha : Ω a = some (.inl e)) : tm_el (tm_up Ω a (.inl e')) v := by
  obtain ⟨ci, gs, r, h1, h2, h3⟩ := h
  exact ⟨ci, gs, r, by rw [tm_up_n (fun z => by subst z; rw [ha] at h1; cases h1)]; exact h1, h2, h3⟩
theorem tm_up_none {Ω : tmO} {a b : Nat} {e : va_E} (h : tm_up Ω a e b = none) : Ω b = none := by
  by_cases hb : b = a
  · subst hb; rw [tm_up_s] at h; cases h
  · rw [tm_up_n hb] at h; exact h
theorem tm_el_up {Ω : tmO} {a v : Nat} {e : va_E} (h : tm_el Ω v) (ha : Ω a = none) : tm_el (tm_up Ω a e) v := by
  obtain ⟨ci, fs, r, h1, h2, h3⟩ := h
  exact ⟨ci, fs, r, by rw [tm_up_n (fun z => by subst z; rw [ha] at h1; cases h1)]; exact h1, h2, h3⟩

set_option maxHeartbeats 4000000 in
set_option maxRecDepth 100000 in
theorem c_J3_checkIndex (γ : tmG) (hst : γ.1.stackTraces = false) {Wd : Type} (h : (Nat → Prop) → Wd → Heap → Prop) (w : Wd) (i k : Int) (hi : 0 ≤ i ∧ i < k ∧ k ≤ 2147483647) : tm_Con γ h M_J3_checkIndex_8e157 1 0 0 [.int (I (i)), .int (I (k)), .null] w (fun v w' => w = w' ∧ v = some (.int (I i))) := by
  refine tm_con hst (by decide) (Nat.le_of_ble_eq_true rfl) (fun x hB hR => ?_)
  have hg := hB.1
  subst hg
  have hC : tm_C x cJ3_checkIndex_8e157 RJ3 (some FieldType.int) := hB.2.2.2.1
  show tm_V x (h (tm_Fz x) w) 0 0 0 [(0, .int (I (i))), (1, .int (I (k))), (2, .null)] []
  refine tm_iload_n 0 hC dJ3_checkIndex_8e157_0 rfl rfl ?_
  refine tm_if_lt 9 hC dJ3_checkIndex_8e157_1 (by decide) (by omega) (fun c_1 => ?_) (fun c_1 => ?_)
  · exact ((by omega) : False).elim
  · refine tm_iload_n 0 hC dJ3_checkIndex_8e157_4 rfl rfl ?_
    refine tm_iload_n 1 hC dJ3_checkIndex_8e157_5 rfl rfl ?_
    refine tm_icmp_lt 16 hC dJ3_checkIndex_8e157_6 (by decide) (by omega) (fun c_6 => ?_) (fun c_6 => ?_)
    · refine tm_iload_n 0 hC dJ3_checkIndex_8e157_16 rfl rfl ?_
      exact tm_iret hC hR dJ3_checkIndex_8e157_17 (⟨rfl, rfl⟩)
    · exact ((by omega) : False).elim

set_option maxHeartbeats 4000000 in
set_option maxRecDepth 100000 in
theorem c_J15_checkIndex (γ : tmG) (hst : γ.1.stackTraces = false) {Wd : Type} (h : (Nat → Prop) → Wd → Heap → Prop) (w : Wd) (i k : Int) (hi : 0 ≤ i ∧ i < k ∧ k ≤ 2147483647) : tm_Con γ h M_J15_checkIndex_7cf53 2 0 0 [.int (I (i)), .int (I (k))] w (fun v w' => w = w' ∧ v = some (.int (I i))) := by
  refine tm_con hst (by decide) (Nat.le_of_ble_eq_true rfl) (fun x hB hR => ?_)
  have hg := hB.1
  subst hg
  have hC : tm_C x cJ15_checkIndex_7cf53 RJ15 (some FieldType.int) := hB.2.2.2.1
  show tm_V x (h (tm_Fz x) w) 0 0 0 [(0, .int (I (i))), (1, .int (I (k)))] []
  refine tm_iload_n 0 hC dJ15_checkIndex_7cf53_0 rfl rfl ?_
  refine tm_iload_n 1 hC dJ15_checkIndex_7cf53_1 rfl rfl ?_
  refine tm_null hC dJ15_checkIndex_7cf53_2 ?_
  refine tm_callS (b := 0) (n := 0) (rest := []) hC (c_J3_checkIndex (tm_g x) hst h _ i k (by omega)) k_J15_105 (by rw [hB.2.2.1]; exact ⟨Nat.le_of_ble_eq_true rfl, Nat.le_of_ble_eq_true rfl⟩) rfl rfl (by decide) dJ15_checkIndex_7cf53_3 (fun v_3 w_3 hp_3 => ?_)
  obtain ⟨rfl, rfl⟩ := hp_3
  show tm_V x (h (tm_Fz x) w) 0 0 6 [(0, .int (I (i))), (1, .int (I (k)))] [.int (I (i))]
  exact tm_iret hC hR dJ15_checkIndex_7cf53_6 (⟨rfl, rfl⟩)

set_option maxHeartbeats 4000000 in
set_option maxRecDepth 100000 in
theorem c_Jxa1e45_init (γ : tmG) (hst : γ.1.stackTraces = false) {Wd : Type} (h : (Nat → Prop) → Wd → Heap → Prop) (w : Wd) (a : Nat) : tm_Con γ h M_Jxa1e45_init_da8c8 1 0 0 [.ref (a)] w (fun v w' => w = w' ∧ v = none) := by
  refine tm_con hst (by decide) (Nat.le_of_ble_eq_true rfl) (fun x hB hR => ?_)
  have hg := hB.1
  subst hg
  have hC : tm_C x cJxa1e45_init_da8c8 RJxa1e45 (none) := hB.2.2.2.1
  show tm_V x (h (tm_Fz x) w) 0 0 0 [(0, .ref (a))] []
  refine tm_aload_n 0 hC dJxa1e45_init_da8c8_0 rfl rfl ?_
  refine tm_objInit hC x_Jxa1e45_1 (by rw [hB.2.2.1]; exact ⟨Nat.le_of_ble_eq_true rfl, Nat.le_of_ble_eq_true rfl⟩) ((by decide)) dJxa1e45_init_da8c8_1 ?_
  exact tm_vret hC hR dJxa1e45_init_da8c8_4 (⟨rfl, rfl⟩)

set_option maxHeartbeats 4000000 in
set_option maxRecDepth 100000 in
theorem c_Jxc12de_init (γ : tmG) (hst : γ.1.stackTraces = false) (Ω : tmO) (a : Nat) (mc : Int32) (ha : Ω a = some (.inr (0, [.int mc, .null, .int (I 0)]))) : tm_Con γ (tm_hol γ.2.1) M_Jxc12de_init_da8c8 2 0 0 [.ref (a)] Ω (fun v w' => tm_up Ω a (.inr (0, [.int (I 0), .null, .int (I 0)])) = w' ∧ v = none) := by
  refine tm_con hst (by decide) (Nat.le_of_ble_eq_true rfl) (fun x hB hR => ?_)
  have hg := hB.1
  subst hg
  have hC : tm_C x cJxc12de_init_da8c8 RJxc12de (none) := hB.2.2.2.1
  show tm_V x (tm_G x Ω) 0 0 0 [(0, .ref (a))] []
  refine tm_aload_n 0 hC dJxc12de_init_da8c8_0 rfl rfl ?_
  refine tm_callI (b := 0) (n := 0) (rest := []) hC (c_Jxa1e45_init (tm_g x) hst (tm_hol (tm_D x)) _ a) k_Jxc12de_1 (by rw [hB.2.2.1]; exact ⟨Nat.le_of_ble_eq_true rfl, Nat.le_of_ble_eq_true rfl⟩) rfl rfl (by decide) dJxc12de_init_da8c8_1 (fun v_1 w_1 hp_1 => ?_)
  obtain ⟨rfl, rfl⟩ := hp_1
  show tm_V x (tm_G x Ω) 0 0 4 [(0, .ref (a))] []
  refine tm_aload_n 0 hC dJxc12de_init_da8c8_4 rfl rfl ?_
  refine tm_iconst hC dJxc12de_init_da8c8_5 ?_
  refine tm_putf1 hC f_Jxc12de_7 ha (tt_0_0 _) (Nat.le_of_ble_eq_true rfl) dJxc12de_init_da8c8_6 ?_
  obtain ⟨w1, hw2⟩ : ∃ z, z = tm_up Ω a (.inr (0, [.int (I (0)), .null, .int (I (0))])) := ⟨_, rfl⟩
  show tm_V x (tm_G x (tm_up Ω a (.inr (0, [.int (I (0)), .null, .int (I (0))])))) 0 0 9 [(0, .ref (a))] []
  rw [← hw2]
  have hw1_a : w1 a = some (.inr (0, [.int (I (0)), .null, .int (I (0))])) := by rw [hw2]; first | done | exact tm_up_s
  exact tm_vret hC hR dJxc12de_init_da8c8_9 (⟨hw2.symm, rfl⟩)

set_option maxHeartbeats 4000000 in
set_option maxRecDepth 100000 in
theorem c_J8_newLength (γ : tmG) (hst : γ.1.stackTraces = false) {Wd : Type} (h : (Nat → Prop) → Wd → Heap → Prop) (w : Wd) (k m g : Int) (hi : 0 ≤ k ∧ k ≤ 100000 ∧ 0 ≤ m ∧ m ≤ 100000 ∧ 0 ≤ g ∧ g ≤ 100000 ∧ 1 ≤ k + max m g) : tm_Con γ h M_J8_newLength_cabcc 1 0 0 [.int (I (k)), .int (I (m)), .int (I (g))] w (fun v w' => w = w' ∧ v = some (.int (I (k + max m g)))) := by
  refine tm_con hst (by decide) (Nat.le_of_ble_eq_true rfl) (fun x hB hR => ?_)
  have hg := hB.1
  subst hg
  have hC : tm_C x cJ8_newLength_cabcc RJ8 (some FieldType.int) := hB.2.2.2.1
  show tm_V x (h (tm_Fz x) w) 0 0 0 [(0, .int (I (k))), (1, .int (I (m))), (2, .int (I (g)))] []
  refine tm_iload_n 0 hC dJ8_newLength_cabcc_0 rfl rfl ?_
  refine tm_iload_n 1 hC dJ8_newLength_cabcc_1 rfl rfl ?_
  refine tm_iload_n 2 hC dJ8_newLength_cabcc_2 rfl rfl ?_
  refine tm_mm hC true x_J8_194 (by omega) (by rw [hB.2.2.1]; exact ⟨Nat.le_of_ble_eq_true rfl, Nat.le_of_ble_eq_true rfl⟩) ((by simp [Value.category])) dJ8_newLength_cabcc_3 ?_
  show tm_V x (h (tm_Fz x) w) 0 0 6 [(0, .int (I (k))), (1, .int (I (m))), (2, .int (I (g)))] [.int (I (max m g)), .int (I (k))]
  refine tm_iadd hC dJ8_newLength_cabcc_6 ?_
  refine tm_istore_n [(3, .int (I (k + (max m g)))), (0, .int (I (k))), (1, .int (I (m))), (2, .int (I (g)))] hC dJ8_newLength_cabcc_7 rfl (by rw [hB.2.1]; exact Nat.le_of_ble_eq_true rfl) rfl ?_
  refine tm_iconst hC dJ8_newLength_cabcc_8 ?_
  refine tm_iload_n 0 hC dJ8_newLength_cabcc_9 rfl rfl ?_
  refine tm_icmp_ge 21 hC dJ8_newLength_cabcc_10 (by decide) (by omega) (fun c_10 => ?_) (fun c_10 => ?_)
  · exact ((by omega) : False).elim
  · refine tm_iload_n 0 hC dJ8_newLength_cabcc_13 rfl rfl ?_
    refine tm_ldc (v := I 2147483639) hC w_J8_200 dJ8_newLength_cabcc_14 ?_
    refine tm_icmp_gt 21 hC dJ8_newLength_cabcc_16 (by decide) (by omega) (fun c_16 => ?_) (fun c_16 => ?_)
    · exact ((by omega) : False).elim
    · refine tm_iload_n 0 hC dJ8_newLength_cabcc_19 rfl rfl ?_
      exact tm_iret hC hR dJ8_newLength_cabcc_20 (⟨rfl, rfl⟩)

set_option maxHeartbeats 4000000 in
set_option maxRecDepth 100000 in
theorem c_J7_copyOf3 (γ : tmG) (hst : γ.1.stackTraces = false) (Ω : tmO) (d cap : Nat) (f : Nat → Option Nat) (k : Int) (hd : Ω d = some (tm_ao γ.2.2.1 cap f)) (hk : (cap : Int) ≤ k ∧ k ≤ 1000) (he : ∀ i : Nat, i < cap → ∀ y : Nat, f i = some y → tm_el Ω y) : tm_Con γ (tm_hol γ.2.1) M_J7_copyOf_6403c 1 1 k.toNat [.ref (d), .int (I (k)), .ref (γ.2.2.2.2)] Ω (fun v w' => ∃ (q : Nat) (g : Nat → Option Nat), Ω q = none ∧ tm_up Ω q (tm_ao γ.2.2.1 k.toNat g) = w' ∧ (∀ i : Nat, i < cap → g i = f i) ∧ v = some (.ref q)) := by
  refine tm_con hst (by decide) (Nat.le_of_ble_eq_true rfl) (fun x hB hR => ?_)
  have hg := hB.1
  subst hg
  have hC : tm_C x cJ7_copyOf_6403c RJ7 (some (FieldType.array (FieldType.object "java/lang/Object"))) := hB.2.2.2.1
  show tm_V x (tm_G x Ω) 1 k.toNat 0 [(0, .ref (d)), (1, .int (I (k))), (2, .ref ((tm_g x).2.2.2.2))] []
  refine tm_aload_n 2 hC dJ7_copyOf_6403c_0 rfl rfl ?_
  refine tm_ldcM hC w_J7_110 dJ7_copyOf_6403c_1 ?_
  refine tm_acmp_ne 13 hC dJ7_copyOf_6403c_3 (by decide) (fun c_3 => ?_) (fun c_3 => ?_)
  · exact absurd rfl c_3
  · refine tm_iload_n 1 hC dJ7_copyOf_6403c_6 rfl rfl ?_
    refine tm_less (b' := 1 + 0) (n' := (k : Int).toNat + 0) ⟨by omega, by omega⟩ ?_
    refine tm_newo1 hC (by omega) w_J7_2 dJ7_copyOf_6403c_7 (fun q1 hq2 => ?_)
    obtain ⟨w3, hw4⟩ : ∃ z, z = tm_up Ω q1 (tm_ao (tm_T x) ((k : Int).toNat) (fun _ => none)) := ⟨_, rfl⟩
    show tm_V x (tm_G x (tm_up Ω q1 (tm_ao (tm_T x) ((k : Int).toNat) (fun _ => none)))) 0 0 10 [(0, .ref (d)), (1, .int (I (k))), (2, .ref ((tm_g x).2.2.2.2))] [.ref (q1)]
    rw [← hw4]
    have hw3_q1 : w3 q1 = some (tm_ao (tm_T x) ((k : Int).toNat) (fun _ => none)) := by rw [hw4]; first | done | exact tm_up_s
    have hw3_d := (show w3 d = _ by rw [hw4]; exact tm_up_n (fun z => by subst z; rw [hd] at hq2; cases hq2)).trans hd
    refine tm_goto 24 hC dJ7_copyOf_6403c_10 (by decide) ?_
    refine tm_astore_n [(3, .ref (q1)), (0, .ref (d)), (1, .int (I (k))), (2, .ref ((tm_g x).2.2.2.2))] hC dJ7_copyOf_6403c_24 rfl (by rw [hB.2.1]; exact Nat.le_of_ble_eq_true rfl) rfl ?_
    refine tm_aload_n 1 hC dJ7_copyOf_6403c_25 rfl rfl ?_
    refine tm_iconst hC dJ7_copyOf_6403c_26 ?_
    refine tm_aload_n 0 hC dJ7_copyOf_6403c_27 rfl rfl ?_
    refine tm_iconst hC dJ7_copyOf_6403c_28 ?_
    refine tm_aload_n 1 hC dJ7_copyOf_6403c_29 rfl rfl ?_
    refine tm_alen1 (t0 := 3) (ty := .object "java/lang/Object") hC hw3_d rfl dJ7_copyOf_6403c_30 ?_
    refine tm_iload_n 2 hC dJ7_copyOf_6403c_31 rfl rfl ?_
    refine tm_mm hC false x_J7_304 (by omega) (by rw [hB.2.2.1]; exact ⟨Nat.le_of_ble_eq_true rfl, Nat.le_of_ble_eq_true rfl⟩) ((by simp [Value.category])) dJ7_copyOf_6403c_32 ?_
    show tm_V x (tm_G x w3) 0 0 35 [(3, .ref (q1)), (0, .ref (d)), (1, .int (I (k))), (2, .ref ((tm_g x).2.2.2.2))] [.int (I (min ((cap : Nat) : Int) k)), .int (I (0)), .ref (q1), .int (I (0)), .ref (d)]
    refine tm_copy1 hC x_J7_150 hw3_d hw3_q1 (by omega) (fun i hi y hy => by rw [hw4]; exact tm_el_up (he i (by omega) y (by simpa using hy)) hq2) (by rw [hB.2.2.1]; exact ⟨Nat.le_of_ble_eq_true rfl, Nat.le_of_ble_eq_true rfl⟩) (by decide) dJ7_copyOf_6403c_35 ?_
    obtain ⟨w5, hw6⟩ : ∃ z, z = tm_up w3 q1 (tm_ao (tm_T x) ((k : Int).toNat) (va_cpy f (fun _ => none) (0 : Int).toNat (0 : Int).toNat (min ((cap : Nat) : Int) k : Int).toNat)) := ⟨_, rfl⟩
    show tm_V x (tm_G x (tm_up w3 q1 (tm_ao (tm_T x) ((k : Int).toNat) (va_cpy f (fun _ => none) (0 : Int).toNat (0 : Int).toNat (min ((cap : Nat) : Int) k : Int).toNat)))) 0 0 38 [(3, .ref (q1)), (0, .ref (d)), (1, .int (I (k))), (2, .ref ((tm_g x).2.2.2.2))] []
    rw [← hw6]
    have hw5_q1 : w5 q1 = some (tm_ao (tm_T x) ((k : Int).toNat) (va_cpy f (fun _ => none) (0 : Int).toNat (0 : Int).toNat (min ((cap : Nat) : Int) k : Int).toNat)) := by rw [hw6]; first | done | exact tm_up_s
    refine tm_aload_n 0 hC dJ7_copyOf_6403c_38 rfl rfl ?_
    exact tm_aret hC hR (Or.inr ⟨_, rfl⟩) dJ7_copyOf_6403c_39 (⟨q1, _, hq2, (hw6.trans (by rw [hw4]; exact tm_up_up)).symm, fun i hi => (pk_cpy_in (by omega) (by omega)).trans (by congr 1; omega), rfl⟩)

set_option maxHeartbeats 4000000 in
set_option maxRecDepth 100000 in
theorem c_J7_copyOf2 (γ : tmG) (hst : γ.1.stackTraces = false) (Ω : tmO) (d cap : Nat) (f : Nat → Option Nat) (k : Int) (hd : Ω d = some (tm_ao γ.2.2.1 cap f)) (hk : (cap : Int) ≤ k ∧ k ≤ 1000) (he : ∀ i : Nat, i < cap → ∀ y : Nat, f i = some y → tm_el Ω y) : tm_Con γ (tm_hol γ.2.1) M_J7_copyOf_1904c 2 1 k.toNat [.ref (d), .int (I (k))] Ω (fun v w' => ∃ (q : Nat) (g : Nat → Option Nat), Ω q = none ∧ tm_up Ω q (tm_ao γ.2.2.1 k.toNat g) = w' ∧ (∀ i : Nat, i < cap → g i = f i) ∧ v = some (.ref q)) := by
  refine tm_con hst (by decide) (Nat.le_of_ble_eq_true rfl) (fun x hB hR => ?_)
  have hg := hB.1
  subst hg
  have hC : tm_C x cJ7_copyOf_1904c RJ7 (some (FieldType.array (FieldType.object "java/lang/Object"))) := hB.2.2.2.1
  show tm_V x (tm_G x Ω) 1 k.toNat 0 [(0, .ref (d)), (1, .int (I (k)))] []
  refine tm_aload_n 0 hC dJ7_copyOf_1904c_0 rfl rfl ?_
  refine tm_iload_n 1 hC dJ7_copyOf_1904c_1 rfl rfl ?_
  refine tm_aload_n 0 hC dJ7_copyOf_1904c_2 rfl rfl ?_
  refine tm_getC1 hC hd x_J7_86 (by rw [hB.2.2.1]; exact ⟨Nat.le_of_ble_eq_true rfl, Nat.le_of_ble_eq_true rfl⟩) (by simp [Value.category]) dJ7_copyOf_1904c_3 ?_
  refine tm_less (b' := 1 + 0) (n' := k.toNat + 0) ⟨by omega, by omega⟩ ?_
  refine tm_callS (b := 0) (n := 0) (rest := []) hC (c_J7_copyOf3 (tm_g x) hst _ d cap f k hd hk he) k_J7_300 (by rw [hB.2.2.1]; exact ⟨Nat.le_of_ble_eq_true rfl, Nat.le_of_ble_eq_true rfl⟩) rfl rfl (by decide) dJ7_copyOf_1904c_6 (fun v_6 w_6 hp_6 => ?_)
  obtain ⟨q, g, hq, hw, hg, rfl⟩ := hp_6
  show tm_V x (tm_G x w_6) 0 0 9 [(0, .ref (d)), (1, .int (I (k)))] [.ref (q)]
  exact tm_aret hC hR (Or.inr ⟨_, rfl⟩) dJ7_copyOf_1904c_9 (⟨q, g, hq, hw, hg, rfl⟩)

set_option maxHeartbeats 4000000 in
set_option maxRecDepth 100000 in
theorem c_growA (γ : tmG) (hst : γ.1.stackTraces = false) (Ω : tmO) (a n : Nat) (mc : Int32) (f : Nat → Option Nat) (ha : Ω a = some (.inr (0, [.int mc, .ref γ.2.2.2.1, .int (I n)]))) (hn : n = 0) : tm_Con γ (tm_hol γ.2.1) M_Jx4a65c_grow_92f84 4 1 400 [.ref (a), .int (I ((n : Int) + 1))] Ω (fun v w' => ∃ (q cap' : Nat) (g : Nat → Option Nat), Ω q = none ∧ tm_up (tm_up Ω q (tm_ao γ.2.2.1 cap' g)) a (.inr (0, [.int mc, .ref q, .int (I n)])) = w' ∧ (n < cap' ∧ 10 ≤ cap' ∧ cap' ≤ 400) ∧ (∀ i : Nat, i < n → g i = f i) ∧ v = some (.ref q)) := by
  refine tm_con hst (by decide) (Nat.le_of_ble_eq_true rfl) (fun x hB hR => ?_)
  have hg := hB.1
  subst hg
  have hC : tm_C x cJx4a65c_grow_92f84 RJx4a65c (some (FieldType.array (FieldType.object "java/lang/Object"))) := hB.2.2.2.1
  show tm_V x (tm_G x Ω) 1 400 0 [(0, .ref (a)), (1, .int (I ((n : Int) + 1)))] []
  refine tm_aload_n 0 hC dJx4a65c_grow_92f84_0 rfl rfl ?_
  refine tm_getf1 hC f_Jx4a65c_9 ha rfl dJx4a65c_grow_92f84_1 ?_
  refine tm_alen0 hC dJx4a65c_grow_92f84_4 ?_
  refine tm_istore_n [(2, .int (I (0))), (0, .ref (a)), (1, .int (I ((n : Int) + 1)))] hC dJx4a65c_grow_92f84_5 rfl (by rw [hB.2.1]; exact Nat.le_of_ble_eq_true rfl) rfl ?_
  refine tm_iload_n 0 hC dJx4a65c_grow_92f84_6 rfl rfl ?_
  refine tm_if_gt 20 hC dJx4a65c_grow_92f84_7 (by decide) (by omega) (fun c_7 => ?_) (fun c_7 => ?_)
  case refine_1 => exact absurd c_7 (by omega)
  refine tm_aload_n 1 hC dJx4a65c_grow_92f84_10 rfl rfl ?_
  refine tm_getf1 hC f_Jx4a65c_9 ha rfl dJx4a65c_grow_92f84_11 ?_
  refine tm_gets hC w_Jx4a65c_39 dJx4a65c_grow_92f84_14 ?_
  refine tm_acmp_eq 45 hC dJx4a65c_grow_92f84_17 (by decide) (fun c_17 => ?_) (fun c_17 => ?_)
  · refine tm_aload_n 1 hC dJx4a65c_grow_92f84_45 rfl rfl ?_
    refine tm_bipush hC dJx4a65c_grow_92f84_46 rfl ?_
    refine tm_iload_n 2 hC dJx4a65c_grow_92f84_48 rfl rfl ?_
    refine tm_mm hC true x_Jx4a65c_79 (by omega) (by rw [hB.2.2.1]; exact ⟨Nat.le_of_ble_eq_true rfl, Nat.le_of_ble_eq_true rfl⟩) ((by simp [Value.category])) dJx4a65c_grow_92f84_49 ?_
    show tm_V x (tm_G x Ω) 1 400 52 [(2, .int (I (0))), (0, .ref (a)), (1, .int (I ((n : Int) + 1)))] [.int (I (max 10 ((n : Int) + 1))), .ref (a)]
    refine tm_less (b' := 1 + 0) (n' := (max 10 ((n : Int) + 1) : Int).toNat + 0) ⟨by omega, by omega⟩ ?_
    refine tm_newo1 hC (by omega) w_Jx4a65c_7 dJx4a65c_grow_92f84_52 (fun q1 hq2 => ?_)
    obtain ⟨w3, hw4⟩ : ∃ z, z = tm_up Ω q1 (tm_ao (tm_T x) ((max 10 ((n : Int) + 1) : Int).toNat) (fun _ => none)) := ⟨_, rfl⟩
    show tm_V x (tm_G x (tm_up Ω q1 (tm_ao (tm_T x) ((max 10 ((n : Int) + 1) : Int).toNat) (fun _ => none)))) 0 0 55 [(2, .int (I (0))), (0, .ref (a)), (1, .int (I ((n : Int) + 1)))] [.ref (q1), .ref (a)]
    rw [← hw4]
    have hw3_q1 : w3 q1 = some (tm_ao (tm_T x) ((max 10 ((n : Int) + 1) : Int).toNat) (fun _ => none)) := by rw [hw4]; first | done | exact tm_up_s
    have hw3_a := (show w3 a = _ by rw [hw4]; exact tm_up_n (fun z => by subst z; rw [ha] at hq2; cases hq2)).trans ha
    refine tm_dup_x1 hC dJx4a65c_grow_92f84_55 rfl rfl ?_
    refine tm_putf1 hC f_Jx4a65c_9 hw3_a (tt_0_1 _) (Nat.le_of_ble_eq_true rfl) dJx4a65c_grow_92f84_56 ?_
    obtain ⟨w5, hw6⟩ : ∃ z, z = tm_up w3 a (.inr (0, [.int (mc), .ref (q1), .int (I ((n : Int)))])) := ⟨_, rfl⟩
    show tm_V x (tm_G x (tm_up w3 a (.inr (0, [.int (mc), .ref (q1), .int (I ((n : Int)))])))) 0 0 59 [(2, .int (I (0))), (0, .ref (a)), (1, .int (I ((n : Int) + 1)))] [.ref (q1)]
    rw [← hw6]
    have hw5_a : w5 a = some (.inr (0, [.int (mc), .ref (q1), .int (I ((n : Int)))])) := by rw [hw6]; first | done | exact tm_up_s
    have hw5_q1 := (show w5 q1 = _ by rw [hw6]; exact tm_up_n (fun z => absurd (hw3_a.symm.trans (z ▸ hw3_q1)) (by intro q; cases q))).trans hw3_q1
    exact tm_aret hC hR (Or.inr ⟨_, rfl⟩) dJx4a65c_grow_92f84_59 (⟨_, _, _, hq2, by rw [hw6, hw4], by omega, fun i hi => absurd hi (by omega), rfl⟩)
  · exact absurd rfl c_17

set_option maxHeartbeats 4000000 in
set_option maxRecDepth 100000 in
theorem c_growB (γ : tmG) (hst : γ.1.stackTraces = false) (Ω : tmO) (a d n : Nat) (mc : Int32) (f : Nat → Option Nat) (ha : Ω a = some (.inr (0, [.int mc, .ref d, .int (I n)]))) (hd : Ω d = some (tm_ao γ.2.2.1 n f)) (hn : 10 ≤ n ∧ n ≤ 250) (he : ∀ i : Nat, i < n → ∀ y : Nat, f i = some y → tm_el Ω y) : tm_Con γ (tm_hol γ.2.1) M_Jx4a65c_grow_92f84 4 1 400 [.ref (a), .int (I ((n : Int) + 1))] Ω (fun v w' => ∃ (q cap' : Nat) (g : Nat → Option Nat), Ω q = none ∧ tm_up (tm_up Ω q (tm_ao γ.2.2.1 cap' g)) a (.inr (0, [.int mc, .ref q, .int (I n)])) = w' ∧ (n < cap' ∧ 10 ≤ cap' ∧ cap' ≤ 400) ∧ (∀ i : Nat, i < n → g i = f i) ∧ v = some (.ref q)) := by
  refine tm_con hst (by decide) (Nat.le_of_ble_eq_true rfl) (fun x hB hR => ?_)
  have hg := hB.1
  subst hg
  have hC : tm_C x cJx4a65c_grow_92f84 RJx4a65c (some (FieldType.array (FieldType.object "java/lang/Object"))) := hB.2.2.2.1
  show tm_V x (tm_G x Ω) 1 400 0 [(0, .ref (a)), (1, .int (I ((n : Int) + 1)))] []
  refine tm_aload_n 0 hC dJx4a65c_grow_92f84_0 rfl rfl ?_
  refine tm_getf1 hC f_Jx4a65c_9 ha rfl dJx4a65c_grow_92f84_1 ?_
  refine tm_alen1 (t0 := 3) (ty := .object "java/lang/Object") hC hd rfl dJx4a65c_grow_92f84_4 ?_
  refine tm_istore_n [(2, .int (I (((n : Nat) : Int)))), (0, .ref (a)), (1, .int (I ((n : Int) + 1)))] hC dJx4a65c_grow_92f84_5 rfl (by rw [hB.2.1]; exact Nat.le_of_ble_eq_true rfl) rfl ?_
  refine tm_iload_n 0 hC dJx4a65c_grow_92f84_6 rfl rfl ?_
  refine tm_if_gt 20 hC dJx4a65c_grow_92f84_7 (by decide) (by omega) (fun c_7 => ?_) (fun c_7 => ?_)
  · refine tm_iload_n 0 hC dJx4a65c_grow_92f84_20 rfl rfl ?_
    refine tm_iload_n 2 hC dJx4a65c_grow_92f84_21 rfl rfl ?_
    refine tm_iload_n 0 hC dJx4a65c_grow_92f84_22 rfl rfl ?_
    refine tm_isub hC dJx4a65c_grow_92f84_23 ?_
    refine tm_iload_n 0 hC dJx4a65c_grow_92f84_24 rfl rfl ?_
    refine tm_iconst hC dJx4a65c_grow_92f84_25 ?_
    refine tm_ishr1 hC dJx4a65c_grow_92f84_26 (by omega) ?_
    refine tm_callS (b := 1) (n := 400) (rest := []) hC (c_J8_newLength (tm_g x) hst (tm_hol (tm_D x)) _ _ _ _ (by omega)) k_Jx4a65c_73 (by rw [hB.2.2.1]; exact ⟨Nat.le_of_ble_eq_true rfl, Nat.le_of_ble_eq_true rfl⟩) rfl rfl (by decide) dJx4a65c_grow_92f84_27 (fun v_27 w_27 hp_27 => ?_)
    obtain ⟨rfl, rfl⟩ := hp_27
    show tm_V x (tm_G x Ω) 1 400 30 [(2, .int (I (((n : Nat) : Int)))), (0, .ref (a)), (1, .int (I ((n : Int) + 1)))] [.int (I ((n : Int) + max ((n : Int) + 1 - (n : Int)) ((n : Int) / 2)))]
    refine tm_istore_n [(3, .int (I ((n : Int) + max ((n : Int) + 1 - (n : Int)) ((n : Int) / 2)))), (2, .int (I (((n : Nat) : Int)))), (0, .ref (a)), (1, .int (I ((n : Int) + 1)))] hC dJx4a65c_grow_92f84_30 rfl (by rw [hB.2.1]; exact Nat.le_of_ble_eq_true rfl) rfl ?_
    refine tm_aload_n 2 hC dJx4a65c_grow_92f84_31 rfl rfl ?_
    refine tm_aload_n 2 hC dJx4a65c_grow_92f84_32 rfl rfl ?_
    refine tm_getf1 hC f_Jx4a65c_9 ha rfl dJx4a65c_grow_92f84_33 ?_
    refine tm_iload_n 0 hC dJx4a65c_grow_92f84_36 rfl rfl ?_
    refine tm_less (b' := 1 + 0) (n' := (((n : Int) + max ((n : Int) + 1 - (n : Int)) ((n : Int) / 2) : Int).toNat) + 0) ⟨by omega, by omega⟩ ?_
    refine tm_callS (b := 0) (n := 0) (rest := [.ref (a)]) hC (c_J7_copyOf2 (tm_g x) hst _ d n f _ hd (by omega) he) k_Jx4a65c_66 (by rw [hB.2.2.1]; exact ⟨Nat.le_of_ble_eq_true rfl, Nat.le_of_ble_eq_true rfl⟩) rfl rfl (by simp [Value.category]) dJx4a65c_grow_92f84_37 (fun v_37 w_37 hp_37 => ?_)
    obtain ⟨q, g, hq, rfl, hg, rfl⟩ := hp_37
    have ha2 : (tm_up Ω q (tm_ao (tm_T x) ((n : Int) + max ((n : Int) + 1 - (n : Int)) ((n : Int) / 2) : Int).toNat g)) a = some (.inr (0, [.int mc, .ref d, .int (I n)])) := (tm_up_n (fun z => by subst z; rw [hq] at ha; cases ha)).trans ha
    show tm_V x (tm_G x (tm_up Ω q (tm_ao (tm_T x) ((n : Int) + max ((n : Int) + 1 - (n : Int)) ((n : Int) / 2) : Int).toNat g))) 0 0 40 [(3, .int (I ((n : Int) + max ((n : Int) + 1 - (n : Int)) ((n : Int) / 2)))), (2, .int (I (((n : Nat) : Int)))), (0, .ref (a)), (1, .int (I ((n : Int) + 1)))] [.ref (q), .ref (a)]
    refine tm_dup_x1 hC dJx4a65c_grow_92f84_40 rfl rfl ?_
    refine tm_putf1 hC f_Jx4a65c_9 ha2 (tt_0_1 _) (Nat.le_of_ble_eq_true rfl) dJx4a65c_grow_92f84_41 ?_
    obtain ⟨w1, hw2⟩ : ∃ z, z = tm_up (tm_up Ω q (tm_ao (tm_T x) ((n : Int) + max ((n : Int) + 1 - (n : Int)) ((n : Int) / 2) : Int).toNat g)) a (.inr (0, [.int (mc), .ref (q), .int (I ((n : Int)))])) := ⟨_, rfl⟩
    show tm_V x (tm_G x (tm_up (tm_up Ω q (tm_ao (tm_T x) ((n : Int) + max ((n : Int) + 1 - (n : Int)) ((n : Int) / 2) : Int).toNat g)) a (.inr (0, [.int (mc), .ref (q), .int (I ((n : Int)))])))) 0 0 44 [(3, .int (I ((n : Int) + max ((n : Int) + 1 - (n : Int)) ((n : Int) / 2)))), (2, .int (I (((n : Nat) : Int)))), (0, .ref (a)), (1, .int (I ((n : Int) + 1)))] [.ref (q)]
    rw [← hw2]
    have hw1_a : w1 a = some (.inr (0, [.int (mc), .ref (q), .int (I ((n : Int)))])) := by rw [hw2]; first | done | exact tm_up_s
    exact tm_aret hC hR (Or.inr ⟨_, rfl⟩) dJx4a65c_grow_92f84_44 (⟨_, _, _, hq, by rw [hw2], by omega, hg, rfl⟩)
  · exact ((by omega) : False).elim

theorem c_growI (γ : tmG) (hst : γ.1.stackTraces = false) (Ω : tmO) (a d n : Nat) (mc : Int32) (f : Nat → Option Nat) (ha : Ω a = some (.inr (0, [.int mc, .ref d, .int (I n)]))) (h : ((d = γ.2.2.2.1 ∧ n = 0) ∨ (Ω d = some (tm_ao γ.2.2.1 n f) ∧ (10 ≤ n ∧ n ≤ 250) ∧ ∀ i : Nat, i < n → ∀ y : Nat, f i = some y → tm_el Ω y))) : tm_Con γ (tm_hol γ.2.1) M_Jx4a65c_grow_92f84 4 1 400 [.ref a, .int (I ((n : Int) + 1))] Ω (fun v w' => ∃ (q cap' : Nat) (g : Nat → Option Nat), Ω q = none ∧ tm_up (tm_up Ω q (tm_ao γ.2.2.1 cap' g)) a (.inr (0, [.int mc, .ref q, .int (I n)])) = w' ∧ (n < cap' ∧ 10 ≤ cap' ∧ cap' ≤ 400) ∧ (∀ i : Nat, i < n → g i = f i) ∧ v = some (.ref q)) := by
  rcases h with ⟨h1, h2⟩ | ⟨h1, h2, h3⟩
  · subst h1; exact c_growA γ hst Ω a n mc f ha h2
  · exact c_growB γ hst Ω a d n mc f ha h1 h2 h3

set_option maxHeartbeats 4000000 in
set_option maxRecDepth 100000 in
theorem c_grow0 (γ : tmG) (hst : γ.1.stackTraces = false) (Ω : tmO) (a d n : Nat) (mc : Int32) (f : Nat → Option Nat) (ha : Ω a = some (.inr (0, [.int mc, .ref d, .int (I n)]))) (h : ((d = γ.2.2.2.1 ∧ n = 0) ∨ (Ω d = some (tm_ao γ.2.2.1 n f) ∧ (10 ≤ n ∧ n ≤ 250) ∧ ∀ i : Nat, i < n → ∀ y : Nat, f i = some y → tm_el Ω y))) : tm_Con γ (tm_hol γ.2.1) M_Jx4a65c_grow_d5877 5 1 400 [.ref (a)] Ω (fun v w' => ∃ (q cap' : Nat) (g : Nat → Option Nat), Ω q = none ∧ tm_up (tm_up Ω q (tm_ao γ.2.2.1 cap' g)) a (.inr (0, [.int mc, .ref q, .int (I n)])) = w' ∧ (n < cap' ∧ 10 ≤ cap' ∧ cap' ≤ 400) ∧ (∀ i : Nat, i < n → g i = f i) ∧ v = some (.ref q)) := by
  refine tm_con hst (by decide) (Nat.le_of_ble_eq_true rfl) (fun x hB hR => ?_)
  have hg := hB.1
  subst hg
  have hC : tm_C x cJx4a65c_grow_d5877 RJx4a65c (some (FieldType.array (FieldType.object "java/lang/Object"))) := hB.2.2.2.1
  show tm_V x (tm_G x Ω) 1 400 0 [(0, .ref (a))] []
  refine tm_aload_n 0 hC dJx4a65c_grow_d5877_0 rfl rfl ?_
  refine tm_aload_n 0 hC dJx4a65c_grow_d5877_1 rfl rfl ?_
  refine tm_getf1 hC f_Jx4a65c_48 ha rfl dJx4a65c_grow_d5877_2 ?_
  refine tm_iconst hC dJx4a65c_grow_d5877_5 ?_
  refine tm_iadd hC dJx4a65c_grow_d5877_6 ?_
  refine tm_less (b' := 1 + 0) (n' := 400 + 0) ⟨by omega, by omega⟩ ?_
  refine tm_callV (b := 0) (n := 0) (rest := []) hC (c_growI (tm_g x) hst Ω a d n mc f ha h) k_Jx4a65c_69 (by rw [hB.2.2.1]; exact ⟨Nat.le_of_ble_eq_true rfl, Nat.le_of_ble_eq_true rfl⟩) rfl (tm_rec1 hC ha rfl) rfl (by decide) dJx4a65c_grow_d5877_7 (fun v_7 w_7 hp_7 => ?_)
  obtain ⟨q, cap', g, hq, hw, hc, hg, rfl⟩ := hp_7
  show tm_V x (tm_G x w_7) 0 0 10 [(0, .ref (a))] [.ref (q)]
  exact tm_aret hC hR (Or.inr ⟨_, rfl⟩) dJx4a65c_grow_d5877_10 (⟨q, cap', g, hq, hw, hc, hg, rfl⟩)

set_option maxHeartbeats 4000000 in
set_option maxRecDepth 100000 in
theorem c_add3A (γ : tmG) (hst : γ.1.stackTraces = false) (Ω : tmO) (a d n v0 : Nat) (mc : Int32) (f : Nat → Option Nat) (ha : Ω a = some (.inr (0, [.int mc, .ref γ.2.2.2.1, .int (I n)]))) (hv : tm_el Ω v0) (hn : n = 0) : tm_Con γ (tm_hol γ.2.1) M_Jx4a65c_add_72be8 6 1 400 [.ref (a), .ref (v0), .ref (γ.2.2.2.1), .int (I ((n : Int)))] Ω (fun v w' => v = none ∧ ∃ (d' cap' : Nat) (g : Nat → Option Nat), (Ω d' = none ∨ (d' = γ.2.2.2.1 ∧ Ω γ.2.2.2.1 ≠ none)) ∧ (∀ b, b ≠ a → b ≠ d' → w' b = Ω b) ∧ w' a = some (.inr (0, [.int mc, .ref d', .int (I ((n : Int) + 1))])) ∧ w' d' = some (tm_ao γ.2.2.1 cap' g) ∧ (n + 1 ≤ cap' ∧ cap' ≤ 400 ∧ 10 ≤ cap') ∧ g n = some v0 ∧ ∀ i : Nat, i < n → g i = f i) := by
  refine tm_con hst (by decide) (Nat.le_of_ble_eq_true rfl) (fun x hB hR => ?_)
  have hg := hB.1
  subst hg
  have hC : tm_C x cJx4a65c_add_72be8 RJx4a65c (none) := hB.2.2.2.1
  show tm_V x (tm_G x Ω) 1 400 0 [(0, .ref (a)), (1, .ref (v0)), (2, .ref ((tm_g x).2.2.2.1)), (3, .int (I ((n : Int))))] []
  refine tm_iload_n 3 hC dJx4a65c_add_72be8_0 rfl rfl ?_
  refine tm_aload_n 2 hC dJx4a65c_add_72be8_1 rfl rfl ?_
  refine tm_alen0 hC dJx4a65c_add_72be8_2 ?_
  refine tm_icmp_ne 11 hC dJx4a65c_add_72be8_3 (by decide) (by omega) (fun c_3 => ?_) (fun c_3 => ?_)
  · exact ((by omega) : False).elim
  · refine tm_aload_n 0 hC dJx4a65c_add_72be8_6 rfl rfl ?_
    refine tm_less (b' := 1 + 0) (n' := 400 + 0) ⟨by omega, by omega⟩ ?_
    refine tm_callV (b := 0) (n := 0) (rest := []) hC (c_grow0 (tm_g x) hst Ω a (tm_e0 x) n mc f ha (Or.inl ⟨rfl, hn⟩)) k_Jx4a65c_129 (by rw [hB.2.2.1]; exact ⟨Nat.le_of_ble_eq_true rfl, Nat.le_of_ble_eq_true rfl⟩) rfl (tm_rec1 hC ha rfl) rfl (by decide) dJx4a65c_add_72be8_7 (fun v_7 w_7 hp_7 => ?_)
    obtain ⟨q, cap', g, hq, hw, hc, hg, rfl⟩ := hp_7
    have hqa : q ≠ a := fun z => by subst z; rw [hq] at ha; cases ha
    have hv2 : tm_el w_7 v0 := by rw [← hw]; exact tm_el_put (tm_el_up hv hq) ((tm_up_n (Ne.symm hqa)).trans ha)
    have ha2 : w_7 a = some (.inr (0, [.int mc, .ref q, .int (I n)])) := by rw [← hw]; exact tm_up_s
    have hq2 : w_7 q = some (tm_ao (tm_T x) cap' g) := by rw [← hw, tm_up_n hqa]; exact tm_up_s
    show tm_V x (tm_G x w_7) 0 0 10 [(0, .ref (a)), (1, .ref (v0)), (2, .ref (tm_e0 x)), (3, .int (I ((n : Int))))] [.ref (q)]
    refine tm_astore_n [(2, .ref (q)), (0, .ref (a)), (1, .ref (v0)), (3, .int (I ((n : Int))))] hC dJx4a65c_add_72be8_10 rfl (by rw [hB.2.1]; exact Nat.le_of_ble_eq_true rfl) rfl ?_
    refine tm_aload_n 0 hC dJx4a65c_add_72be8_11 rfl rfl ?_
    refine tm_iload_n 3 hC dJx4a65c_add_72be8_12 rfl rfl ?_
    refine tm_aload_n 2 hC dJx4a65c_add_72be8_13 rfl rfl ?_
    refine tm_aast1 hC hq2 (by omega) (hv2) dJx4a65c_add_72be8_14 ?_
    obtain ⟨w1, hw2⟩ : ∃ z, z = tm_up w_7 q (tm_ao (tm_T x) cap' (va_up g ((n : Int) : Int).toNat (some v0))) := ⟨_, rfl⟩
    show tm_V x (tm_G x (tm_up w_7 q (tm_ao (tm_T x) cap' (va_up g ((n : Int) : Int).toNat (some v0))))) 0 0 15 [(2, .ref (q)), (0, .ref (a)), (1, .ref (v0)), (3, .int (I ((n : Int))))] []
    rw [← hw2]
    have hw1_q : w1 q = some (tm_ao (tm_T x) cap' (va_up g ((n : Int) : Int).toNat (some v0))) := by rw [hw2]; first | done | exact tm_up_s
    have hw1_a := (show w1 a = _ by rw [hw2]; exact tm_up_n (fun z => absurd (hq2.symm.trans (z ▸ ha2)) (by intro q; cases q))).trans ha2
    refine tm_aload_n 1 hC dJx4a65c_add_72be8_15 rfl rfl ?_
    refine tm_iload_n 3 hC dJx4a65c_add_72be8_16 rfl rfl ?_
    refine tm_iconst hC dJx4a65c_add_72be8_17 ?_
    refine tm_iadd hC dJx4a65c_add_72be8_18 ?_
    refine tm_putf1 hC f_Jx4a65c_48 hw1_a (tt_0_2 _) (Nat.le_of_ble_eq_true rfl) dJx4a65c_add_72be8_19 ?_
    obtain ⟨w3, hw4⟩ : ∃ z, z = tm_up w1 a (.inr (0, [.int (mc), .ref (q), .int (I ((n : Int) + 1))])) := ⟨_, rfl⟩
    show tm_V x (tm_G x (tm_up w1 a (.inr (0, [.int (mc), .ref (q), .int (I ((n : Int) + 1))])))) 0 0 22 [(2, .ref (q)), (0, .ref (a)), (1, .ref (v0)), (3, .int (I ((n : Int))))] []
    rw [← hw4]
    have hw3_a : w3 a = some (.inr (0, [.int (mc), .ref (q), .int (I ((n : Int) + 1))])) := by rw [hw4]; first | done | exact tm_up_s
    have hw3_q := (show w3 q = _ by rw [hw4]; exact tm_up_n (fun z => absurd (hw1_a.symm.trans (z ▸ hw1_q)) (by intro q; cases q))).trans hw1_q
    exact tm_vret hC hR dJx4a65c_add_72be8_22 (⟨rfl, q, cap', va_up g ((n : Int)).toNat (some v0), Or.inl hq, fun b hb1 hb2 => by rw [hw4, tm_up_n hb1, hw2, tm_up_n hb2, ← hw, tm_up_n hb1, tm_up_n hb2], by rw [hw4]; exact tm_up_s, (by rw [hw4, tm_up_n (hqa), hw2]; exact tm_up_s), by omega, if_pos rfl, fun i hi => (if_neg (by omega)).trans (hg i hi)⟩)

set_option maxHeartbeats 4000000 in
set_option maxRecDepth 100000 in
theorem c_add3B (γ : tmG) (hst : γ.1.stackTraces = false) (Ω : tmO) (a d n v0 : Nat) (mc : Int32) (f : Nat → Option Nat) (ha : Ω a = some (.inr (0, [.int mc, .ref d, .int (I n)]))) (hv : tm_el Ω v0) (hd : Ω d = some (tm_ao γ.2.2.1 n f)) (hn : 10 ≤ n ∧ n ≤ 250) (he : ∀ i : Nat, i < n → ∀ y : Nat, f i = some y → tm_el Ω y) : tm_Con γ (tm_hol γ.2.1) M_Jx4a65c_add_72be8 6 1 400 [.ref (a), .ref (v0), .ref (d), .int (I ((n : Int)))] Ω (fun v w' => v = none ∧ ∃ (d' cap' : Nat) (g : Nat → Option Nat), (Ω d' = none ∨ (d' = d ∧ Ω d ≠ none)) ∧ (∀ b, b ≠ a → b ≠ d' → w' b = Ω b) ∧ w' a = some (.inr (0, [.int mc, .ref d', .int (I ((n : Int) + 1))])) ∧ w' d' = some (tm_ao γ.2.2.1 cap' g) ∧ (n + 1 ≤ cap' ∧ cap' ≤ 400 ∧ 10 ≤ cap') ∧ g n = some v0 ∧ ∀ i : Nat, i < n → g i = f i) := by
  refine tm_con hst (by decide) (Nat.le_of_ble_eq_true rfl) (fun x hB hR => ?_)
  have hg := hB.1
  subst hg
  have hC : tm_C x cJx4a65c_add_72be8 RJx4a65c (none) := hB.2.2.2.1
  show tm_V x (tm_G x Ω) 1 400 0 [(0, .ref (a)), (1, .ref (v0)), (2, .ref (d)), (3, .int (I ((n : Int))))] []
  refine tm_iload_n 3 hC dJx4a65c_add_72be8_0 rfl rfl ?_
  refine tm_aload_n 2 hC dJx4a65c_add_72be8_1 rfl rfl ?_
  refine tm_alen1 (t0 := 3) (ty := .object "java/lang/Object") hC hd rfl dJx4a65c_add_72be8_2 ?_
  refine tm_icmp_ne 11 hC dJx4a65c_add_72be8_3 (by decide) (by omega) (fun c_3 => ?_) (fun c_3 => ?_)
  · exact ((by omega) : False).elim
  · refine tm_aload_n 0 hC dJx4a65c_add_72be8_6 rfl rfl ?_
    refine tm_less (b' := 1 + 0) (n' := 400 + 0) ⟨by omega, by omega⟩ ?_
    refine tm_callV (b := 0) (n := 0) (rest := []) hC (c_grow0 (tm_g x) hst Ω a d n mc f ha (Or.inr ⟨hd, hn, he⟩)) k_Jx4a65c_129 (by rw [hB.2.2.1]; exact ⟨Nat.le_of_ble_eq_true rfl, Nat.le_of_ble_eq_true rfl⟩) rfl (tm_rec1 hC ha rfl) rfl (by decide) dJx4a65c_add_72be8_7 (fun v_7 w_7 hp_7 => ?_)
    obtain ⟨q, cap', g, hq, hw, hc, hg, rfl⟩ := hp_7
    have hqa : q ≠ a := fun z => by subst z; rw [hq] at ha; cases ha
    have hv2 : tm_el w_7 v0 := by rw [← hw]; exact tm_el_put (tm_el_up hv hq) ((tm_up_n (Ne.symm hqa)).trans ha)
    have ha2 : w_7 a = some (.inr (0, [.int mc, .ref q, .int (I n)])) := by rw [← hw]; exact tm_up_s
    have hq2 : w_7 q = some (tm_ao (tm_T x) cap' g) := by rw [← hw, tm_up_n hqa]; exact tm_up_s
    show tm_V x (tm_G x w_7) 0 0 10 [(0, .ref (a)), (1, .ref (v0)), (2, .ref (d)), (3, .int (I ((n : Int))))] [.ref (q)]
    refine tm_astore_n [(2, .ref (q)), (0, .ref (a)), (1, .ref (v0)), (3, .int (I ((n : Int))))] hC dJx4a65c_add_72be8_10 rfl (by rw [hB.2.1]; exact Nat.le_of_ble_eq_true rfl) rfl ?_
    refine tm_aload_n 0 hC dJx4a65c_add_72be8_11 rfl rfl ?_
    refine tm_iload_n 3 hC dJx4a65c_add_72be8_12 rfl rfl ?_
    refine tm_aload_n 2 hC dJx4a65c_add_72be8_13 rfl rfl ?_
    refine tm_aast1 hC hq2 (by omega) (hv2) dJx4a65c_add_72be8_14 ?_
    obtain ⟨w1, hw2⟩ : ∃ z, z = tm_up w_7 q (tm_ao (tm_T x) cap' (va_up g ((n : Int) : Int).toNat (some v0))) := ⟨_, rfl⟩
    show tm_V x (tm_G x (tm_up w_7 q (tm_ao (tm_T x) cap' (va_up g ((n : Int) : Int).toNat (some v0))))) 0 0 15 [(2, .ref (q)), (0, .ref (a)), (1, .ref (v0)), (3, .int (I ((n : Int))))] []
    rw [← hw2]
    have hw1_q : w1 q = some (tm_ao (tm_T x) cap' (va_up g ((n : Int) : Int).toNat (some v0))) := by rw [hw2]; first | done | exact tm_up_s
    have hw1_a := (show w1 a = _ by rw [hw2]; exact tm_up_n (fun z => absurd (hq2.symm.trans (z ▸ ha2)) (by intro q; cases q))).trans ha2
    refine tm_aload_n 1 hC dJx4a65c_add_72be8_15 rfl rfl ?_
    refine tm_iload_n 3 hC dJx4a65c_add_72be8_16 rfl rfl ?_
    refine tm_iconst hC dJx4a65c_add_72be8_17 ?_
    refine tm_iadd hC dJx4a65c_add_72be8_18 ?_
    refine tm_putf1 hC f_Jx4a65c_48 hw1_a (tt_0_2 _) (Nat.le_of_ble_eq_true rfl) dJx4a65c_add_72be8_19 ?_
    obtain ⟨w3, hw4⟩ : ∃ z, z = tm_up w1 a (.inr (0, [.int (mc), .ref (q), .int (I ((n : Int) + 1))])) := ⟨_, rfl⟩
    show tm_V x (tm_G x (tm_up w1 a (.inr (0, [.int (mc), .ref (q), .int (I ((n : Int) + 1))])))) 0 0 22 [(2, .ref (q)), (0, .ref (a)), (1, .ref (v0)), (3, .int (I ((n : Int))))] []
    rw [← hw4]
    have hw3_a : w3 a = some (.inr (0, [.int (mc), .ref (q), .int (I ((n : Int) + 1))])) := by rw [hw4]; first | done | exact tm_up_s
    have hw3_q := (show w3 q = _ by rw [hw4]; exact tm_up_n (fun z => absurd (hw1_a.symm.trans (z ▸ hw1_q)) (by intro q; cases q))).trans hw1_q
    exact tm_vret hC hR dJx4a65c_add_72be8_22 (⟨rfl, q, cap', va_up g ((n : Int)).toNat (some v0), Or.inl hq, fun b hb1 hb2 => by rw [hw4, tm_up_n hb1, hw2, tm_up_n hb2, ← hw, tm_up_n hb1, tm_up_n hb2], by rw [hw4]; exact tm_up_s, (by rw [hw4, tm_up_n (hqa), hw2]; exact tm_up_s), by omega, if_pos rfl, fun i hi => (if_neg (by omega)).trans (hg i hi)⟩)

set_option maxHeartbeats 4000000 in
set_option maxRecDepth 100000 in
theorem c_add3C (γ : tmG) (hst : γ.1.stackTraces = false) (Ω : tmO) (a d n v0 : Nat) (mc : Int32) (f : Nat → Option Nat) (ha : Ω a = some (.inr (0, [.int mc, .ref d, .int (I n)]))) (hv : tm_el Ω v0) (cap : Nat) (hd : Ω d = some (tm_ao γ.2.2.1 cap f)) (hn : n < cap ∧ cap ≤ 400 ∧ 10 ≤ cap) : tm_Con γ (tm_hol γ.2.1) M_Jx4a65c_add_72be8 6 1 400 [.ref (a), .ref (v0), .ref (d), .int (I ((n : Int)))] Ω (fun v w' => v = none ∧ ∃ (d' cap' : Nat) (g : Nat → Option Nat), (Ω d' = none ∨ (d' = d ∧ Ω d ≠ none)) ∧ (∀ b, b ≠ a → b ≠ d' → w' b = Ω b) ∧ w' a = some (.inr (0, [.int mc, .ref d', .int (I ((n : Int) + 1))])) ∧ w' d' = some (tm_ao γ.2.2.1 cap' g) ∧ (n + 1 ≤ cap' ∧ cap' ≤ 400 ∧ 10 ≤ cap') ∧ g n = some v0 ∧ ∀ i : Nat, i < n → g i = f i) := by
  refine tm_con hst (by decide) (Nat.le_of_ble_eq_true rfl) (fun x hB hR => ?_)
  have hg := hB.1
  subst hg
  have hC : tm_C x cJx4a65c_add_72be8 RJx4a65c (none) := hB.2.2.2.1
  show tm_V x (tm_G x Ω) 1 400 0 [(0, .ref (a)), (1, .ref (v0)), (2, .ref (d)), (3, .int (I ((n : Int))))] []
  refine tm_iload_n 3 hC dJx4a65c_add_72be8_0 rfl rfl ?_
  refine tm_aload_n 2 hC dJx4a65c_add_72be8_1 rfl rfl ?_
  refine tm_alen1 (t0 := 3) (ty := .object "java/lang/Object") hC hd rfl dJx4a65c_add_72be8_2 ?_
  refine tm_icmp_ne 11 hC dJx4a65c_add_72be8_3 (by decide) (by omega) (fun c_3 => ?_) (fun c_3 => ?_)
  · refine tm_aload_n 2 hC dJx4a65c_add_72be8_11 rfl rfl ?_
    refine tm_iload_n 3 hC dJx4a65c_add_72be8_12 rfl rfl ?_
    refine tm_aload_n 1 hC dJx4a65c_add_72be8_13 rfl rfl ?_
    refine tm_aast1 hC hd (by omega) (hv) dJx4a65c_add_72be8_14 ?_
    obtain ⟨w1, hw2⟩ : ∃ z, z = tm_up Ω d (tm_ao (tm_T x) cap (va_up f ((n : Int) : Int).toNat (some v0))) := ⟨_, rfl⟩
    show tm_V x (tm_G x (tm_up Ω d (tm_ao (tm_T x) cap (va_up f ((n : Int) : Int).toNat (some v0))))) 1 400 15 [(0, .ref (a)), (1, .ref (v0)), (2, .ref (d)), (3, .int (I ((n : Int))))] []
    rw [← hw2]
    have hw1_d : w1 d = some (tm_ao (tm_T x) cap (va_up f ((n : Int) : Int).toNat (some v0))) := by rw [hw2]; first | done | exact tm_up_s
    have hw1_a := (show w1 a = _ by rw [hw2]; exact tm_up_n (fun z => absurd (hd.symm.trans (z ▸ ha)) (by intro q; cases q))).trans ha
    refine tm_aload_n 0 hC dJx4a65c_add_72be8_15 rfl rfl ?_
    refine tm_iload_n 3 hC dJx4a65c_add_72be8_16 rfl rfl ?_
    refine tm_iconst hC dJx4a65c_add_72be8_17 ?_
    refine tm_iadd hC dJx4a65c_add_72be8_18 ?_
    refine tm_putf1 hC f_Jx4a65c_48 hw1_a (tt_0_2 _) (Nat.le_of_ble_eq_true rfl) dJx4a65c_add_72be8_19 ?_
    obtain ⟨w3, hw4⟩ : ∃ z, z = tm_up w1 a (.inr (0, [.int (mc), .ref (d), .int (I ((n : Int) + 1))])) := ⟨_, rfl⟩
    show tm_V x (tm_G x (tm_up w1 a (.inr (0, [.int (mc), .ref (d), .int (I ((n : Int) + 1))])))) 1 400 22 [(0, .ref (a)), (1, .ref (v0)), (2, .ref (d)), (3, .int (I ((n : Int))))] []
    rw [← hw4]
    have hw3_a : w3 a = some (.inr (0, [.int (mc), .ref (d), .int (I ((n : Int) + 1))])) := by rw [hw4]; first | done | exact tm_up_s
    have hw3_d := (show w3 d = _ by rw [hw4]; exact tm_up_n (fun z => absurd (hw1_a.symm.trans (z ▸ hw1_d)) (by intro q; cases q))).trans hw1_d
    exact tm_vret hC hR dJx4a65c_add_72be8_22 (⟨rfl, d, cap, va_up f ((n : Int)).toNat (some v0), Or.inr ⟨rfl, by rw [hd]; exact fun z => by cases z⟩, fun b hb1 hb2 => by rw [hw4, tm_up_n hb1, hw2, tm_up_n hb2], by rw [hw4]; exact tm_up_s, (by rw [hw4, tm_up_n (fun z => absurd (z ▸ hd) (by rw [ha]; intro q; cases q)), hw2]; exact tm_up_s), by omega, if_pos rfl, fun i hi => (if_neg (by omega)).trans (rfl)⟩)
  · exact ((by omega) : False).elim

theorem c_add3 (γ : tmG) (hst : γ.1.stackTraces = false) (Ω : tmO) (a d n v0 : Nat) (mc : Int32) (f : Nat → Option Nat) (ha : Ω a = some (.inr (0, [.int mc, .ref d, .int (I n)]))) (hv : tm_el Ω v0) (h : ((d = γ.2.2.2.1 ∧ n = 0) ∨ (∃ cap, Ω d = some (tm_ao γ.2.2.1 cap f) ∧ n ≤ cap ∧ cap ≤ 400 ∧ 10 ≤ cap ∧ n ≤ 250 ∧ ∀ i : Nat, i < n → ∀ y : Nat, f i = some y → tm_el Ω y))) : tm_Con γ (tm_hol γ.2.1) M_Jx4a65c_add_72be8 6 1 400 [.ref a, .ref v0, .ref d, .int (I (n : Int))] Ω (fun v w' => v = none ∧ ∃ (d' cap' : Nat) (g : Nat → Option Nat), (Ω d' = none ∨ (d' = d ∧ Ω d ≠ none)) ∧ (∀ b, b ≠ a → b ≠ d' → w' b = Ω b) ∧ w' a = some (.inr (0, [.int mc, .ref d', .int (I ((n : Int) + 1))])) ∧ w' d' = some (tm_ao γ.2.2.1 cap' g) ∧ (n + 1 ≤ cap' ∧ cap' ≤ 400 ∧ 10 ≤ cap') ∧ g n = some v0 ∧ ∀ i : Nat, i < n → g i = f i) := by
  rcases h with ⟨h1, h2⟩ | ⟨cap, h1, h2, h3, h4, h5, h6⟩
  · subst h1; exact c_add3A γ hst Ω a γ.2.2.2.1 n v0 mc f ha hv h2
  · by_cases hc : n = cap
    · subst hc; exact c_add3B γ hst Ω a d n v0 mc f ha hv h1 ⟨h4, h5⟩ h6
    · exact c_add3C γ hst Ω a d n v0 mc f ha hv cap h1 (by omega)

set_option maxHeartbeats 4000000 in
set_option maxRecDepth 100000 in
theorem c_init1 (γ : tmG) (hst : γ.1.stackTraces = false) (Ω : tmO) (a : Nat) (mc : Int32) (ha : Ω a = some (.inr (0, [.int mc, .null, .int (I 0)]))) : tm_Con γ (tm_hol γ.2.1) M_Jx4a65c_init_da8c8 3 0 0 [.ref (a)] Ω (fun v w' => tm_up Ω a (.inr (0, [.int (I 0), .ref γ.2.2.2.1, .int (I 0)])) = w' ∧ v = none) := by
  refine tm_con hst (by decide) (Nat.le_of_ble_eq_true rfl) (fun x hB hR => ?_)
  have hg := hB.1
  subst hg
  have hC : tm_C x cJx4a65c_init_da8c8 RJx4a65c (none) := hB.2.2.2.1
  show tm_V x (tm_G x Ω) 0 0 0 [(0, .ref (a))] []
  refine tm_aload_n 0 hC dJx4a65c_init_da8c8_0 rfl rfl ?_
  refine tm_callI (b := 0) (n := 0) (rest := []) hC (c_Jxc12de_init (tm_g x) hst Ω a mc ha) k_Jx4a65c_1 (by rw [hB.2.2.1]; exact ⟨Nat.le_of_ble_eq_true rfl, Nat.le_of_ble_eq_true rfl⟩) rfl rfl (by decide) dJx4a65c_init_da8c8_1 (fun v_1 w_1 hp_1 => ?_)
  obtain ⟨hw, rfl⟩ := hp_1
  have ha2 : w_1 a = some (.inr (0, [.int (I 0), .null, .int (I 0)])) := by rw [← hw]; exact tm_up_s
  show tm_V x (tm_G x w_1) 0 0 4 [(0, .ref (a))] []
  refine tm_aload_n 0 hC dJx4a65c_init_da8c8_4 rfl rfl ?_
  refine tm_gets hC w_Jx4a65c_39 dJx4a65c_init_da8c8_5 ?_
  refine tm_putf1 hC f_Jx4a65c_9 ha2 (tt_0_1 _) (Nat.le_of_ble_eq_true rfl) dJx4a65c_init_da8c8_8 ?_
  obtain ⟨w1, hw2⟩ : ∃ z, z = tm_up w_1 a (.inr (0, [.int (I (0)), .ref (tm_e0 x), .int (I (0))])) := ⟨_, rfl⟩
  show tm_V x (tm_G x (tm_up w_1 a (.inr (0, [.int (I (0)), .ref (tm_e0 x), .int (I (0))])))) 0 0 11 [(0, .ref (a))] []
  rw [← hw2]
  have hw1_a : w1 a = some (.inr (0, [.int (I (0)), .ref (tm_e0 x), .int (I (0))])) := by rw [hw2]; first | done | exact tm_up_s
  exact tm_vret hC hR dJx4a65c_init_da8c8_11 (⟨by rw [hw2, ← hw]; exact tm_up_up.symm, rfl⟩)

set_option maxHeartbeats 4000000 in
set_option maxRecDepth 100000 in
theorem c_add1 (γ : tmG) (hst : γ.1.stackTraces = false) (Ω : tmO) (a d n v0 : Nat) (m0 : Int) (f : Nat → Option Nat) (ha : Ω a = some (.inr (0, [.int (I m0), .ref d, .int (I n)]))) (hv : tm_el Ω v0) (h : ((d = γ.2.2.2.1 ∧ n = 0) ∨ (∃ cap, Ω d = some (tm_ao γ.2.2.1 cap f) ∧ n ≤ cap ∧ cap ≤ 400 ∧ 10 ≤ cap ∧ n ≤ 250 ∧ ∀ i : Nat, i < n → ∀ y : Nat, f i = some y → tm_el Ω y))) : tm_Con γ (tm_hol γ.2.1) M_Jx4a65c_add_9ea2d 7 1 400 [.ref (a), .ref (v0)] Ω (fun v w' => v = some (.int (I 1)) ∧ ∃ (d' cap' : Nat) (g : Nat → Option Nat), (Ω d' = none ∨ (d' = d ∧ Ω d ≠ none)) ∧ (∀ b, b ≠ a → b ≠ d' → w' b = Ω b) ∧ w' a = some (.inr (0, [.int (I (m0 + 1)), .ref d', .int (I ((n : Int) + 1))])) ∧ w' d' = some (tm_ao γ.2.2.1 cap' g) ∧ (n + 1 ≤ cap' ∧ cap' ≤ 400 ∧ 10 ≤ cap') ∧ g n = some v0 ∧ ∀ i : Nat, i < n → g i = f i) := by
  refine tm_con hst (by decide) (Nat.le_of_ble_eq_true rfl) (fun x hB hR => ?_)
  have hg := hB.1
  subst hg
  have hC : tm_C x cJx4a65c_add_9ea2d RJx4a65c (some FieldType.boolean) := hB.2.2.2.1
  show tm_V x (tm_G x Ω) 1 400 0 [(0, .ref (a)), (1, .ref (v0))] []
  refine tm_aload_n 0 hC dJx4a65c_add_9ea2d_0 rfl rfl ?_
  refine tm_dup hC dJx4a65c_add_9ea2d_1 rfl ?_
  refine tm_getf1 hC f_Jx4a65c_63 ha rfl dJx4a65c_add_9ea2d_2 ?_
  refine tm_iconst hC dJx4a65c_add_9ea2d_5 ?_
  refine tm_iadd hC dJx4a65c_add_9ea2d_6 ?_
  refine tm_putf1 hC f_Jx4a65c_63 ha (tt_0_0 _) (Nat.le_of_ble_eq_true rfl) dJx4a65c_add_9ea2d_7 ?_
  obtain ⟨w1, hw2⟩ : ∃ z, z = tm_up Ω a (.inr (0, [.int (I (m0 + 1)), .ref (d), .int (I ((n : Int)))])) := ⟨_, rfl⟩
  show tm_V x (tm_G x (tm_up Ω a (.inr (0, [.int (I (m0 + 1)), .ref (d), .int (I ((n : Int)))])))) 1 400 10 [(0, .ref (a)), (1, .ref (v0))] []
  rw [← hw2]
  have hw1_a : w1 a = some (.inr (0, [.int (I (m0 + 1)), .ref (d), .int (I ((n : Int)))])) := by rw [hw2]; first | done | exact tm_up_s
  refine tm_aload_n 0 hC dJx4a65c_add_9ea2d_10 rfl rfl ?_
  refine tm_aload_n 1 hC dJx4a65c_add_9ea2d_11 rfl rfl ?_
  refine tm_aload_n 0 hC dJx4a65c_add_9ea2d_12 rfl rfl ?_
  refine tm_getf1 hC f_Jx4a65c_9 hw1_a rfl dJx4a65c_add_9ea2d_13 ?_
  refine tm_aload_n 0 hC dJx4a65c_add_9ea2d_16 rfl rfl ?_
  refine tm_getf1 hC f_Jx4a65c_48 hw1_a rfl dJx4a65c_add_9ea2d_17 ?_
  have hv2 : tm_el w1 v0 := by rw [hw2]; exact tm_el_put hv ha
  have h2 : (d = tm_e0 x ∧ n = 0) ∨ (∃ cap, w1 d = some (tm_ao (tm_T x) cap f) ∧ n ≤ cap ∧ cap ≤ 400 ∧ 10 ≤ cap ∧ n ≤ 250 ∧ ∀ i : Nat, i < n → ∀ y : Nat, f i = some y → tm_el w1 y) := by
    rcases h with h | ⟨cap, e1, e2, e3, e4, e5, e6⟩
    · exact Or.inl h
    · exact Or.inr ⟨cap, by rw [hw2, tm_up_n (fun z => absurd (z ▸ e1) (by rw [ha]; intro q; cases q))]; exact e1, e2, e3, e4, e5, fun i hi y hy => by rw [hw2]; exact tm_el_put (e6 i hi y hy) ha⟩
  refine tm_less (b' := 1 + 0) (n' := 400 + 0) ⟨by omega, by omega⟩ ?_
  refine tm_callV (b := 0) (n := 0) (rest := []) hC (c_add3 (tm_g x) hst w1 a d n v0 (I (m0 + 1)) f hw1_a hv2 h2) k_Jx4a65c_131 (by rw [hB.2.2.1]; exact ⟨Nat.le_of_ble_eq_true rfl, Nat.le_of_ble_eq_true rfl⟩) rfl (tm_rec1 hC hw1_a rfl) rfl (by decide) dJx4a65c_add_9ea2d_20 (fun v_20 w_20 hp_20 => ?_)
  obtain ⟨rfl, d', cap', g, hd, hk, hoa, hod, hc, hgn, hgi⟩ := hp_20
  show tm_V x (tm_G x w_20) 0 0 23 [(0, .ref (a)), (1, .ref (v0))] []
  refine tm_iconst hC dJx4a65c_add_9ea2d_23 ?_
  exact tm_zret hC hR dJx4a65c_add_9ea2d_24 (by omega) (⟨rfl, d', cap', g, (by
      rcases hd with hd | ⟨rfl, hd⟩
      · exact Or.inl (tm_up_none (by rw [← hw2]; exact hd))
      · exact Or.inr ⟨rfl, fun z => hd (by rw [hw2, tm_up_n (fun e => by rw [e, ha] at z; cases z)]; exact z)⟩), fun b h1 h2 => (hk b h1 h2).trans (by rw [hw2]; exact tm_up_n h1), hoa, hod, hc, hgn, hgi⟩)

set_option maxHeartbeats 4000000 in
set_option maxRecDepth 100000 in
theorem c_rca (γ : tmG) (hst : γ.1.stackTraces = false) (Ω : tmO) (a d n : Nat) (mc : Int32) (ha : Ω a = some (.inr (0, [.int mc, .ref d, .int (I n)]))) (i : Nat) (hi : i ≤ n ∧ n ≤ 100000) : tm_Con γ (tm_hol γ.2.1) M_Jx4a65c_rangeCheckForAdd_d00df 1 0 0 [.ref (a), .int (I ((i : Int)))] Ω (fun v w' => Ω = w' ∧ v = none) := by
  refine tm_con hst (by decide) (Nat.le_of_ble_eq_true rfl) (fun x hB hR => ?_)
  have hg := hB.1
  subst hg
  have hC : tm_C x cJx4a65c_rangeCheckForAdd_d00df RJx4a65c (none) := hB.2.2.2.1
  show tm_V x (tm_G x Ω) 0 0 0 [(0, .ref (a)), (1, .int (I ((i : Int))))] []
  refine tm_iload_n 1 hC dJx4a65c_rangeCheckForAdd_d00df_0 rfl rfl ?_
  refine tm_aload_n 0 hC dJx4a65c_rangeCheckForAdd_d00df_1 rfl rfl ?_
  refine tm_getf1 hC f_Jx4a65c_48 ha rfl dJx4a65c_rangeCheckForAdd_d00df_2 ?_
  refine tm_icmp_gt 12 hC dJx4a65c_rangeCheckForAdd_d00df_5 (by decide) (by omega) (fun c_5 => ?_) (fun c_5 => ?_)
  · exact ((by omega) : False).elim
  · refine tm_iload_n 1 hC dJx4a65c_rangeCheckForAdd_d00df_8 rfl rfl ?_
    refine tm_if_ge 25 hC dJx4a65c_rangeCheckForAdd_d00df_9 (by decide) (by omega) (fun c_9 => ?_) (fun c_9 => ?_)
    · exact tm_vret hC hR dJx4a65c_rangeCheckForAdd_d00df_25 (⟨rfl, rfl⟩)
    · exact ((by omega) : False).elim

set_option maxHeartbeats 4000000 in
set_option maxRecDepth 100000 in
theorem c_eld (γ : tmG) (hst : γ.1.stackTraces = false) (Ω : tmO) (a d n : Nat) (mc : Int32) (ha : Ω a = some (.inr (0, [.int mc, .ref d, .int (I n)]))) (cap i v0 : Nat) (f : Nat → Option Nat) (hd : Ω d = some (tm_ao γ.2.2.1 cap f)) (hi : i < cap ∧ cap ≤ 400) (hf : f i = some v0) : tm_Con γ (tm_hol γ.2.1) M_Jx4a65c_elementData_915e3 1 0 0 [.ref (a), .int (I ((i : Int)))] Ω (fun v w' => Ω = w' ∧ v = some (.ref v0)) := by
  refine tm_con hst (by decide) (Nat.le_of_ble_eq_true rfl) (fun x hB hR => ?_)
  have hg := hB.1
  subst hg
  have hC : tm_C x cJx4a65c_elementData_915e3 RJx4a65c (some (FieldType.object "java/lang/Object")) := hB.2.2.2.1
  show tm_V x (tm_G x Ω) 0 0 0 [(0, .ref (a)), (1, .int (I ((i : Int))))] []
  refine tm_aload_n 0 hC dJx4a65c_elementData_915e3_0 rfl rfl ?_
  refine tm_getf1 hC f_Jx4a65c_9 ha rfl dJx4a65c_elementData_915e3_1 ?_
  refine tm_iload_n 1 hC dJx4a65c_elementData_915e3_4 rfl rfl ?_
  refine tm_aald1 hC hd (by omega) (hf) dJx4a65c_elementData_915e3_5 ?_
  exact tm_aret hC hR (Or.inl ⟨_, rfl⟩) dJx4a65c_elementData_915e3_6 (⟨rfl, rfl⟩)

set_option maxHeartbeats 4000000 in
set_option maxRecDepth 100000 in
theorem c_get1 (γ : tmG) (hst : γ.1.stackTraces = false) (Ω : tmO) (a d n : Nat) (mc : Int32) (ha : Ω a = some (.inr (0, [.int mc, .ref d, .int (I n)]))) (cap i v0 : Nat) (f : Nat → Option Nat) (hd : Ω d = some (tm_ao γ.2.2.1 cap f)) (hi : i < n ∧ n ≤ cap ∧ cap ≤ 400) (hf : f i = some v0) : tm_Con γ (tm_hol γ.2.1) M_Jx4a65c_get_915e3 3 0 0 [.ref (a), .int (I ((i : Int)))] Ω (fun v w' => Ω = w' ∧ v = some (.ref v0)) := by
  refine tm_con hst (by decide) (Nat.le_of_ble_eq_true rfl) (fun x hB hR => ?_)
  have hg := hB.1
  subst hg
  have hC : tm_C x cJx4a65c_get_915e3 RJx4a65c (some (FieldType.object "java/lang/Object")) := hB.2.2.2.1
  show tm_V x (tm_G x Ω) 0 0 0 [(0, .ref (a)), (1, .int (I ((i : Int))))] []
  refine tm_iload_n 1 hC dJx4a65c_get_915e3_0 rfl rfl ?_
  refine tm_aload_n 0 hC dJx4a65c_get_915e3_1 rfl rfl ?_
  refine tm_getf1 hC f_Jx4a65c_48 ha rfl dJx4a65c_get_915e3_2 ?_
  refine tm_callS (b := 0) (n := 0) (rest := []) hC (c_J15_checkIndex (tm_g x) hst (tm_hol (tm_D x)) _ (i : Int) (n : Int) (by omega)) k_Jx4a65c_118 (by rw [hB.2.2.1]; exact ⟨Nat.le_of_ble_eq_true rfl, Nat.le_of_ble_eq_true rfl⟩) rfl rfl (by decide) dJx4a65c_get_915e3_5 (fun v_5 w_5 hp_5 => ?_)
  obtain ⟨rfl, rfl⟩ := hp_5
  show tm_V x (tm_G x Ω) 0 0 8 [(0, .ref (a)), (1, .int (I ((i : Int))))] [.int (I ((i : Int)))]
  refine tm_pop hC dJx4a65c_get_915e3_8 rfl ?_
  refine tm_aload_n 0 hC dJx4a65c_get_915e3_9 rfl rfl ?_
  refine tm_iload_n 1 hC dJx4a65c_get_915e3_10 rfl rfl ?_
  refine tm_callV (b := 0) (n := 0) (rest := []) hC (c_eld (tm_g x) hst Ω a d n mc ha cap i v0 f hd (by omega) hf) k_Jx4a65c_123 (by rw [hB.2.2.1]; exact ⟨Nat.le_of_ble_eq_true rfl, Nat.le_of_ble_eq_true rfl⟩) rfl (tm_rec1 hC ha rfl) rfl (by decide) dJx4a65c_get_915e3_11 (fun v_11 w_11 hp_11 => ?_)
  obtain ⟨rfl, rfl⟩ := hp_11
  show tm_V x (tm_G x Ω) 0 0 14 [(0, .ref (a)), (1, .int (I ((i : Int))))] [.ref (v0)]
  exact tm_aret hC hR (Or.inl ⟨_, rfl⟩) dJx4a65c_get_915e3_14 (⟨rfl, rfl⟩)

set_option maxHeartbeats 4000000 in
set_option maxRecDepth 100000 in
theorem c_size1 (γ : tmG) (hst : γ.1.stackTraces = false) (Ω : tmO) (a d n : Nat) (mc : Int32) (ha : Ω a = some (.inr (0, [.int mc, .ref d, .int (I n)]))) : tm_Con γ (tm_hol γ.2.1) M_Jx4a65c_size_8abf5 1 0 0 [.ref (a)] Ω (fun v w' => Ω = w' ∧ v = some (.int (I (n : Int)))) := by
  refine tm_con hst (by decide) (Nat.le_of_ble_eq_true rfl) (fun x hB hR => ?_)
  have hg := hB.1
  subst hg
  have hC : tm_C x cJx4a65c_size_8abf5 RJx4a65c (some FieldType.int) := hB.2.2.2.1
  show tm_V x (tm_G x Ω) 0 0 0 [(0, .ref (a))] []
  refine tm_aload_n 0 hC dJx4a65c_size_8abf5_0 rfl rfl ?_
  refine tm_getf1 hC f_Jx4a65c_48 ha rfl dJx4a65c_size_8abf5_1 ?_
  exact tm_iret hC hR dJx4a65c_size_8abf5_4 (⟨rfl, rfl⟩)

set_option maxHeartbeats 4000000 in
set_option maxRecDepth 100000 in
theorem c_isE1 (γ : tmG) (hst : γ.1.stackTraces = false) (Ω : tmO) (a d n : Nat) (mc : Int32) (ha : Ω a = some (.inr (0, [.int mc, .ref d, .int (I n)]))) (hn : n ≤ 100000) : tm_Con γ (tm_hol γ.2.1) M_Jx4a65c_isEmpty_aae02 1 0 0 [.ref (a)] Ω (fun v w' => Ω = w' ∧ v = some (.int (I (bi (n = 0))))) := by
  refine tm_con hst (by decide) (Nat.le_of_ble_eq_true rfl) (fun x hB hR => ?_)
  have hg := hB.1
  subst hg
  have hC : tm_C x cJx4a65c_isEmpty_aae02 RJx4a65c (some FieldType.boolean) := hB.2.2.2.1
  show tm_V x (tm_G x Ω) 0 0 0 [(0, .ref (a))] []
  refine tm_aload_n 0 hC dJx4a65c_isEmpty_aae02_0 rfl rfl ?_
  refine tm_getf1 hC f_Jx4a65c_48 ha rfl dJx4a65c_isEmpty_aae02_1 ?_
  refine tm_if_ne 11 hC dJx4a65c_isEmpty_aae02_4 (by decide) (by omega) (fun c_4 => ?_) (fun c_4 => ?_)
  · refine tm_iconst hC dJx4a65c_isEmpty_aae02_11 ?_
    exact tm_zret hC hR dJx4a65c_isEmpty_aae02_12 (by omega) (⟨rfl, by rw [bi_f (by omega)]⟩)
  · refine tm_iconst hC dJx4a65c_isEmpty_aae02_7 ?_
    refine tm_goto 12 hC dJx4a65c_isEmpty_aae02_8 (by decide) ?_
    exact tm_zret hC hR dJx4a65c_isEmpty_aae02_12 (by omega) (⟨rfl, by rw [bi_t (by omega)]⟩)

set_option maxHeartbeats 4000000 in
set_option maxRecDepth 100000 in
theorem c_frem (γ : tmG) (hst : γ.1.stackTraces = false) (Ω : tmO) (a d n cap i : Nat) (m0 : Int) (f : Nat → Option Nat) (ha : Ω a = some (.inr (0, [.int (I m0), .ref d, .int (I n)]))) (hd : Ω d = some (tm_ao γ.2.2.1 cap f)) (hi : i < n ∧ n ≤ cap ∧ cap ≤ 400) (he : ∀ j : Nat, j < n → ∀ y : Nat, f j = some y → tm_el Ω y) : tm_Con γ (tm_hol γ.2.1) M_Jx4a65c_fastRemove_b59b0 1 0 0 [.ref (a), .ref (d), .int (I ((i : Int)))] Ω (fun v w' => v = none ∧ (∀ b, b ≠ a → b ≠ d → w' b = Ω b) ∧ ∃ g : Nat → Option Nat, w' a = some (.inr (0, [.int (I (m0 + 1)), .ref d, .int (I ((n : Int) - 1))])) ∧ w' d = some (tm_ao γ.2.2.1 cap g) ∧ (∀ j : Nat, j < i → g j = f j) ∧ ∀ j : Nat, i ≤ j → j < n - 1 → g j = f (j + 1)) := by
  refine tm_con hst (by decide) (Nat.le_of_ble_eq_true rfl) (fun x hB hR => ?_)
  have hg := hB.1
  subst hg
  have hC : tm_C x cJx4a65c_fastRemove_b59b0 RJx4a65c (none) := hB.2.2.2.1
  show tm_V x (tm_G x Ω) 0 0 0 [(0, .ref (a)), (1, .ref (d)), (2, .int (I ((i : Int))))] []
  refine tm_aload_n 0 hC dJx4a65c_fastRemove_b59b0_0 rfl rfl ?_
  refine tm_dup hC dJx4a65c_fastRemove_b59b0_1 rfl ?_
  refine tm_getf1 hC f_Jx4a65c_63 ha rfl dJx4a65c_fastRemove_b59b0_2 ?_
  refine tm_iconst hC dJx4a65c_fastRemove_b59b0_5 ?_
  refine tm_iadd hC dJx4a65c_fastRemove_b59b0_6 ?_
  refine tm_putf1 hC f_Jx4a65c_63 ha (tt_0_0 _) (Nat.le_of_ble_eq_true rfl) dJx4a65c_fastRemove_b59b0_7 ?_
  obtain ⟨w1, hw2⟩ : ∃ z, z = tm_up Ω a (.inr (0, [.int (I (m0 + 1)), .ref (d), .int (I ((n : Int)))])) := ⟨_, rfl⟩
  show tm_V x (tm_G x (tm_up Ω a (.inr (0, [.int (I (m0 + 1)), .ref (d), .int (I ((n : Int)))])))) 0 0 10 [(0, .ref (a)), (1, .ref (d)), (2, .int (I ((i : Int))))] []
  rw [← hw2]
  have hw1_a : w1 a = some (.inr (0, [.int (I (m0 + 1)), .ref (d), .int (I ((n : Int)))])) := by rw [hw2]; first | done | exact tm_up_s
  have hw1_d := (show w1 d = _ by rw [hw2]; exact tm_up_n (fun z => absurd (ha.symm.trans (z ▸ hd)) (by intro q; cases q))).trans hd
  refine tm_aload_n 0 hC dJx4a65c_fastRemove_b59b0_10 rfl rfl ?_
  refine tm_getf1 hC f_Jx4a65c_48 hw1_a rfl dJx4a65c_fastRemove_b59b0_11 ?_
  refine tm_iconst hC dJx4a65c_fastRemove_b59b0_14 ?_
  refine tm_isub hC dJx4a65c_fastRemove_b59b0_15 ?_
  refine tm_dup hC dJx4a65c_fastRemove_b59b0_16 rfl ?_
  refine tm_istore_n [(3, .int (I ((n : Int) - 1))), (0, .ref (a)), (1, .ref (d)), (2, .int (I ((i : Int))))] hC dJx4a65c_fastRemove_b59b0_17 rfl (by rw [hB.2.1]; exact Nat.le_of_ble_eq_true rfl) rfl ?_
  refine tm_iload_n 3 hC dJx4a65c_fastRemove_b59b0_18 rfl rfl ?_
  refine tm_icmp_le 34 hC dJx4a65c_fastRemove_b59b0_19 (by decide) (by omega) (fun c_19 => ?_) (fun c_19 => ?_)
  · refine tm_aload_n 2 hC dJx4a65c_fastRemove_b59b0_34 rfl rfl ?_
    refine tm_aload_n 1 hC dJx4a65c_fastRemove_b59b0_35 rfl rfl ?_
    refine tm_iload_n 0 hC dJx4a65c_fastRemove_b59b0_36 rfl rfl ?_
    refine tm_dup_x1 hC dJx4a65c_fastRemove_b59b0_37 rfl rfl ?_
    refine tm_putf1 hC f_Jx4a65c_48 hw1_a (tt_0_2 _) (Nat.le_of_ble_eq_true rfl) dJx4a65c_fastRemove_b59b0_38 ?_
    obtain ⟨w3, hw4⟩ : ∃ z, z = tm_up w1 a (.inr (0, [.int (I (m0 + 1)), .ref (d), .int (I ((n : Int) - 1))])) := ⟨_, rfl⟩
    show tm_V x (tm_G x (tm_up w1 a (.inr (0, [.int (I (m0 + 1)), .ref (d), .int (I ((n : Int) - 1))])))) 0 0 41 [(3, .int (I ((n : Int) - 1))), (0, .ref (a)), (1, .ref (d)), (2, .int (I ((i : Int))))] [.int (I ((n : Int) - 1)), .ref (d)]
    rw [← hw4]
    have hw3_a : w3 a = some (.inr (0, [.int (I (m0 + 1)), .ref (d), .int (I ((n : Int) - 1))])) := by rw [hw4]; first | done | exact tm_up_s
    have hw3_d := (show w3 d = _ by rw [hw4]; exact tm_up_n (fun z => absurd (hw1_a.symm.trans (z ▸ hw1_d)) (by intro q; cases q))).trans hw1_d
    refine tm_null hC dJx4a65c_fastRemove_b59b0_41 ?_
    refine tm_aastN1 hC hw3_d (by omega) dJx4a65c_fastRemove_b59b0_42 ?_
    obtain ⟨w5, hw6⟩ : ∃ z, z = tm_up w3 d (tm_ao (tm_T x) cap (va_up f ((n : Int) - 1 : Int).toNat none)) := ⟨_, rfl⟩
    show tm_V x (tm_G x (tm_up w3 d (tm_ao (tm_T x) cap (va_up f ((n : Int) - 1 : Int).toNat none)))) 0 0 43 [(3, .int (I ((n : Int) - 1))), (0, .ref (a)), (1, .ref (d)), (2, .int (I ((i : Int))))] []
    rw [← hw6]
    have hw5_d : w5 d = some (tm_ao (tm_T x) cap (va_up f ((n : Int) - 1 : Int).toNat none)) := by rw [hw6]; first | done | exact tm_up_s
    have hw5_a := (show w5 a = _ by rw [hw6]; exact tm_up_n (fun z => absurd (hw3_d.symm.trans (z ▸ hw3_a)) (by intro q; cases q))).trans hw3_a
    exact tm_vret hC hR dJx4a65c_fastRemove_b59b0_43 (⟨rfl, fun b hb1 hb2 => by rw [hw6, tm_up_n hb2, hw4, tm_up_n hb1, hw2, tm_up_n hb1], _, by rw [hw6, tm_up_n (fun z => absurd (z ▸ hd) (by rw [ha]; intro q; cases q)), hw4]; exact tm_up_s, by rw [hw6]; exact tm_up_s, fun j hj => if_neg (by omega), fun j h1 h2 => absurd h1 (by omega)⟩)
  · refine tm_aload_n 2 hC dJx4a65c_fastRemove_b59b0_22 rfl rfl ?_
    refine tm_iload_n 3 hC dJx4a65c_fastRemove_b59b0_23 rfl rfl ?_
    refine tm_iconst hC dJx4a65c_fastRemove_b59b0_24 ?_
    refine tm_iadd hC dJx4a65c_fastRemove_b59b0_25 ?_
    refine tm_aload_n 2 hC dJx4a65c_fastRemove_b59b0_26 rfl rfl ?_
    refine tm_iload_n 3 hC dJx4a65c_fastRemove_b59b0_27 rfl rfl ?_
    refine tm_iload_n 0 hC dJx4a65c_fastRemove_b59b0_28 rfl rfl ?_
    refine tm_iload_n 3 hC dJx4a65c_fastRemove_b59b0_29 rfl rfl ?_
    refine tm_isub hC dJx4a65c_fastRemove_b59b0_30 ?_
    refine tm_copy1 hC x_Jx4a65c_112 hw1_d hw1_d (by omega) (fun j hj y hy => by rw [hw2]; exact tm_el_put (he _ (by omega) y hy) ha) (by rw [hB.2.2.1]; exact ⟨Nat.le_of_ble_eq_true rfl, Nat.le_of_ble_eq_true rfl⟩) (by decide) dJx4a65c_fastRemove_b59b0_31 ?_
    obtain ⟨w7, hw8⟩ : ∃ z, z = tm_up w1 d (tm_ao (tm_T x) cap (va_cpy f f ((i : Int) + 1 : Int).toNat ((i : Int) : Int).toNat (((n : Int) - 1) - (i : Int) : Int).toNat)) := ⟨_, rfl⟩
    show tm_V x (tm_G x (tm_up w1 d (tm_ao (tm_T x) cap (va_cpy f f ((i : Int) + 1 : Int).toNat ((i : Int) : Int).toNat (((n : Int) - 1) - (i : Int) : Int).toNat)))) 0 0 34 [(3, .int (I ((n : Int) - 1))), (0, .ref (a)), (1, .ref (d)), (2, .int (I ((i : Int))))] []
    rw [← hw8]
    have hw7_d : w7 d = some (tm_ao (tm_T x) cap (va_cpy f f ((i : Int) + 1 : Int).toNat ((i : Int) : Int).toNat (((n : Int) - 1) - (i : Int) : Int).toNat)) := by rw [hw8]; first | done | exact tm_up_s
    have hw7_a := (show w7 a = _ by rw [hw8]; exact tm_up_n (fun z => absurd (hw1_d.symm.trans (z ▸ hw1_a)) (by intro q; cases q))).trans hw1_a
    refine tm_aload_n 2 hC dJx4a65c_fastRemove_b59b0_34 rfl rfl ?_
    refine tm_aload_n 1 hC dJx4a65c_fastRemove_b59b0_35 rfl rfl ?_
    refine tm_iload_n 0 hC dJx4a65c_fastRemove_b59b0_36 rfl rfl ?_
    refine tm_dup_x1 hC dJx4a65c_fastRemove_b59b0_37 rfl rfl ?_
    refine tm_putf1 hC f_Jx4a65c_48 hw7_a (tt_0_2 _) (Nat.le_of_ble_eq_true rfl) dJx4a65c_fastRemove_b59b0_38 ?_
    obtain ⟨w9, hw10⟩ : ∃ z, z = tm_up w7 a (.inr (0, [.int (I (m0 + 1)), .ref (d), .int (I ((n : Int) - 1))])) := ⟨_, rfl⟩
    show tm_V x (tm_G x (tm_up w7 a (.inr (0, [.int (I (m0 + 1)), .ref (d), .int (I ((n : Int) - 1))])))) 0 0 41 [(3, .int (I ((n : Int) - 1))), (0, .ref (a)), (1, .ref (d)), (2, .int (I ((i : Int))))] [.int (I ((n : Int) - 1)), .ref (d)]
    rw [← hw10]
    have hw9_a : w9 a = some (.inr (0, [.int (I (m0 + 1)), .ref (d), .int (I ((n : Int) - 1))])) := by rw [hw10]; first | done | exact tm_up_s
    have hw9_d := (show w9 d = _ by rw [hw10]; exact tm_up_n (fun z => absurd (hw7_a.symm.trans (z ▸ hw7_d)) (by intro q; cases q))).trans hw7_d
    refine tm_null hC dJx4a65c_fastRemove_b59b0_41 ?_
    refine tm_aastN1 hC hw9_d (by omega) dJx4a65c_fastRemove_b59b0_42 ?_
    obtain ⟨w11, hw12⟩ : ∃ z, z = tm_up w9 d (tm_ao (tm_T x) cap (va_up (va_cpy f f ((i : Int) + 1 : Int).toNat ((i : Int) : Int).toNat (((n : Int) - 1) - (i : Int) : Int).toNat) ((n : Int) - 1 : Int).toNat none)) := ⟨_, rfl⟩
    show tm_V x (tm_G x (tm_up w9 d (tm_ao (tm_T x) cap (va_up (va_cpy f f ((i : Int) + 1 : Int).toNat ((i : Int) : Int).toNat (((n : Int) - 1) - (i : Int) : Int).toNat) ((n : Int) - 1 : Int).toNat none)))) 0 0 43 [(3, .int (I ((n : Int) - 1))), (0, .ref (a)), (1, .ref (d)), (2, .int (I ((i : Int))))] []
    rw [← hw12]
    have hw11_d : w11 d = some (tm_ao (tm_T x) cap (va_up (va_cpy f f ((i : Int) + 1 : Int).toNat ((i : Int) : Int).toNat (((n : Int) - 1) - (i : Int) : Int).toNat) ((n : Int) - 1 : Int).toNat none)) := by rw [hw12]; first | done | exact tm_up_s
    have hw11_a := (show w11 a = _ by rw [hw12]; exact tm_up_n (fun z => absurd (hw9_d.symm.trans (z ▸ hw9_a)) (by intro q; cases q))).trans hw9_a
    exact tm_vret hC hR dJx4a65c_fastRemove_b59b0_43 (⟨rfl, fun b hb1 hb2 => by rw [hw12, tm_up_n hb2, hw10, tm_up_n hb1, hw8, tm_up_n hb2, hw2, tm_up_n hb1], _, by rw [hw12, tm_up_n (fun z => absurd (z ▸ hd) (by rw [ha]; intro q; cases q)), hw10]; exact tm_up_s, by rw [hw12]; exact tm_up_s, fun j hj => (if_neg (by omega)).trans ((pk_cpy_out (by omega)).trans rfl), fun j h1 h2 => (if_neg (by omega)).trans ((pk_cpy_in (by omega) (by omega)).trans (by congr 1; omega))⟩)

set_option maxHeartbeats 4000000 in
set_option maxRecDepth 100000 in
theorem c_rem1 (γ : tmG) (hst : γ.1.stackTraces = false) (Ω : tmO) (a d n cap i : Nat) (m0 : Int) (f : Nat → Option Nat) (ha : Ω a = some (.inr (0, [.int (I m0), .ref d, .int (I n)]))) (hd : Ω d = some (tm_ao γ.2.2.1 cap f)) (hi : i < n ∧ n ≤ cap ∧ cap ≤ 400) (he : ∀ j : Nat, j < n → ∀ y : Nat, f j = some y → tm_el Ω y) (v0 : Nat) (hf : f i = some v0) : tm_Con γ (tm_hol γ.2.1) M_Jx4a65c_remove_915e3 3 0 0 [.ref (a), .int (I ((i : Int)))] Ω (fun v w' => v = some (.ref v0) ∧ (∀ b, b ≠ a → b ≠ d → w' b = Ω b) ∧ ∃ g : Nat → Option Nat, w' a = some (.inr (0, [.int (I (m0 + 1)), .ref d, .int (I ((n : Int) - 1))])) ∧ w' d = some (tm_ao γ.2.2.1 cap g) ∧ (∀ j : Nat, j < i → g j = f j) ∧ ∀ j : Nat, i ≤ j → j < n - 1 → g j = f (j + 1)) := by
  refine tm_con hst (by decide) (Nat.le_of_ble_eq_true rfl) (fun x hB hR => ?_)
  have hg := hB.1
  subst hg
  have hC : tm_C x cJx4a65c_remove_915e3 RJx4a65c (some (FieldType.object "java/lang/Object")) := hB.2.2.2.1
  show tm_V x (tm_G x Ω) 0 0 0 [(0, .ref (a)), (1, .int (I ((i : Int))))] []
  refine tm_iload_n 1 hC dJx4a65c_remove_915e3_0 rfl rfl ?_
  refine tm_aload_n 0 hC dJx4a65c_remove_915e3_1 rfl rfl ?_
  refine tm_getf1 hC f_Jx4a65c_48 ha rfl dJx4a65c_remove_915e3_2 ?_
  refine tm_callS (b := 0) (n := 0) (rest := []) hC (c_J15_checkIndex (tm_g x) hst (tm_hol (tm_D x)) _ (i : Int) (n : Int) (by omega)) k_Jx4a65c_118 (by rw [hB.2.2.1]; exact ⟨Nat.le_of_ble_eq_true rfl, Nat.le_of_ble_eq_true rfl⟩) rfl rfl (by decide) dJx4a65c_remove_915e3_5 (fun v_5 w_5 hp_5 => ?_)
  obtain ⟨rfl, rfl⟩ := hp_5
  show tm_V x (tm_G x Ω) 0 0 8 [(0, .ref (a)), (1, .int (I ((i : Int))))] [.int (I ((i : Int)))]
  refine tm_pop hC dJx4a65c_remove_915e3_8 rfl ?_
  refine tm_aload_n 0 hC dJx4a65c_remove_915e3_9 rfl rfl ?_
  refine tm_getf1 hC f_Jx4a65c_9 ha rfl dJx4a65c_remove_915e3_10 ?_
  refine tm_astore_n [(2, .ref (d)), (0, .ref (a)), (1, .int (I ((i : Int))))] hC dJx4a65c_remove_915e3_13 rfl (by rw [hB.2.1]; exact Nat.le_of_ble_eq_true rfl) rfl ?_
  refine tm_aload_n 0 hC dJx4a65c_remove_915e3_14 rfl rfl ?_
  refine tm_iload_n 2 hC dJx4a65c_remove_915e3_15 rfl rfl ?_
  refine tm_aald1 hC hd (by omega) (hf) dJx4a65c_remove_915e3_16 ?_
  refine tm_astore_n [(3, .ref (v0)), (2, .ref (d)), (0, .ref (a)), (1, .int (I ((i : Int))))] hC dJx4a65c_remove_915e3_17 rfl (by rw [hB.2.1]; exact Nat.le_of_ble_eq_true rfl) rfl ?_
  refine tm_aload_n 2 hC dJx4a65c_remove_915e3_18 rfl rfl ?_
  refine tm_aload_n 1 hC dJx4a65c_remove_915e3_19 rfl rfl ?_
  refine tm_iload_n 3 hC dJx4a65c_remove_915e3_20 rfl rfl ?_
  refine tm_callV (b := 0) (n := 0) (rest := []) hC (c_frem (tm_g x) hst Ω a d n cap i m0 f ha hd hi he) k_Jx4a65c_144 (by rw [hB.2.2.1]; exact ⟨Nat.le_of_ble_eq_true rfl, Nat.le_of_ble_eq_true rfl⟩) rfl (tm_rec1 hC ha rfl) rfl (by decide) dJx4a65c_remove_915e3_21 (fun v_21 w_21 hp_21 => ?_)
  obtain ⟨rfl, hk, g, hoa, hod, hg1, hg2⟩ := hp_21
  show tm_V x (tm_G x w_21) 0 0 24 [(3, .ref (v0)), (2, .ref (d)), (0, .ref (a)), (1, .int (I ((i : Int))))] []
  refine tm_aload_n 0 hC dJx4a65c_remove_915e3_24 rfl rfl ?_
  exact tm_aret hC hR (Or.inl ⟨_, rfl⟩) dJx4a65c_remove_915e3_25 (⟨rfl, hk, g, hoa, hod, hg1, hg2⟩)

set_option maxHeartbeats 4000000 in
set_option maxRecDepth 100000 in
theorem c_addiA (γ : tmG) (hst : γ.1.stackTraces = false) (Ω : tmO) (a d n i v0 : Nat) (m0 : Int) (f : Nat → Option Nat) (ha : Ω a = some (.inr (0, [.int (I m0), .ref γ.2.2.2.1, .int (I n)]))) (hv : tm_el Ω v0) (hin : i ≤ n) (hn : n = 0) : tm_Con γ (tm_hol γ.2.1) M_Jx4a65c_add_7a177 6 1 400 [.ref (a), .int (I ((i : Int))), .ref (v0)] Ω (fun v w' => v = none ∧ ∃ (d' cap' : Nat) (g : Nat → Option Nat), (Ω d' = none ∨ (d' = γ.2.2.2.1 ∧ Ω γ.2.2.2.1 ≠ none)) ∧ (∀ b, b ≠ a → b ≠ d' → w' b = Ω b) ∧ w' a = some (.inr (0, [.int (I (m0 + 1)), .ref d', .int (I ((n : Int) + 1))])) ∧ w' d' = some (tm_ao γ.2.2.1 cap' g) ∧ (n + 1 ≤ cap' ∧ cap' ≤ 400 ∧ 10 ≤ cap') ∧ (∀ j : Nat, j < i → g j = f j) ∧ g i = some v0 ∧ ∀ j : Nat, i ≤ j → j < n → g (j + 1) = f j) := by
  refine tm_con hst (by decide) (Nat.le_of_ble_eq_true rfl) (fun x hB hR => ?_)
  have hg := hB.1
  subst hg
  have hC : tm_C x cJx4a65c_add_7a177 RJx4a65c (none) := hB.2.2.2.1
  show tm_V x (tm_G x Ω) 1 400 0 [(0, .ref (a)), (1, .int (I ((i : Int)))), (2, .ref (v0))] []
  refine tm_aload_n 0 hC dJx4a65c_add_7a177_0 rfl rfl ?_
  refine tm_iload_n 1 hC dJx4a65c_add_7a177_1 rfl rfl ?_
  refine tm_callV (b := 1) (n := 400) (rest := []) hC (c_rca (tm_g x) hst Ω a _ n _ ha i (by omega)) k_Jx4a65c_135 (by rw [hB.2.2.1]; exact ⟨Nat.le_of_ble_eq_true rfl, Nat.le_of_ble_eq_true rfl⟩) rfl (tm_rec1 hC ha rfl) rfl (by decide) dJx4a65c_add_7a177_2 (fun v_2 w_2 hp_2 => ?_)
  obtain ⟨rfl, rfl⟩ := hp_2
  show tm_V x (tm_G x Ω) 1 400 5 [(0, .ref (a)), (1, .int (I ((i : Int)))), (2, .ref (v0))] []
  refine tm_aload_n 0 hC dJx4a65c_add_7a177_5 rfl rfl ?_
  refine tm_dup hC dJx4a65c_add_7a177_6 rfl ?_
  refine tm_getf1 hC f_Jx4a65c_63 ha rfl dJx4a65c_add_7a177_7 ?_
  refine tm_iconst hC dJx4a65c_add_7a177_10 ?_
  refine tm_iadd hC dJx4a65c_add_7a177_11 ?_
  refine tm_putf1 hC f_Jx4a65c_63 ha (tt_0_0 _) (Nat.le_of_ble_eq_true rfl) dJx4a65c_add_7a177_12 ?_
  obtain ⟨w1, hw2⟩ : ∃ z, z = tm_up Ω a (.inr (0, [.int (I (m0 + 1)), .ref (tm_e0 x), .int (I ((n : Int)))])) := ⟨_, rfl⟩
  show tm_V x (tm_G x (tm_up Ω a (.inr (0, [.int (I (m0 + 1)), .ref (tm_e0 x), .int (I ((n : Int)))])))) 1 400 15 [(0, .ref (a)), (1, .int (I ((i : Int)))), (2, .ref (v0))] []
  rw [← hw2]
  have hw1_a : w1 a = some (.inr (0, [.int (I (m0 + 1)), .ref (tm_e0 x), .int (I ((n : Int)))])) := by rw [hw2]; first | done | exact tm_up_s
  refine tm_aload_n 0 hC dJx4a65c_add_7a177_15 rfl rfl ?_
  refine tm_getf1 hC f_Jx4a65c_48 hw1_a rfl dJx4a65c_add_7a177_16 ?_
  refine tm_dup hC dJx4a65c_add_7a177_19 rfl ?_
  refine tm_istore_n [(3, .int (I ((n : Int)))), (0, .ref (a)), (1, .int (I ((i : Int)))), (2, .ref (v0))] hC dJx4a65c_add_7a177_20 rfl (by rw [hB.2.1]; exact Nat.le_of_ble_eq_true rfl) rfl ?_
  refine tm_aload_n 1 hC dJx4a65c_add_7a177_21 rfl rfl ?_
  refine tm_getf1 hC f_Jx4a65c_9 hw1_a rfl dJx4a65c_add_7a177_22 ?_
  refine tm_dup hC dJx4a65c_add_7a177_25 rfl ?_
  refine tm_astore [(4, .ref (tm_e0 x)), (3, .int (I ((n : Int)))), (0, .ref (a)), (1, .int (I ((i : Int)))), (2, .ref (v0))] hC dJx4a65c_add_7a177_26 (by rw [hB.2.1]; exact Nat.le_of_ble_eq_true rfl) rfl ?_
  refine tm_alen0 hC dJx4a65c_add_7a177_28 ?_
  refine tm_icmp_ne 38 hC dJx4a65c_add_7a177_29 (by decide) (by omega) (fun c_29 => ?_) (fun c_29 => ?_)
  · exact ((by omega) : False).elim
  · refine tm_aload_n 2 hC dJx4a65c_add_7a177_32 rfl rfl ?_
    refine tm_less (b' := 1 + 0) (n' := 400 + 0) ⟨by omega, by omega⟩ ?_
    refine tm_callV (b := 0) (n := 0) (rest := []) hC (c_grow0 (tm_g x) hst w1 a (tm_e0 x) n (I (m0 + 1)) f hw1_a (Or.inl ⟨rfl, hn⟩)) k_Jx4a65c_129 (by rw [hB.2.2.1]; exact ⟨Nat.le_of_ble_eq_true rfl, Nat.le_of_ble_eq_true rfl⟩) rfl (tm_rec1 hC hw1_a rfl) rfl (by decide) dJx4a65c_add_7a177_33 (fun v_33 w_33 hp_33 => ?_)
    obtain ⟨q, cap', g, hq, hw, hc, hg, rfl⟩ := hp_33
    have hqa : q ≠ a := fun z => by subst z; rw [hw1_a] at hq; cases hq
    have hqn : Ω q = none := by rw [hw2, tm_up_n hqa] at hq; exact hq
    have hv2 : tm_el w_33 v0 := by rw [← hw]; exact tm_el_put (tm_el_up (by rw [hw2]; exact tm_el_put hv ha) hq) ((tm_up_n (Ne.symm hqa)).trans hw1_a)
    have ha2 : w_33 a = some (.inr (0, [.int (I (m0 + 1)), .ref q, .int (I n)])) := by rw [← hw]; exact tm_up_s
    have hq2 : w_33 q = some (tm_ao (tm_T x) cap' g) := by rw [← hw, tm_up_n hqa]; exact tm_up_s
    show tm_V x (tm_G x w_33) 0 0 36 [(4, .ref (tm_e0 x)), (3, .int (I ((n : Int)))), (0, .ref (a)), (1, .int (I ((i : Int)))), (2, .ref (v0))] [.ref (q)]
    refine tm_astore [(4, .ref (q)), (3, .int (I ((n : Int)))), (0, .ref (a)), (1, .int (I ((i : Int)))), (2, .ref (v0))] hC dJx4a65c_add_7a177_36 (by rw [hB.2.1]; exact Nat.le_of_ble_eq_true rfl) rfl ?_
    refine tm_aload 0 hC dJx4a65c_add_7a177_38 rfl ?_
    refine tm_iload_n 3 hC dJx4a65c_add_7a177_40 rfl rfl ?_
    refine tm_aload 0 hC dJx4a65c_add_7a177_41 rfl ?_
    refine tm_iload_n 3 hC dJx4a65c_add_7a177_43 rfl rfl ?_
    refine tm_iconst hC dJx4a65c_add_7a177_44 ?_
    refine tm_iadd hC dJx4a65c_add_7a177_45 ?_
    refine tm_iload_n 1 hC dJx4a65c_add_7a177_46 rfl rfl ?_
    refine tm_iload_n 3 hC dJx4a65c_add_7a177_47 rfl rfl ?_
    refine tm_isub hC dJx4a65c_add_7a177_48 ?_
    refine tm_copy1 hC x_Jx4a65c_112 hq2 hq2 (by omega) (fun j hj y hy => absurd hj (by omega)) (by rw [hB.2.2.1]; exact ⟨Nat.le_of_ble_eq_true rfl, Nat.le_of_ble_eq_true rfl⟩) (by decide) dJx4a65c_add_7a177_49 ?_
    obtain ⟨w3, hw4⟩ : ∃ z, z = tm_up w_33 q (tm_ao (tm_T x) cap' (va_cpy g g ((i : Int) : Int).toNat ((i : Int) + 1 : Int).toNat ((n : Int) - (i : Int) : Int).toNat)) := ⟨_, rfl⟩
    show tm_V x (tm_G x (tm_up w_33 q (tm_ao (tm_T x) cap' (va_cpy g g ((i : Int) : Int).toNat ((i : Int) + 1 : Int).toNat ((n : Int) - (i : Int) : Int).toNat)))) 0 0 52 [(4, .ref (q)), (3, .int (I ((n : Int)))), (0, .ref (a)), (1, .int (I ((i : Int)))), (2, .ref (v0))] []
    rw [← hw4]
    have hw3_q : w3 q = some (tm_ao (tm_T x) cap' (va_cpy g g ((i : Int) : Int).toNat ((i : Int) + 1 : Int).toNat ((n : Int) - (i : Int) : Int).toNat)) := by rw [hw4]; first | done | exact tm_up_s
    have hw3_a := (show w3 a = _ by rw [hw4]; exact tm_up_n (fun z => absurd (hq2.symm.trans (z ▸ ha2)) (by intro q; cases q))).trans ha2
    refine tm_aload 0 hC dJx4a65c_add_7a177_52 rfl ?_
    refine tm_iload_n 3 hC dJx4a65c_add_7a177_54 rfl rfl ?_
    refine tm_aload_n 4 hC dJx4a65c_add_7a177_55 rfl rfl ?_
    refine tm_aast1 hC hw3_q (by omega) (by rw [hw4]; exact tm_el_arr hv2 hq2) dJx4a65c_add_7a177_56 ?_
    obtain ⟨w5, hw6⟩ : ∃ z, z = tm_up w3 q (tm_ao (tm_T x) cap' (va_up (va_cpy g g ((i : Int) : Int).toNat ((i : Int) + 1 : Int).toNat ((n : Int) - (i : Int) : Int).toNat) ((i : Int) : Int).toNat (some v0))) := ⟨_, rfl⟩
    show tm_V x (tm_G x (tm_up w3 q (tm_ao (tm_T x) cap' (va_up (va_cpy g g ((i : Int) : Int).toNat ((i : Int) + 1 : Int).toNat ((n : Int) - (i : Int) : Int).toNat) ((i : Int) : Int).toNat (some v0))))) 0 0 57 [(4, .ref (q)), (3, .int (I ((n : Int)))), (0, .ref (a)), (1, .int (I ((i : Int)))), (2, .ref (v0))] []
    rw [← hw6]
    have hw5_q : w5 q = some (tm_ao (tm_T x) cap' (va_up (va_cpy g g ((i : Int) : Int).toNat ((i : Int) + 1 : Int).toNat ((n : Int) - (i : Int) : Int).toNat) ((i : Int) : Int).toNat (some v0))) := by rw [hw6]; first | done | exact tm_up_s
    have hw5_a := (show w5 a = _ by rw [hw6]; exact tm_up_n (fun z => absurd (hw3_q.symm.trans (z ▸ hw3_a)) (by intro q; cases q))).trans hw3_a
    refine tm_aload_n 2 hC dJx4a65c_add_7a177_57 rfl rfl ?_
    refine tm_iload_n 1 hC dJx4a65c_add_7a177_58 rfl rfl ?_
    refine tm_iconst hC dJx4a65c_add_7a177_59 ?_
    refine tm_iadd hC dJx4a65c_add_7a177_60 ?_
    refine tm_putf1 hC f_Jx4a65c_48 hw5_a (tt_0_2 _) (Nat.le_of_ble_eq_true rfl) dJx4a65c_add_7a177_61 ?_
    obtain ⟨w7, hw8⟩ : ∃ z, z = tm_up w5 a (.inr (0, [.int (I (m0 + 1)), .ref (q), .int (I ((n : Int) + 1))])) := ⟨_, rfl⟩
    show tm_V x (tm_G x (tm_up w5 a (.inr (0, [.int (I (m0 + 1)), .ref (q), .int (I ((n : Int) + 1))])))) 0 0 64 [(4, .ref (q)), (3, .int (I ((n : Int)))), (0, .ref (a)), (1, .int (I ((i : Int)))), (2, .ref (v0))] []
    rw [← hw8]
    have hw7_a : w7 a = some (.inr (0, [.int (I (m0 + 1)), .ref (q), .int (I ((n : Int) + 1))])) := by rw [hw8]; first | done | exact tm_up_s
    have hw7_q := (show w7 q = _ by rw [hw8]; exact tm_up_n (fun z => absurd (hw5_a.symm.trans (z ▸ hw5_q)) (by intro q; cases q))).trans hw5_q
    exact tm_vret hC hR dJx4a65c_add_7a177_64 (⟨rfl, q, cap', va_up (va_cpy g g ((i : Int)).toNat ((i : Int) + 1).toNat ((n : Int) - (i : Int)).toNat) ((i : Int)).toNat (some v0), Or.inl hqn, fun b hb1 hb2 => by rw [hw8, tm_up_n hb1, hw6, tm_up_n hb2, hw4, tm_up_n hb2, ← hw, tm_up_n hb1, tm_up_n hb2, hw2, tm_up_n hb1], by rw [hw8]; exact tm_up_s, (by rw [hw8, tm_up_n hqa, hw6]; exact tm_up_s), by omega, fun j hj => (if_neg (by omega)).trans ((pk_cpy_out (by omega)).trans (hg _ (by omega))), if_pos rfl, fun j h1 h2 => (if_neg (by omega)).trans ((pk_cpy_in (by omega) (by omega)).trans ((congrArg g (show _ = j by omega)).trans (hg _ (by omega))))⟩)

set_option maxHeartbeats 4000000 in
set_option maxRecDepth 100000 in
theorem c_addiB (γ : tmG) (hst : γ.1.stackTraces = false) (Ω : tmO) (a d n i v0 : Nat) (m0 : Int) (f : Nat → Option Nat) (ha : Ω a = some (.inr (0, [.int (I m0), .ref d, .int (I n)]))) (hv : tm_el Ω v0) (hin : i ≤ n) (hd : Ω d = some (tm_ao γ.2.2.1 n f)) (hn : 10 ≤ n ∧ n ≤ 250) (he : ∀ i : Nat, i < n → ∀ y : Nat, f i = some y → tm_el Ω y) : tm_Con γ (tm_hol γ.2.1) M_Jx4a65c_add_7a177 6 1 400 [.ref (a), .int (I ((i : Int))), .ref (v0)] Ω (fun v w' => v = none ∧ ∃ (d' cap' : Nat) (g : Nat → Option Nat), (Ω d' = none ∨ (d' = d ∧ Ω d ≠ none)) ∧ (∀ b, b ≠ a → b ≠ d' → w' b = Ω b) ∧ w' a = some (.inr (0, [.int (I (m0 + 1)), .ref d', .int (I ((n : Int) + 1))])) ∧ w' d' = some (tm_ao γ.2.2.1 cap' g) ∧ (n + 1 ≤ cap' ∧ cap' ≤ 400 ∧ 10 ≤ cap') ∧ (∀ j : Nat, j < i → g j = f j) ∧ g i = some v0 ∧ ∀ j : Nat, i ≤ j → j < n → g (j + 1) = f j) := by
  refine tm_con hst (by decide) (Nat.le_of_ble_eq_true rfl) (fun x hB hR => ?_)
  have hg := hB.1
  subst hg
  have hC : tm_C x cJx4a65c_add_7a177 RJx4a65c (none) := hB.2.2.2.1
  show tm_V x (tm_G x Ω) 1 400 0 [(0, .ref (a)), (1, .int (I ((i : Int)))), (2, .ref (v0))] []
  refine tm_aload_n 0 hC dJx4a65c_add_7a177_0 rfl rfl ?_
  refine tm_iload_n 1 hC dJx4a65c_add_7a177_1 rfl rfl ?_
  refine tm_callV (b := 1) (n := 400) (rest := []) hC (c_rca (tm_g x) hst Ω a _ n _ ha i (by omega)) k_Jx4a65c_135 (by rw [hB.2.2.1]; exact ⟨Nat.le_of_ble_eq_true rfl, Nat.le_of_ble_eq_true rfl⟩) rfl (tm_rec1 hC ha rfl) rfl (by decide) dJx4a65c_add_7a177_2 (fun v_2 w_2 hp_2 => ?_)
  obtain ⟨rfl, rfl⟩ := hp_2
  show tm_V x (tm_G x Ω) 1 400 5 [(0, .ref (a)), (1, .int (I ((i : Int)))), (2, .ref (v0))] []
  refine tm_aload_n 0 hC dJx4a65c_add_7a177_5 rfl rfl ?_
  refine tm_dup hC dJx4a65c_add_7a177_6 rfl ?_
  refine tm_getf1 hC f_Jx4a65c_63 ha rfl dJx4a65c_add_7a177_7 ?_
  refine tm_iconst hC dJx4a65c_add_7a177_10 ?_
  refine tm_iadd hC dJx4a65c_add_7a177_11 ?_
  refine tm_putf1 hC f_Jx4a65c_63 ha (tt_0_0 _) (Nat.le_of_ble_eq_true rfl) dJx4a65c_add_7a177_12 ?_
  obtain ⟨w1, hw2⟩ : ∃ z, z = tm_up Ω a (.inr (0, [.int (I (m0 + 1)), .ref (d), .int (I ((n : Int)))])) := ⟨_, rfl⟩
  show tm_V x (tm_G x (tm_up Ω a (.inr (0, [.int (I (m0 + 1)), .ref (d), .int (I ((n : Int)))])))) 1 400 15 [(0, .ref (a)), (1, .int (I ((i : Int)))), (2, .ref (v0))] []
  rw [← hw2]
  have hw1_a : w1 a = some (.inr (0, [.int (I (m0 + 1)), .ref (d), .int (I ((n : Int)))])) := by rw [hw2]; first | done | exact tm_up_s
  have hw1_d := (show w1 d = _ by rw [hw2]; exact tm_up_n (fun z => absurd (ha.symm.trans (z ▸ hd)) (by intro q; cases q))).trans hd
  refine tm_aload_n 0 hC dJx4a65c_add_7a177_15 rfl rfl ?_
  refine tm_getf1 hC f_Jx4a65c_48 hw1_a rfl dJx4a65c_add_7a177_16 ?_
  refine tm_dup hC dJx4a65c_add_7a177_19 rfl ?_
  refine tm_istore_n [(3, .int (I ((n : Int)))), (0, .ref (a)), (1, .int (I ((i : Int)))), (2, .ref (v0))] hC dJx4a65c_add_7a177_20 rfl (by rw [hB.2.1]; exact Nat.le_of_ble_eq_true rfl) rfl ?_
  refine tm_aload_n 1 hC dJx4a65c_add_7a177_21 rfl rfl ?_
  refine tm_getf1 hC f_Jx4a65c_9 hw1_a rfl dJx4a65c_add_7a177_22 ?_
  refine tm_dup hC dJx4a65c_add_7a177_25 rfl ?_
  refine tm_astore [(4, .ref (d)), (3, .int (I ((n : Int)))), (0, .ref (a)), (1, .int (I ((i : Int)))), (2, .ref (v0))] hC dJx4a65c_add_7a177_26 (by rw [hB.2.1]; exact Nat.le_of_ble_eq_true rfl) rfl ?_
  refine tm_alen1 (t0 := 3) (ty := .object "java/lang/Object") hC hw1_d rfl dJx4a65c_add_7a177_28 ?_
  refine tm_icmp_ne 38 hC dJx4a65c_add_7a177_29 (by decide) (by omega) (fun c_29 => ?_) (fun c_29 => ?_)
  · exact ((by omega) : False).elim
  · refine tm_aload_n 2 hC dJx4a65c_add_7a177_32 rfl rfl ?_
    refine tm_less (b' := 1 + 0) (n' := 400 + 0) ⟨by omega, by omega⟩ ?_
    refine tm_callV (b := 0) (n := 0) (rest := []) hC (c_grow0 (tm_g x) hst w1 a d n (I (m0 + 1)) f hw1_a (Or.inr ⟨by rw [hw2, tm_up_n (fun z => absurd (z ▸ hd) (by rw [ha]; intro q; cases q))]; exact hd, hn, fun i hi y hy => by rw [hw2]; exact tm_el_put (he i hi y hy) ha⟩)) k_Jx4a65c_129 (by rw [hB.2.2.1]; exact ⟨Nat.le_of_ble_eq_true rfl, Nat.le_of_ble_eq_true rfl⟩) rfl (tm_rec1 hC hw1_a rfl) rfl (by decide) dJx4a65c_add_7a177_33 (fun v_33 w_33 hp_33 => ?_)
    obtain ⟨q, cap', g, hq, hw, hc, hg, rfl⟩ := hp_33
    have hqa : q ≠ a := fun z => by subst z; rw [hw1_a] at hq; cases hq
    have hqn : Ω q = none := by rw [hw2, tm_up_n hqa] at hq; exact hq
    have hv2 : tm_el w_33 v0 := by rw [← hw]; exact tm_el_put (tm_el_up (by rw [hw2]; exact tm_el_put hv ha) hq) ((tm_up_n (Ne.symm hqa)).trans hw1_a)
    have he2 : ∀ j : Nat, j < n → ∀ y : Nat, f j = some y → tm_el w_33 y := fun j hj y hy => by rw [← hw]; exact tm_el_put (tm_el_up (by rw [hw2]; exact tm_el_put (he j hj y hy) ha) hq) ((tm_up_n (Ne.symm hqa)).trans hw1_a)
    have ha2 : w_33 a = some (.inr (0, [.int (I (m0 + 1)), .ref q, .int (I n)])) := by rw [← hw]; exact tm_up_s
    have hq2 : w_33 q = some (tm_ao (tm_T x) cap' g) := by rw [← hw, tm_up_n hqa]; exact tm_up_s
    show tm_V x (tm_G x w_33) 0 0 36 [(4, .ref (d)), (3, .int (I ((n : Int)))), (0, .ref (a)), (1, .int (I ((i : Int)))), (2, .ref (v0))] [.ref (q)]
    refine tm_astore [(4, .ref (q)), (3, .int (I ((n : Int)))), (0, .ref (a)), (1, .int (I ((i : Int)))), (2, .ref (v0))] hC dJx4a65c_add_7a177_36 (by rw [hB.2.1]; exact Nat.le_of_ble_eq_true rfl) rfl ?_
    refine tm_aload 0 hC dJx4a65c_add_7a177_38 rfl ?_
    refine tm_iload_n 3 hC dJx4a65c_add_7a177_40 rfl rfl ?_
    refine tm_aload 0 hC dJx4a65c_add_7a177_41 rfl ?_
    refine tm_iload_n 3 hC dJx4a65c_add_7a177_43 rfl rfl ?_
    refine tm_iconst hC dJx4a65c_add_7a177_44 ?_
    refine tm_iadd hC dJx4a65c_add_7a177_45 ?_
    refine tm_iload_n 1 hC dJx4a65c_add_7a177_46 rfl rfl ?_
    refine tm_iload_n 3 hC dJx4a65c_add_7a177_47 rfl rfl ?_
    refine tm_isub hC dJx4a65c_add_7a177_48 ?_
    refine tm_copy1 hC x_Jx4a65c_112 hq2 hq2 (by omega) (fun j hj y hy => he2 _ (by omega) y ((hg _ (by omega)).symm.trans hy)) (by rw [hB.2.2.1]; exact ⟨Nat.le_of_ble_eq_true rfl, Nat.le_of_ble_eq_true rfl⟩) (by decide) dJx4a65c_add_7a177_49 ?_
    obtain ⟨w3, hw4⟩ : ∃ z, z = tm_up w_33 q (tm_ao (tm_T x) cap' (va_cpy g g ((i : Int) : Int).toNat ((i : Int) + 1 : Int).toNat ((n : Int) - (i : Int) : Int).toNat)) := ⟨_, rfl⟩
    show tm_V x (tm_G x (tm_up w_33 q (tm_ao (tm_T x) cap' (va_cpy g g ((i : Int) : Int).toNat ((i : Int) + 1 : Int).toNat ((n : Int) - (i : Int) : Int).toNat)))) 0 0 52 [(4, .ref (q)), (3, .int (I ((n : Int)))), (0, .ref (a)), (1, .int (I ((i : Int)))), (2, .ref (v0))] []
    rw [← hw4]
    have hw3_q : w3 q = some (tm_ao (tm_T x) cap' (va_cpy g g ((i : Int) : Int).toNat ((i : Int) + 1 : Int).toNat ((n : Int) - (i : Int) : Int).toNat)) := by rw [hw4]; first | done | exact tm_up_s
    have hw3_a := (show w3 a = _ by rw [hw4]; exact tm_up_n (fun z => absurd (hq2.symm.trans (z ▸ ha2)) (by intro q; cases q))).trans ha2
    refine tm_aload 0 hC dJx4a65c_add_7a177_52 rfl ?_
    refine tm_iload_n 3 hC dJx4a65c_add_7a177_54 rfl rfl ?_
    refine tm_aload_n 4 hC dJx4a65c_add_7a177_55 rfl rfl ?_
    refine tm_aast1 hC hw3_q (by omega) (by rw [hw4]; exact tm_el_arr hv2 hq2) dJx4a65c_add_7a177_56 ?_
    obtain ⟨w5, hw6⟩ : ∃ z, z = tm_up w3 q (tm_ao (tm_T x) cap' (va_up (va_cpy g g ((i : Int) : Int).toNat ((i : Int) + 1 : Int).toNat ((n : Int) - (i : Int) : Int).toNat) ((i : Int) : Int).toNat (some v0))) := ⟨_, rfl⟩
    show tm_V x (tm_G x (tm_up w3 q (tm_ao (tm_T x) cap' (va_up (va_cpy g g ((i : Int) : Int).toNat ((i : Int) + 1 : Int).toNat ((n : Int) - (i : Int) : Int).toNat) ((i : Int) : Int).toNat (some v0))))) 0 0 57 [(4, .ref (q)), (3, .int (I ((n : Int)))), (0, .ref (a)), (1, .int (I ((i : Int)))), (2, .ref (v0))] []
    rw [← hw6]
    have hw5_q : w5 q = some (tm_ao (tm_T x) cap' (va_up (va_cpy g g ((i : Int) : Int).toNat ((i : Int) + 1 : Int).toNat ((n : Int) - (i : Int) : Int).toNat) ((i : Int) : Int).toNat (some v0))) := by rw [hw6]; first | done | exact tm_up_s
    have hw5_a := (show w5 a = _ by rw [hw6]; exact tm_up_n (fun z => absurd (hw3_q.symm.trans (z ▸ hw3_a)) (by intro q; cases q))).trans hw3_a
    refine tm_aload_n 2 hC dJx4a65c_add_7a177_57 rfl rfl ?_
    refine tm_iload_n 1 hC dJx4a65c_add_7a177_58 rfl rfl ?_
    refine tm_iconst hC dJx4a65c_add_7a177_59 ?_
    refine tm_iadd hC dJx4a65c_add_7a177_60 ?_
    refine tm_putf1 hC f_Jx4a65c_48 hw5_a (tt_0_2 _) (Nat.le_of_ble_eq_true rfl) dJx4a65c_add_7a177_61 ?_
    obtain ⟨w7, hw8⟩ : ∃ z, z = tm_up w5 a (.inr (0, [.int (I (m0 + 1)), .ref (q), .int (I ((n : Int) + 1))])) := ⟨_, rfl⟩
    show tm_V x (tm_G x (tm_up w5 a (.inr (0, [.int (I (m0 + 1)), .ref (q), .int (I ((n : Int) + 1))])))) 0 0 64 [(4, .ref (q)), (3, .int (I ((n : Int)))), (0, .ref (a)), (1, .int (I ((i : Int)))), (2, .ref (v0))] []
    rw [← hw8]
    have hw7_a : w7 a = some (.inr (0, [.int (I (m0 + 1)), .ref (q), .int (I ((n : Int) + 1))])) := by rw [hw8]; first | done | exact tm_up_s
    have hw7_q := (show w7 q = _ by rw [hw8]; exact tm_up_n (fun z => absurd (hw5_a.symm.trans (z ▸ hw5_q)) (by intro q; cases q))).trans hw5_q
    exact tm_vret hC hR dJx4a65c_add_7a177_64 (⟨rfl, q, cap', va_up (va_cpy g g ((i : Int)).toNat ((i : Int) + 1).toNat ((n : Int) - (i : Int)).toNat) ((i : Int)).toNat (some v0), Or.inl hqn, fun b hb1 hb2 => by rw [hw8, tm_up_n hb1, hw6, tm_up_n hb2, hw4, tm_up_n hb2, ← hw, tm_up_n hb1, tm_up_n hb2, hw2, tm_up_n hb1], by rw [hw8]; exact tm_up_s, (by rw [hw8, tm_up_n hqa, hw6]; exact tm_up_s), by omega, fun j hj => (if_neg (by omega)).trans ((pk_cpy_out (by omega)).trans (hg _ (by omega))), if_pos rfl, fun j h1 h2 => (if_neg (by omega)).trans ((pk_cpy_in (by omega) (by omega)).trans ((congrArg g (show _ = j by omega)).trans (hg _ (by omega))))⟩)

set_option maxHeartbeats 4000000 in
set_option maxRecDepth 100000 in
theorem c_addiC (γ : tmG) (hst : γ.1.stackTraces = false) (Ω : tmO) (a d n i v0 : Nat) (m0 : Int) (f : Nat → Option Nat) (ha : Ω a = some (.inr (0, [.int (I m0), .ref d, .int (I n)]))) (hv : tm_el Ω v0) (hin : i ≤ n) (cap : Nat) (hd : Ω d = some (tm_ao γ.2.2.1 cap f)) (hn : n < cap ∧ cap ≤ 400 ∧ 10 ≤ cap) (he : ∀ i : Nat, i < n → ∀ y : Nat, f i = some y → tm_el Ω y) : tm_Con γ (tm_hol γ.2.1) M_Jx4a65c_add_7a177 6 1 400 [.ref (a), .int (I ((i : Int))), .ref (v0)] Ω (fun v w' => v = none ∧ ∃ (d' cap' : Nat) (g : Nat → Option Nat), (Ω d' = none ∨ (d' = d ∧ Ω d ≠ none)) ∧ (∀ b, b ≠ a → b ≠ d' → w' b = Ω b) ∧ w' a = some (.inr (0, [.int (I (m0 + 1)), .ref d', .int (I ((n : Int) + 1))])) ∧ w' d' = some (tm_ao γ.2.2.1 cap' g) ∧ (n + 1 ≤ cap' ∧ cap' ≤ 400 ∧ 10 ≤ cap') ∧ (∀ j : Nat, j < i → g j = f j) ∧ g i = some v0 ∧ ∀ j : Nat, i ≤ j → j < n → g (j + 1) = f j) := by
  refine tm_con hst (by decide) (Nat.le_of_ble_eq_true rfl) (fun x hB hR => ?_)
  have hg := hB.1
  subst hg
  have hC : tm_C x cJx4a65c_add_7a177 RJx4a65c (none) := hB.2.2.2.1
  show tm_V x (tm_G x Ω) 1 400 0 [(0, .ref (a)), (1, .int (I ((i : Int)))), (2, .ref (v0))] []
  refine tm_aload_n 0 hC dJx4a65c_add_7a177_0 rfl rfl ?_
  refine tm_iload_n 1 hC dJx4a65c_add_7a177_1 rfl rfl ?_
  refine tm_callV (b := 1) (n := 400) (rest := []) hC (c_rca (tm_g x) hst Ω a _ n _ ha i (by omega)) k_Jx4a65c_135 (by rw [hB.2.2.1]; exact ⟨Nat.le_of_ble_eq_true rfl, Nat.le_of_ble_eq_true rfl⟩) rfl (tm_rec1 hC ha rfl) rfl (by decide) dJx4a65c_add_7a177_2 (fun v_2 w_2 hp_2 => ?_)
  obtain ⟨rfl, rfl⟩ := hp_2
  show tm_V x (tm_G x Ω) 1 400 5 [(0, .ref (a)), (1, .int (I ((i : Int)))), (2, .ref (v0))] []
  refine tm_aload_n 0 hC dJx4a65c_add_7a177_5 rfl rfl ?_
  refine tm_dup hC dJx4a65c_add_7a177_6 rfl ?_
  refine tm_getf1 hC f_Jx4a65c_63 ha rfl dJx4a65c_add_7a177_7 ?_
  refine tm_iconst hC dJx4a65c_add_7a177_10 ?_
  refine tm_iadd hC dJx4a65c_add_7a177_11 ?_
  refine tm_putf1 hC f_Jx4a65c_63 ha (tt_0_0 _) (Nat.le_of_ble_eq_true rfl) dJx4a65c_add_7a177_12 ?_
  obtain ⟨w1, hw2⟩ : ∃ z, z = tm_up Ω a (.inr (0, [.int (I (m0 + 1)), .ref (d), .int (I ((n : Int)))])) := ⟨_, rfl⟩
  show tm_V x (tm_G x (tm_up Ω a (.inr (0, [.int (I (m0 + 1)), .ref (d), .int (I ((n : Int)))])))) 1 400 15 [(0, .ref (a)), (1, .int (I ((i : Int)))), (2, .ref (v0))] []
  rw [← hw2]
  have hw1_a : w1 a = some (.inr (0, [.int (I (m0 + 1)), .ref (d), .int (I ((n : Int)))])) := by rw [hw2]; first | done | exact tm_up_s
  have hw1_d := (show w1 d = _ by rw [hw2]; exact tm_up_n (fun z => absurd (ha.symm.trans (z ▸ hd)) (by intro q; cases q))).trans hd
  refine tm_aload_n 0 hC dJx4a65c_add_7a177_15 rfl rfl ?_
  refine tm_getf1 hC f_Jx4a65c_48 hw1_a rfl dJx4a65c_add_7a177_16 ?_
  refine tm_dup hC dJx4a65c_add_7a177_19 rfl ?_
  refine tm_istore_n [(3, .int (I ((n : Int)))), (0, .ref (a)), (1, .int (I ((i : Int)))), (2, .ref (v0))] hC dJx4a65c_add_7a177_20 rfl (by rw [hB.2.1]; exact Nat.le_of_ble_eq_true rfl) rfl ?_
  refine tm_aload_n 1 hC dJx4a65c_add_7a177_21 rfl rfl ?_
  refine tm_getf1 hC f_Jx4a65c_9 hw1_a rfl dJx4a65c_add_7a177_22 ?_
  refine tm_dup hC dJx4a65c_add_7a177_25 rfl ?_
  refine tm_astore [(4, .ref (d)), (3, .int (I ((n : Int)))), (0, .ref (a)), (1, .int (I ((i : Int)))), (2, .ref (v0))] hC dJx4a65c_add_7a177_26 (by rw [hB.2.1]; exact Nat.le_of_ble_eq_true rfl) rfl ?_
  refine tm_alen1 (t0 := 3) (ty := .object "java/lang/Object") hC hw1_d rfl dJx4a65c_add_7a177_28 ?_
  refine tm_icmp_ne 38 hC dJx4a65c_add_7a177_29 (by decide) (by omega) (fun c_29 => ?_) (fun c_29 => ?_)
  · refine tm_aload 0 hC dJx4a65c_add_7a177_38 rfl ?_
    refine tm_iload_n 3 hC dJx4a65c_add_7a177_40 rfl rfl ?_
    refine tm_aload 0 hC dJx4a65c_add_7a177_41 rfl ?_
    refine tm_iload_n 3 hC dJx4a65c_add_7a177_43 rfl rfl ?_
    refine tm_iconst hC dJx4a65c_add_7a177_44 ?_
    refine tm_iadd hC dJx4a65c_add_7a177_45 ?_
    refine tm_iload_n 1 hC dJx4a65c_add_7a177_46 rfl rfl ?_
    refine tm_iload_n 3 hC dJx4a65c_add_7a177_47 rfl rfl ?_
    refine tm_isub hC dJx4a65c_add_7a177_48 ?_
    refine tm_copy1 hC x_Jx4a65c_112 hw1_d hw1_d (by omega) (fun j hj y hy => by rw [hw2]; exact tm_el_put (he _ (by omega) y hy) ha) (by rw [hB.2.2.1]; exact ⟨Nat.le_of_ble_eq_true rfl, Nat.le_of_ble_eq_true rfl⟩) (by decide) dJx4a65c_add_7a177_49 ?_
    obtain ⟨w3, hw4⟩ : ∃ z, z = tm_up w1 d (tm_ao (tm_T x) cap (va_cpy f f ((i : Int) : Int).toNat ((i : Int) + 1 : Int).toNat ((n : Int) - (i : Int) : Int).toNat)) := ⟨_, rfl⟩
    show tm_V x (tm_G x (tm_up w1 d (tm_ao (tm_T x) cap (va_cpy f f ((i : Int) : Int).toNat ((i : Int) + 1 : Int).toNat ((n : Int) - (i : Int) : Int).toNat)))) 1 400 52 [(4, .ref (d)), (3, .int (I ((n : Int)))), (0, .ref (a)), (1, .int (I ((i : Int)))), (2, .ref (v0))] []
    rw [← hw4]
    have hw3_d : w3 d = some (tm_ao (tm_T x) cap (va_cpy f f ((i : Int) : Int).toNat ((i : Int) + 1 : Int).toNat ((n : Int) - (i : Int) : Int).toNat)) := by rw [hw4]; first | done | exact tm_up_s
    have hw3_a := (show w3 a = _ by rw [hw4]; exact tm_up_n (fun z => absurd (hw1_d.symm.trans (z ▸ hw1_a)) (by intro q; cases q))).trans hw1_a
    refine tm_aload 0 hC dJx4a65c_add_7a177_52 rfl ?_
    refine tm_iload_n 3 hC dJx4a65c_add_7a177_54 rfl rfl ?_
    refine tm_aload_n 4 hC dJx4a65c_add_7a177_55 rfl rfl ?_
    refine tm_aast1 hC hw3_d (by omega) (by rw [hw4]; exact tm_el_arr (by rw [hw2]; exact tm_el_put hv ha) ((by rw [hw2, tm_up_n (fun z => absurd (z ▸ hd) (by rw [ha]; intro q; cases q))]; exact hd))) dJx4a65c_add_7a177_56 ?_
    obtain ⟨w5, hw6⟩ : ∃ z, z = tm_up w3 d (tm_ao (tm_T x) cap (va_up (va_cpy f f ((i : Int) : Int).toNat ((i : Int) + 1 : Int).toNat ((n : Int) - (i : Int) : Int).toNat) ((i : Int) : Int).toNat (some v0))) := ⟨_, rfl⟩
    show tm_V x (tm_G x (tm_up w3 d (tm_ao (tm_T x) cap (va_up (va_cpy f f ((i : Int) : Int).toNat ((i : Int) + 1 : Int).toNat ((n : Int) - (i : Int) : Int).toNat) ((i : Int) : Int).toNat (some v0))))) 1 400 57 [(4, .ref (d)), (3, .int (I ((n : Int)))), (0, .ref (a)), (1, .int (I ((i : Int)))), (2, .ref (v0))] []
    rw [← hw6]
    have hw5_d : w5 d = some (tm_ao (tm_T x) cap (va_up (va_cpy f f ((i : Int) : Int).toNat ((i : Int) + 1 : Int).toNat ((n : Int) - (i : Int) : Int).toNat) ((i : Int) : Int).toNat (some v0))) := by rw [hw6]; first | done | exact tm_up_s
    have hw5_a := (show w5 a = _ by rw [hw6]; exact tm_up_n (fun z => absurd (hw3_d.symm.trans (z ▸ hw3_a)) (by intro q; cases q))).trans hw3_a
    refine tm_aload_n 2 hC dJx4a65c_add_7a177_57 rfl rfl ?_
    refine tm_iload_n 1 hC dJx4a65c_add_7a177_58 rfl rfl ?_
    refine tm_iconst hC dJx4a65c_add_7a177_59 ?_
    refine tm_iadd hC dJx4a65c_add_7a177_60 ?_
    refine tm_putf1 hC f_Jx4a65c_48 hw5_a (tt_0_2 _) (Nat.le_of_ble_eq_true rfl) dJx4a65c_add_7a177_61 ?_
    obtain ⟨w7, hw8⟩ : ∃ z, z = tm_up w5 a (.inr (0, [.int (I (m0 + 1)), .ref (d), .int (I ((n : Int) + 1))])) := ⟨_, rfl⟩
    show tm_V x (tm_G x (tm_up w5 a (.inr (0, [.int (I (m0 + 1)), .ref (d), .int (I ((n : Int) + 1))])))) 1 400 64 [(4, .ref (d)), (3, .int (I ((n : Int)))), (0, .ref (a)), (1, .int (I ((i : Int)))), (2, .ref (v0))] []
    rw [← hw8]
    have hw7_a : w7 a = some (.inr (0, [.int (I (m0 + 1)), .ref (d), .int (I ((n : Int) + 1))])) := by rw [hw8]; first | done | exact tm_up_s
    have hw7_d := (show w7 d = _ by rw [hw8]; exact tm_up_n (fun z => absurd (hw5_a.symm.trans (z ▸ hw5_d)) (by intro q; cases q))).trans hw5_d
    exact tm_vret hC hR dJx4a65c_add_7a177_64 (⟨rfl, d, cap, va_up (va_cpy f f ((i : Int)).toNat ((i : Int) + 1).toNat ((n : Int) - (i : Int)).toNat) ((i : Int)).toNat (some v0), Or.inr ⟨rfl, by rw [hd]; exact fun z => by cases z⟩, fun b hb1 hb2 => by rw [hw8, tm_up_n hb1, hw6, tm_up_n hb2, hw4, tm_up_n hb2, hw2, tm_up_n hb1], by rw [hw8]; exact tm_up_s, (by rw [hw8, tm_up_n (fun z => absurd (z ▸ hd) (by rw [ha]; intro q; cases q)), hw6]; exact tm_up_s), by omega, fun j hj => (if_neg (by omega)).trans ((pk_cpy_out (by omega)).trans rfl), if_pos rfl, fun j h1 h2 => (if_neg (by omega)).trans ((pk_cpy_in (by omega) (by omega)).trans ((congrArg f (show _ = j by omega)).trans rfl))⟩)
  · exact ((by omega) : False).elim

theorem c_addi (γ : tmG) (hst : γ.1.stackTraces = false) (Ω : tmO) (a d n i v0 : Nat) (m0 : Int) (f : Nat → Option Nat) (ha : Ω a = some (.inr (0, [.int (I m0), .ref d, .int (I n)]))) (hv : tm_el Ω v0) (hin : i ≤ n) (h : ((d = γ.2.2.2.1 ∧ n = 0) ∨ (∃ cap, Ω d = some (tm_ao γ.2.2.1 cap f) ∧ n ≤ cap ∧ cap ≤ 400 ∧ 10 ≤ cap ∧ n ≤ 250 ∧ ∀ i : Nat, i < n → ∀ y : Nat, f i = some y → tm_el Ω y))) : tm_Con γ (tm_hol γ.2.1) M_Jx4a65c_add_7a177 6 1 400 [.ref a, .int (I (i : Int)), .ref v0] Ω (fun v w' => v = none ∧ ∃ (d' cap' : Nat) (g : Nat → Option Nat), (Ω d' = none ∨ (d' = d ∧ Ω d ≠ none)) ∧ (∀ b, b ≠ a → b ≠ d' → w' b = Ω b) ∧ w' a = some (.inr (0, [.int (I (m0 + 1)), .ref d', .int (I ((n : Int) + 1))])) ∧ w' d' = some (tm_ao γ.2.2.1 cap' g) ∧ (n + 1 ≤ cap' ∧ cap' ≤ 400 ∧ 10 ≤ cap') ∧ (∀ j : Nat, j < i → g j = f j) ∧ g i = some v0 ∧ ∀ j : Nat, i ≤ j → j < n → g (j + 1) = f j) := by
  rcases h with ⟨h1, h2⟩ | ⟨cap, h1, h2, h3, h4, h5, h6⟩
  · subst h1; exact c_addiA γ hst Ω a γ.2.2.2.1 n i v0 m0 f ha hv hin h2
  · by_cases hc : n = cap
    · subst hc; exact c_addiB γ hst Ω a d n i v0 m0 f ha hv hin h1 ⟨h4, h5⟩ h6
    · exact c_addiC γ hst Ω a d n i v0 m0 f ha hv hin cap h1 (by omega) h6
end
section
/-! ArrayList's members over the world with lists. -/
theorem tm_lift {γ : tmG} {M : tmM} {d mc ms : Nat} {As : List Value} {Λ : tmL} {post2 : Option Value → tmL → Prop}
    (k : ∀ Ω, tm_lw γ.2.2.1 γ.2.2.2.1 Λ Ω → ∃ post1, tm_Con γ (tm_hol γ.2.1) M d mc ms As Ω post1 ∧ ∀ v Ω', post1 v Ω' → (∀ q, Ω' q ≠ none → q ≠ γ.2.2.2.1) → ∃ Λ', post2 v Λ' ∧ tm_lw γ.2.2.1 γ.2.2.2.1 Λ' Ω') : tm_Con γ (tm_h2 γ.2.1 γ.2.2.1 γ.2.2.2.1) M d mc ms As Λ post2 := by
  intro Fz p e ha hc hk s m args below hf happ hP hK
  obtain ⟨h1, h2, h3, Ω, hw, hh⟩ := hP
  obtain ⟨post1, hcon, himp⟩ := k Ω hw
  obtain ⟨n, o, a1, a2, a3, ⟨v, Ω', rfl, hp, hh', hF⟩, hL⟩ := hcon Fz p e ha hc hk s m args below hf happ ⟨h1, h2, h3, hh⟩ hK
  obtain ⟨Λ', hp2, hw2⟩ := himp v Ω' hp (fun q hq z => by
    obtain ⟨e9, he9⟩ := Option.ne_none_iff_exists'.mp hq
    exact (tm_hol_at hh' he9).2.1 (by rw [z]; exact h3.2.2.1))
  exact ⟨n, _, a1, a2, a3, ⟨v, Λ', rfl, hp2, ⟨Ω', hw2, hh'⟩, hF⟩, hL⟩
theorem c_Linit (γ : tmG) (hst : γ.1.stackTraces = false) (Λ : tmL) (a : Nat) (ha : Λ a = some (.inl (.inr (0, [.int (I 0), .null, .int (I 0)])))) : tm_Con γ (tm_h2 γ.2.1 γ.2.2.1 γ.2.2.2.1) M_Jx4a65c_init_da8c8 3 0 0 [.ref a] Λ (fun v w' => tm_ul Λ a [] = w' ∧ v = none) := by
  refine tm_lift (fun Ω hw => ⟨_, c_init1 γ hst Ω a (I 0) (hw.choose_spec.1 _ _ ha), fun v Ω' hp hz => ⟨_, ⟨rfl, hp.2⟩, ?_⟩⟩)
  rw [← hp.1]
  exact tm_lw_born hw ha
theorem c_Lsize (γ : tmG) (hst : γ.1.stackTraces = false) (Λ : tmL) (a : Nat) (xs : List Nat) (ha : Λ a = some (.inr xs)) : tm_Con γ (tm_h2 γ.2.1 γ.2.2.1 γ.2.2.2.1) M_Jx4a65c_size_8abf5 1 0 0 [.ref a] Λ (fun v w' => Λ = w' ∧ v = some (.int (I (xs.length : Int)))) := by
  refine tm_lift (fun Ω hw => ?_)
  obtain ⟨mc, cap, f, h1, -⟩ := (hw.choose_spec.2.1 a xs ha).1
  exact ⟨_, c_size1 γ hst Ω a _ xs.length mc h1, fun v Ω' hp hz => ⟨Λ, ⟨rfl, hp.2⟩, by rw [← hp.1]; exact hw⟩⟩
theorem tm_len {T : ClassId × ClassId × ClassId × ClassId} {e0 : Nat} {Ω : tmO} {a d : Nat} {xs : List Nat} (h : tm_ls T e0 Ω a d xs) : xs.length ≤ 400 := by
  obtain ⟨mc, cap, f, h1, h2, h3⟩ := h
  by_cases hz : d = e0
  · rw [h3 hz]; exact Nat.zero_le _
  · have := h2 hz; omega
theorem c_LisE (γ : tmG) (hst : γ.1.stackTraces = false) (Λ : tmL) (a : Nat) (xs : List Nat) (ha : Λ a = some (.inr xs)) : tm_Con γ (tm_h2 γ.2.1 γ.2.2.1 γ.2.2.2.1) M_Jx4a65c_isEmpty_aae02 1 0 0 [.ref a] Λ (fun v w' => Λ = w' ∧ v = some (.int (I (bi (xs.length = 0))))) := by
  refine tm_lift (fun Ω hw => ?_)
  have hl := tm_len (hw.choose_spec.2.1 a xs ha).1
  obtain ⟨mc, cap, f, h1, -⟩ := (hw.choose_spec.2.1 a xs ha).1
  exact ⟨_, c_isE1 γ hst Ω a _ xs.length mc h1 (by omega), fun v Ω' hp hz => ⟨Λ, ⟨rfl, hp.2⟩, by rw [← hp.1]; exact hw⟩⟩
theorem c_Lget (γ : tmG) (hst : γ.1.stackTraces = false) (Λ : tmL) (a : Nat) (xs : List Nat) (k : Int) (y : Nat) (ha : Λ a = some (.inr xs)) (hk : 0 ≤ k) (hy : xs[k.toNat]? = some y) : tm_Con γ (tm_h2 γ.2.1 γ.2.2.1 γ.2.2.2.1) M_Jx4a65c_get_915e3 3 0 0 [.ref a, .int (I k)] Λ (fun v w' => Λ = w' ∧ v = some (.ref y)) := by
  obtain ⟨i, rfl⟩ := Int.eq_ofNat_of_zero_le hk
  refine tm_lift (fun Ω hw => ?_)
  obtain ⟨mc, cap, f, h1, h2, h3⟩ := (hw.choose_spec.2.1 a xs ha).1
  have hi : i < xs.length := (List.getElem?_eq_some_iff.mp hy).1
  have hne : hw.choose a ≠ γ.2.2.2.1 := fun z => by rw [h3 z] at hi; exact absurd hi (Nat.not_lt_zero _)
  obtain ⟨g1, g2, g3, g4, g5⟩ := h2 hne
  exact ⟨_, c_get1 γ hst Ω a _ xs.length mc h1 cap i y f g1 (by omega) ((g2 i hi).trans hy), fun v Ω' hp hz => ⟨Λ, ⟨rfl, hp.2⟩, by rw [← hp.1]; exact hw⟩⟩
theorem tm_h3 {γ : tmG} {Λ : tmL} {Ω : tmO} {E : Nat → Nat} {a cap : Nat} {f : Nat → Option Nat} {xs : List Nat} (hw : tm_lw γ.2.2.1 γ.2.2.2.1 Λ Ω) (h2 : E a ≠ γ.2.2.2.1 → Ω (E a) = some (tm_ao γ.2.2.1 cap f) ∧ (∀ i, i < xs.length → f i = xs[i]?) ∧ xs.length ≤ cap ∧ cap ≤ 400 ∧ 10 ≤ cap) (h3 : E a = γ.2.2.2.1 → xs = []) (hel : ∀ v ∈ xs, tm_el2 Λ v) (hl : xs.length ≤ 250) : (E a = γ.2.2.2.1 ∧ xs.length = 0) ∨ (∃ cap, Ω (E a) = some (tm_ao γ.2.2.1 cap f) ∧ xs.length ≤ cap ∧ cap ≤ 400 ∧ 10 ≤ cap ∧ xs.length ≤ 250 ∧ ∀ i : Nat, i < xs.length → ∀ y : Nat, f i = some y → tm_el Ω y) := by
  by_cases hz : E a = γ.2.2.2.1
  · exact Or.inl ⟨hz, by rw [h3 hz]; rfl⟩
  · obtain ⟨g1, g2, g3, g4, g5⟩ := h2 hz
    exact Or.inr ⟨cap, g1, g3, g4, g5, hl, fun i hi y hy => tm_el_of hw (hel y (List.mem_of_getElem? ((g2 i hi).symm.trans hy)))⟩
theorem c_Ladd (γ : tmG) (hst : γ.1.stackTraces = false) (Λ : tmL) (a v0 : Nat) (xs : List Nat) (ha : Λ a = some (.inr xs)) (hv : tm_el2 Λ v0) (hl : xs.length ≤ 250) : tm_Con γ (tm_h2 γ.2.1 γ.2.2.1 γ.2.2.2.1) M_Jx4a65c_add_9ea2d 7 1 400 [.ref a, .ref v0] Λ (fun v w' => tm_ul Λ a (xs ++ [v0]) = w' ∧ v = some (.int (I 1))) := by
  refine tm_lift (fun Ω hw => ?_)
  obtain ⟨E, e1, e2, e3, e4⟩ := id hw
  obtain ⟨⟨mc, cap, f, h1, h2, h3⟩, -, hel⟩ := e2 a xs ha
  rw [I_of mc] at h1
  refine ⟨_, c_add1 γ hst Ω a (E a) xs.length v0 mc.toInt f h1 (tm_el_of hw hv) (tm_h3 hw h2 h3 hel hl), fun v Ω' hp hz => ⟨_, ⟨rfl, hp.1⟩, ?_⟩⟩
  obtain ⟨-, d', cap', g, hd, hk, hoa, hod, hc, hgn, hgi⟩ := hp
  have hd0 : d' ≠ γ.2.2.2.1 := hz d' (by rw [hod]; exact fun z => by cases z)
  have en : (xs ++ [v0]).length = xs.length + 1 := by simp
  refine tm_lw_list e1 e2 e3 e4 ha hk (by rw [hoa, en]; rfl) hod (fun i hi => ?_) (by omega) (by
    rcases hd with hd | ⟨hd, hd2⟩
    · exact Or.inr ⟨hd, hd0⟩
    · exact Or.inl ⟨hd, hd0⟩) (fun v hv2 => ?_)
  · by_cases hi2 : i < xs.length
    · rw [hgi i hi2, List.getElem?_append_left hi2]
      have hne : E a ≠ γ.2.2.2.1 := fun z => by rw [h3 z] at hi2; exact absurd hi2 (Nat.not_lt_zero _)
      exact (h2 hne).2.1 i hi2
    · have : i = xs.length := by omega
      subst this
      rw [hgn]; simp
  · rcases List.mem_append.mp hv2 with h | h
    · exact hel v h
    · rw [List.mem_singleton.mp h]; exact hv
theorem c_Laddi (γ : tmG) (hst : γ.1.stackTraces = false) (Λ : tmL) (a v0 : Nat) (k : Int) (xs : List Nat) (ha : Λ a = some (.inr xs)) (hv : tm_el2 Λ v0) (hl : xs.length ≤ 250) (hk : 0 ≤ k ∧ k ≤ xs.length) : tm_Con γ (tm_h2 γ.2.1 γ.2.2.1 γ.2.2.2.1) M_Jx4a65c_add_7a177 6 1 400 [.ref a, .int (I k), .ref v0] Λ (fun v w' => tm_ul Λ a (xs.take k.toNat ++ v0 :: xs.drop k.toNat) = w' ∧ v = none) := by
  obtain ⟨i, rfl⟩ := Int.eq_ofNat_of_zero_le hk.1
  rw [show ((i : Int)).toNat = i from rfl]
  refine tm_lift (fun Ω hw => ?_)
  obtain ⟨E, e1, e2, e3, e4⟩ := id hw
  obtain ⟨⟨mc, cap, f, h1, h2, h3⟩, -, hel⟩ := e2 a xs ha
  rw [I_of mc] at h1
  refine ⟨_, c_addi γ hst Ω a (E a) xs.length i v0 mc.toInt f h1 (tm_el_of hw hv) (by omega) (tm_h3 hw h2 h3 hel hl), fun v Ω' hp hz => ⟨_, ⟨rfl, hp.1⟩, ?_⟩⟩
  obtain ⟨-, d', cap', g, hd, hk2, hoa, hod, hc, hg1, hgn, hg2⟩ := hp
  have hd0 : d' ≠ γ.2.2.2.1 := hz d' (by rw [hod]; exact fun z => by cases z)
  have en : (xs.take i ++ v0 :: xs.drop i).length = xs.length + 1 := by simp; omega
  have hf : ∀ j, j < xs.length → f j = xs[j]? := fun j hj => (h2 (fun z => by rw [h3 z] at hj; exact absurd hj (Nat.not_lt_zero _))).2.1 j hj
  refine tm_lw_list e1 e2 e3 e4 ha hk2 (by rw [hoa, en]; rfl) hod (fun j hj => ?_) (by omega) (by
    rcases hd with hd | ⟨hd, hd2⟩
    · exact Or.inr ⟨hd, hd0⟩
    · exact Or.inl ⟨hd, hd0⟩) (fun v hv2 => ?_)
  · have el : (xs.take i).length = i := by rw [List.length_take]; omega
    by_cases hj1 : j < i
    · rw [hg1 j hj1, List.getElem?_append_left (by omega), List.getElem?_take_of_lt hj1]
      exact hf j (by omega)
    · rw [List.getElem?_append_right (by omega), el]
      by_cases hj2 : j = i
      · subst hj2
        rw [hgn, Nat.sub_self]; rfl
      · obtain ⟨q, rfl⟩ : ∃ q, j = q + 1 := ⟨j - 1, by omega⟩
        rw [hg2 q (by omega) (by omega), show q + 1 - i = (q - i) + 1 by omega, List.getElem?_cons_succ, List.getElem?_drop, show i + (q - i) = q by omega]
        exact hf q (by omega)
  · rcases List.mem_append.mp hv2 with h | h
    · exact hel v (List.mem_of_mem_take h)
    · rcases List.mem_cons.mp h with h | h
      · rw [h]; exact hv
      · exact hel v (List.mem_of_mem_drop h)
theorem c_Lrem (γ : tmG) (hst : γ.1.stackTraces = false) (Λ : tmL) (a : Nat) (k : Int) (y : Nat) (xs : List Nat) (ha : Λ a = some (.inr xs)) (hk : 0 ≤ k) (hy : xs[k.toNat]? = some y) : tm_Con γ (tm_h2 γ.2.1 γ.2.2.1 γ.2.2.2.1) M_Jx4a65c_remove_915e3 3 0 0 [.ref a, .int (I k)] Λ (fun v w' => tm_ul Λ a (xs.eraseIdx k.toNat) = w' ∧ v = some (.ref y)) := by
  obtain ⟨i, rfl⟩ := Int.eq_ofNat_of_zero_le hk
  rw [show ((i : Int)).toNat = i from rfl] at hy ⊢
  refine tm_lift (fun Ω hw => ?_)
  obtain ⟨E, e1, e2, e3, e4⟩ := id hw
  obtain ⟨⟨mc, cap, f, h1, h2, h3⟩, -, hel⟩ := e2 a xs ha
  have hi : i < xs.length := (List.getElem?_eq_some_iff.mp hy).1
  have hne : E a ≠ γ.2.2.2.1 := fun z => by rw [h3 z] at hi; exact absurd hi (Nat.not_lt_zero _)
  obtain ⟨g1, g2, g3, g4, g5⟩ := h2 hne
  rw [I_of mc] at h1
  refine ⟨_, c_rem1 γ hst Ω a (E a) xs.length cap i mc.toInt f h1 g1 (by omega) (fun j hj y hy => tm_el_of hw (hel y (List.mem_of_getElem? ((g2 j hj).symm.trans hy)))) y ((g2 i hi).trans hy), fun v Ω' hp hz => ⟨_, ⟨rfl, hp.1⟩, ?_⟩⟩
  obtain ⟨-, hk2, g, hoa, hod, hg1, hg2⟩ := hp
  have en : (xs.eraseIdx i).length = xs.length - 1 := by rw [List.length_eraseIdx, if_pos hi]
  refine tm_lw_list e1 e2 e3 e4 ha hk2 (by rw [hoa, en, show ((xs.length - 1 : Nat) : Int) = (xs.length : Int) - 1 by omega]) hod (fun j hj => ?_) (by omega) (Or.inl ⟨rfl, hne⟩) (fun v hv2 => hel v (List.mem_of_mem_eraseIdx hv2))
  rw [List.getElem?_eraseIdx]
  by_cases hj1 : j < i
  · rw [if_pos hj1, hg1 j hj1]; exact g2 j (by omega)
  · rw [if_neg hj1, hg2 j (by omega) (by omega)]; exact g2 (j + 1) (by omega)
end
section
/-! The state of the list, as numbers: boards, defects, parts, saw, joint, pieces made; and the rows that hold them. -/
abbrev ST : Type := Int × Int × Int × Int × Int × Int × (Int → Int) × (Int → Int) × (Int → Int) × (Int → Int) × (Int → Int) × (Int → Int)
def mkS (nb nd np sw jt nm : Int) (wo fl wa cu mj aj : Int → Int) : ST := (nb, nd, np, sw, jt, nm, wo, fl, wa, cu, mj, aj)
def s_nb (σ : ST) : Int := σ.1
def s_nd (σ : ST) : Int := σ.2.1
def s_np (σ : ST) : Int := σ.2.2.1
def s_sw (σ : ST) : Int := σ.2.2.2.1
def s_jt (σ : ST) : Int := σ.2.2.2.2.1
def s_nm (σ : ST) : Int := σ.2.2.2.2.2.1
def s_wo (σ : ST) : Int → Int := σ.2.2.2.2.2.2.1
def s_fl (σ : ST) : Int → Int := σ.2.2.2.2.2.2.2.1
def s_wa (σ : ST) : Int → Int := σ.2.2.2.2.2.2.2.2.1
def s_cu (σ : ST) : Int → Int := σ.2.2.2.2.2.2.2.2.2.1
def s_mj (σ : ST) : Int → Int := σ.2.2.2.2.2.2.2.2.2.2.1
def s_aj (σ : ST) : Int → Int := σ.2.2.2.2.2.2.2.2.2.2.2
/-- how often the parts ahead of n are left, in all -/
def tsum (f : Int → Int) : Nat → Int
  | 0 => 0
  | n + 1 => tsum f n + f (4 * (n : Int) + 3)
def s_tl (σ : ST) : Int := tsum (s_wa σ) (s_np σ).toNat
/-- the cuttings, by the number of their first piece: they lie one behind the other from a place on -/
def grp (aj cu : Int → Int) : List Int → Int → Int → Prop
  | [], k, m => k = m
  | j :: r, k, m => j = k ∧ ((aj k = 0 ∧ grp aj cu r (k + 1) m) ∨ (aj k = 1 ∧ aj (k + 1) = 1 ∧ cu (4 * (k + 1) + 3) = cu (4 * k + 3) ∧ grp aj cu r (k + 2) m))
def WF (σ : ST) : Prop :=
  (0 ≤ s_nb σ ∧ s_nb σ ≤ 10 ∧ 0 ≤ s_nd σ ∧ s_nd σ ≤ 24 ∧ 0 ≤ s_np σ ∧ s_np σ ≤ 12 ∧ 0 ≤ s_sw σ ∧ s_sw σ ≤ 10 ∧ 0 ≤ s_jt σ ∧ s_jt σ ≤ 50 ∧ 0 ≤ s_nm σ ∧ s_nm σ ≤ 216) ∧
  (∀ b, 0 ≤ b ∧ b < s_nb σ → 100 ≤ s_wo σ (3 * b) ∧ s_wo σ (3 * b) ≤ 3000 ∧ 10 ≤ s_wo σ (3 * b + 1) ∧ s_wo σ (3 * b + 1) ≤ 400 ∧ 0 ≤ s_wo σ (3 * b + 2) ∧ s_wo σ (3 * b + 2) ≤ 3) ∧
  (∀ d, 0 ≤ d ∧ d < s_nd σ → 0 ≤ s_fl σ (4 * d) ∧ s_fl σ (4 * d) < s_nb σ ∧ 0 ≤ s_fl σ (4 * d + 1) ∧ s_fl σ (4 * d + 1) < s_fl σ (4 * d + 2) ∧ s_fl σ (4 * d + 2) ≤ s_wo σ (3 * s_fl σ (4 * d)) ∧ 1 ≤ s_fl σ (4 * d + 3) ∧ s_fl σ (4 * d + 3) ≤ 3) ∧
  (∀ p, 0 ≤ p ∧ p < s_np σ → 20 ≤ s_wa σ (4 * p + 0) ∧ s_wa σ (4 * p + 0) ≤ 3000 ∧ 10 ≤ s_wa σ (4 * p + 1) ∧ s_wa σ (4 * p + 1) ≤ 400 ∧ 0 ≤ s_wa σ (4 * p + 2) ∧ s_wa σ (4 * p + 2) ≤ 3 ∧ 0 ≤ s_wa σ (4 * p + 3) ∧ s_wa σ (4 * p + 3) ≤ 108 ∧ (s_mj σ p = 0 ∨ s_mj σ p = 1)) ∧
  (∀ k, 0 ≤ k ∧ k < s_nm σ → 0 ≤ s_cu σ (4 * k) ∧ s_cu σ (4 * k) < s_nb σ ∧ 0 ≤ s_cu σ (4 * k + 1) ∧ s_cu σ (4 * k + 1) < s_cu σ (4 * k + 2) ∧ s_cu σ (4 * k + 2) ≤ s_wo σ (3 * s_cu σ (4 * k)) ∧ 0 ≤ s_cu σ (4 * k + 3) ∧ s_cu σ (4 * k + 3) < s_np σ ∧ (s_aj σ k = 0 ∨ s_aj σ k = 1)) ∧
  (∀ i j, 0 ≤ i → i < j → j < s_nm σ → s_cu σ (4 * i) = s_cu σ (4 * j) → s_cu σ (4 * i + 2) + s_sw σ ≤ s_cu σ (4 * j + 1) ∨ s_cu σ (4 * j + 2) + s_sw σ ≤ s_cu σ (4 * i + 1)) ∧
  (∃ cs, grp (s_aj σ) (s_cu σ) cs 0 (s_nm σ) ∧ s_tl σ + cs.length ≤ 9 * s_np σ)
theorem wf_n {σ : ST} (h : WF σ) : 0 ≤ s_nb σ ∧ s_nb σ ≤ 10 ∧ 0 ≤ s_nd σ ∧ s_nd σ ≤ 24 ∧ 0 ≤ s_np σ ∧ s_np σ ≤ 12 ∧ 0 ≤ s_sw σ ∧ s_sw σ ≤ 10 ∧ 0 ≤ s_jt σ ∧ s_jt σ ≤ 50 ∧ 0 ≤ s_nm σ ∧ s_nm σ ≤ 216 := h.1
theorem wf_b {σ : ST} (h : WF σ) (b : Int) (hb : 0 ≤ b ∧ b < s_nb σ) : 100 ≤ s_wo σ (3 * b) ∧ s_wo σ (3 * b) ≤ 3000 ∧ 10 ≤ s_wo σ (3 * b + 1) ∧ s_wo σ (3 * b + 1) ≤ 400 ∧ 0 ≤ s_wo σ (3 * b + 2) ∧ s_wo σ (3 * b + 2) ≤ 3 := h.2.1 b hb
theorem wf_d {σ : ST} (h : WF σ) (d : Int) (hd : 0 ≤ d ∧ d < s_nd σ) : 0 ≤ s_fl σ (4 * d) ∧ s_fl σ (4 * d) < s_nb σ ∧ 0 ≤ s_fl σ (4 * d + 1) ∧ s_fl σ (4 * d + 1) < s_fl σ (4 * d + 2) ∧ s_fl σ (4 * d + 2) ≤ s_wo σ (3 * s_fl σ (4 * d)) ∧ 1 ≤ s_fl σ (4 * d + 3) ∧ s_fl σ (4 * d + 3) ≤ 3 ∧ s_fl σ (4 * d + 2) ≤ 3000 := by
  have h1 := h.2.2.1 d hd
  have h2 := wf_b h (s_fl σ (4 * d)) ⟨h1.1, h1.2.1⟩
  omega
theorem wf_p {σ : ST} (h : WF σ) (p : Int) (hp : 0 ≤ p ∧ p < s_np σ) : 20 ≤ s_wa σ (4 * p + 0) ∧ s_wa σ (4 * p + 0) ≤ 3000 ∧ 10 ≤ s_wa σ (4 * p + 1) ∧ s_wa σ (4 * p + 1) ≤ 400 ∧ 0 ≤ s_wa σ (4 * p + 2) ∧ s_wa σ (4 * p + 2) ≤ 3 ∧ 0 ≤ s_wa σ (4 * p + 3) ∧ s_wa σ (4 * p + 3) ≤ 108 ∧ (s_mj σ p = 0 ∨ s_mj σ p = 1) := h.2.2.2.1 p hp
theorem wf_k {σ : ST} (h : WF σ) (k : Int) (hk : 0 ≤ k ∧ k < s_nm σ) : 0 ≤ s_cu σ (4 * k) ∧ s_cu σ (4 * k) < s_nb σ ∧ 0 ≤ s_cu σ (4 * k + 1) ∧ s_cu σ (4 * k + 1) < s_cu σ (4 * k + 2) ∧ s_cu σ (4 * k + 2) ≤ s_wo σ (3 * s_cu σ (4 * k)) ∧ 0 ≤ s_cu σ (4 * k + 3) ∧ s_cu σ (4 * k + 3) < s_np σ ∧ (s_aj σ k = 0 ∨ s_aj σ k = 1) ∧ s_cu σ (4 * k + 2) ≤ 3000 := by
  have h1 := h.2.2.2.2.1 k hk
  have h2 := wf_b h (s_cu σ (4 * k)) ⟨h1.1, h1.2.1⟩
  omega
/-- the check's own list holds the state: the addresses of its object and its rows are ρ 0 .. ρ 6 -/
def RM (T : ClassId × ClassId × ClassId × ClassId) (Λ : tmL) (ρ : Nat → Nat) (th sf se : Int) (σ : ST) : Prop :=
  Λ (ρ 0) = some (.inl (.inr (7, [.int (I th), .int (I (s_nb σ)), .ref (ρ 1), .int (I (s_nd σ)), .ref (ρ 2), .int (I (s_np σ)), .ref (ρ 3), .ref (ρ 4), .int (I (s_sw σ)), .int (I (s_jt σ)), .int (I (s_nm σ)), .ref (ρ 5), .ref (ρ 6), .int (I sf), .int (I se)]))) ∧
  Λ (ρ 1) = some (.inl (tm_ai T 30 (s_wo σ))) ∧ Λ (ρ 2) = some (.inl (tm_ai T 96 (s_fl σ))) ∧ Λ (ρ 3) = some (.inl (tm_ai T 48 (s_wa σ))) ∧ Λ (ρ 4) = some (.inl (tm_az T 12 (s_mj σ))) ∧ Λ (ρ 5) = some (.inl (tm_ai T 864 (s_cu σ))) ∧ Λ (ρ 6) = some (.inl (tm_az T 216 (s_aj σ))) ∧
  ∀ i j, i < 7 → j < 7 → i ≠ j → ρ i ≠ ρ j
end
section
set_option maxHeartbeats 4000000 in
set_option maxRecDepth 100000 in
theorem c_M_isIn (γ : tmG) (hst : γ.1.stackTraces = false) (h : (Nat → Prop) → tmL → Heap → Prop) (w : tmL) (u lo hi : Int) (hr : (-2147483648 ≤ u ∧ u ≤ 2147483647) ∧ (-2147483648 ≤ lo ∧ lo ≤ 2147483647) ∧ -2147483648 ≤ hi ∧ hi ≤ 2147483647) : tm_Con γ h M_X6_isIn 1 0 0 [.int (I (u)), .int (I (lo)), .int (I (hi))] w (fun v w' => w = w' ∧ v = some (.int (I (bi (lo ≤ u ∧ u ≤ hi))))) := by
  refine tm_con hst (by decide) (Nat.le_of_ble_eq_true rfl) (fun x hB hR => ?_)
  have hg := hB.1
  subst hg
  have hC : tm_C x cX6_isIn RX6 (some FieldType.boolean) := hB.2.2.2.1
  show tm_V x (h (tm_Fz x) w) 0 0 0 [(0, .int (I (u))), (1, .int (I (lo))), (2, .int (I (hi)))] []
  refine tm_iload_n 0 hC dX6_isIn_0 rfl rfl ?_
  refine tm_iload_n 1 hC dX6_isIn_1 rfl rfl ?_
  refine tm_icmp_lt 14 hC dX6_isIn_2 (by decide) (by omega) (fun c_2 => ?_) (fun c_2 => ?_)
  · refine tm_iconst hC dX6_isIn_14 ?_
    exact tm_zret hC hR dX6_isIn_15 (by omega) (⟨rfl, by rw [bi_f (by omega)]⟩)
  · refine tm_iload_n 0 hC dX6_isIn_5 rfl rfl ?_
    refine tm_iload_n 2 hC dX6_isIn_6 rfl rfl ?_
    refine tm_icmp_gt 14 hC dX6_isIn_7 (by decide) (by omega) (fun c_7 => ?_) (fun c_7 => ?_)
    · refine tm_iconst hC dX6_isIn_14 ?_
      exact tm_zret hC hR dX6_isIn_15 (by omega) (⟨rfl, by rw [bi_f (by omega)]⟩)
    · refine tm_iconst hC dX6_isIn_10 ?_
      refine tm_goto 15 hC dX6_isIn_11 (by decide) ?_
      exact tm_zret hC hR dX6_isIn_15 (by omega) (⟨rfl, by rw [bi_t (by omega)]⟩)

set_option maxHeartbeats 4000000 in
set_option maxRecDepth 100000 in
theorem c_M_thrown (γ : tmG) (hst : γ.1.stackTraces = false) (Λ : tmL) (ρ : Nat → Nat) (th sf se : Int) (σ : ST) (hM : RM γ.2.2.1 Λ ρ th sf se σ) (hw : WF σ) : tm_Con γ (tm_h2 γ.2.1 γ.2.2.1 γ.2.2.2.1) M_X6_thrown 1 0 0 [.ref (ρ 0)] Λ (fun v w' => Λ = w' ∧ v = some (.int (I (th)))) := by
  refine tm_con hst (by decide) (Nat.le_of_ble_eq_true rfl) (fun x hB hR => ?_)
  have hg := hB.1
  subst hg
  have hC : tm_C x cX6_thrown RX6 (some FieldType.int) := hB.2.2.2.1
  obtain ⟨hm0, hm1, hm2, hm3, hm4, hm5, hm6, hmd⟩ := id hM
  have hn := wf_n hw
  show tm_V x (tm_H x Λ) 0 0 0 [(0, .ref (ρ 0))] []
  refine tm_aload_n 0 hC dX6_thrown_0 rfl rfl ?_
  refine tm_getf2 hC f_X6_36 hm0 rfl dX6_thrown_1 ?_
  exact tm_iret hC hR dX6_thrown_4 (⟨rfl, rfl⟩)

set_option maxHeartbeats 4000000 in
set_option maxRecDepth 100000 in
theorem c_M_fail (γ : tmG) (hst : γ.1.stackTraces = false) (Λ : tmL) (ρ : Nat → Nat) (th sf se : Int) (σ : ST) (hM : RM γ.2.2.1 Λ ρ th sf se σ) (hw : WF σ) (k : Int) : tm_Con γ (tm_h2 γ.2.1 γ.2.2.1 γ.2.2.2.1) M_X6_fail 1 0 0 [.ref (ρ 0), .int (I (k))] Λ (fun v w' => RM γ.2.2.1 w' ρ k sf se σ ∧ v = some (.int (I 0))) := by
  refine tm_con hst (by decide) (Nat.le_of_ble_eq_true rfl) (fun x hB hR => ?_)
  have hg := hB.1
  subst hg
  have hC : tm_C x cX6_fail RX6 (some FieldType.int) := hB.2.2.2.1
  obtain ⟨hm0, hm1, hm2, hm3, hm4, hm5, hm6, hmd⟩ := id hM
  have hn := wf_n hw
  show tm_V x (tm_H x Λ) 0 0 0 [(0, .ref (ρ 0)), (1, .int (I (k)))] []
  refine tm_aload_n 0 hC dX6_fail_0 rfl rfl ?_
  refine tm_iload_n 1 hC dX6_fail_1 rfl rfl ?_
  refine tm_putf2 hC f_X6_36 hm0 (tt_7_0 _) (Nat.le_of_ble_eq_true rfl) dX6_fail_2 ?_
  obtain ⟨w1, hw2⟩ : ∃ z, z = tm_u2 Λ (ρ 0) (.inr (7, [.int (I (k)), .int (I (s_nb σ)), .ref (ρ 1), .int (I (s_nd σ)), .ref (ρ 2), .int (I (s_np σ)), .ref (ρ 3), .ref (ρ 4), .int (I (s_sw σ)), .int (I (s_jt σ)), .int (I (s_nm σ)), .ref (ρ 5), .ref (ρ 6), .int (I (sf)), .int (I (se))])) := ⟨_, rfl⟩
  show tm_V x (tm_H x (tm_u2 Λ (ρ 0) (.inr (7, [.int (I (k)), .int (I (s_nb σ)), .ref (ρ 1), .int (I (s_nd σ)), .ref (ρ 2), .int (I (s_np σ)), .ref (ρ 3), .ref (ρ 4), .int (I (s_sw σ)), .int (I (s_jt σ)), .int (I (s_nm σ)), .ref (ρ 5), .ref (ρ 6), .int (I (sf)), .int (I (se))])))) 0 0 5 [(0, .ref (ρ 0)), (1, .int (I (k)))] []
  rw [← hw2]
  have hw1_ρ_0 : w1 (ρ 0) = some (.inl (.inr (7, [.int (I (k)), .int (I (s_nb σ)), .ref (ρ 1), .int (I (s_nd σ)), .ref (ρ 2), .int (I (s_np σ)), .ref (ρ 3), .ref (ρ 4), .int (I (s_sw σ)), .int (I (s_jt σ)), .int (I (s_nm σ)), .ref (ρ 5), .ref (ρ 6), .int (I (sf)), .int (I (se))]))) := by rw [hw2]; first | done | exact tm_u2_s
  have hw1_ρ_1 := (show w1 (ρ 1) = _ by rw [hw2]; exact tm_u2_n (fun z => absurd (hm0.symm.trans (z ▸ hm1)) (by intro q; cases q))).trans hm1
  have hw1_ρ_2 := (show w1 (ρ 2) = _ by rw [hw2]; exact tm_u2_n (fun z => absurd (hm0.symm.trans (z ▸ hm2)) (by intro q; cases q))).trans hm2
  have hw1_ρ_3 := (show w1 (ρ 3) = _ by rw [hw2]; exact tm_u2_n (fun z => absurd (hm0.symm.trans (z ▸ hm3)) (by intro q; cases q))).trans hm3
  have hw1_ρ_4 := (show w1 (ρ 4) = _ by rw [hw2]; exact tm_u2_n (fun z => absurd (hm0.symm.trans (z ▸ hm4)) (by intro q; cases q))).trans hm4
  have hw1_ρ_5 := (show w1 (ρ 5) = _ by rw [hw2]; exact tm_u2_n (fun z => absurd (hm0.symm.trans (z ▸ hm5)) (by intro q; cases q))).trans hm5
  have hw1_ρ_6 := (show w1 (ρ 6) = _ by rw [hw2]; exact tm_u2_n (fun z => absurd (hm0.symm.trans (z ▸ hm6)) (by intro q; cases q))).trans hm6
  have hM_w1 : RM (tm_T x) w1 ρ k sf se σ := ⟨hw1_ρ_0, hw1_ρ_1, hw1_ρ_2, hw1_ρ_3, hw1_ρ_4, hw1_ρ_5, hw1_ρ_6, hmd⟩
  refine tm_iconst hC dX6_fail_5 ?_
  exact tm_iret hC hR dX6_fail_6 (⟨hM_w1, rfl⟩)

set_option maxHeartbeats 4000000 in
set_option maxRecDepth 100000 in
theorem c_M_isBoard (γ : tmG) (hst : γ.1.stackTraces = false) (Λ : tmL) (ρ : Nat → Nat) (th sf se : Int) (σ : ST) (hM : RM γ.2.2.1 Λ ρ th sf se σ) (hw : WF σ) (b : Int) (hb : -2147483648 ≤ b ∧ b ≤ 2147483647) : tm_Con γ (tm_h2 γ.2.1 γ.2.2.1 γ.2.2.2.1) M_X6_isBoard 2 0 0 [.ref (ρ 0), .int (I (b))] Λ (fun v w' => Λ = w' ∧ v = some (.int (I (bi (0 ≤ b ∧ b ≤ s_nb σ - 1))))) := by
  refine tm_con hst (by decide) (Nat.le_of_ble_eq_true rfl) (fun x hB hR => ?_)
  have hg := hB.1
  subst hg
  have hC : tm_C x cX6_isBoard RX6 (some FieldType.boolean) := hB.2.2.2.1
  obtain ⟨hm0, hm1, hm2, hm3, hm4, hm5, hm6, hmd⟩ := id hM
  have hn := wf_n hw
  show tm_V x (tm_H x Λ) 0 0 0 [(0, .ref (ρ 0)), (1, .int (I (b)))] []
  refine tm_iload_n 1 hC dX6_isBoard_0 rfl rfl ?_
  refine tm_iconst hC dX6_isBoard_1 ?_
  refine tm_aload_n 0 hC dX6_isBoard_2 rfl rfl ?_
  refine tm_getf2 hC f_X6_39 hm0 rfl dX6_isBoard_3 ?_
  refine tm_iconst hC dX6_isBoard_6 ?_
  refine tm_isub hC dX6_isBoard_7 ?_
  refine tm_callS (b := 0) (n := 0) (rest := []) hC (c_M_isIn (tm_g x) hst _ Λ b 0 ((s_nb σ) - 1) (by omega)) k_X6_42 (by rw [hB.2.2.1]; exact ⟨Nat.le_of_ble_eq_true rfl, Nat.le_of_ble_eq_true rfl⟩) rfl rfl (by decide) dX6_isBoard_8 (fun v_8 w_8 hp_8 => ?_)
  obtain ⟨rfl, rfl⟩ := hp_8
  show tm_V x (tm_H x Λ) 0 0 11 [(0, .ref (ρ 0)), (1, .int (I (b)))] [.int (I (bi (0 ≤ b ∧ b ≤ ((s_nb σ) - 1))))]
  exact tm_zret hC hR dX6_isBoard_11 (bi_01 _) (⟨rfl, rfl⟩)

set_option maxHeartbeats 4000000 in
set_option maxRecDepth 100000 in
theorem c_M_isPart (γ : tmG) (hst : γ.1.stackTraces = false) (Λ : tmL) (ρ : Nat → Nat) (th sf se : Int) (σ : ST) (hM : RM γ.2.2.1 Λ ρ th sf se σ) (hw : WF σ) (b : Int) (hb : -2147483648 ≤ b ∧ b ≤ 2147483647) : tm_Con γ (tm_h2 γ.2.1 γ.2.2.1 γ.2.2.2.1) M_X6_isPart 2 0 0 [.ref (ρ 0), .int (I (b))] Λ (fun v w' => Λ = w' ∧ v = some (.int (I (bi (0 ≤ b ∧ b ≤ s_np σ - 1))))) := by
  refine tm_con hst (by decide) (Nat.le_of_ble_eq_true rfl) (fun x hB hR => ?_)
  have hg := hB.1
  subst hg
  have hC : tm_C x cX6_isPart RX6 (some FieldType.boolean) := hB.2.2.2.1
  obtain ⟨hm0, hm1, hm2, hm3, hm4, hm5, hm6, hmd⟩ := id hM
  have hn := wf_n hw
  show tm_V x (tm_H x Λ) 0 0 0 [(0, .ref (ρ 0)), (1, .int (I (b)))] []
  refine tm_iload_n 1 hC dX6_isPart_0 rfl rfl ?_
  refine tm_iconst hC dX6_isPart_1 ?_
  refine tm_aload_n 0 hC dX6_isPart_2 rfl rfl ?_
  refine tm_getf2 hC f_X6_46 hm0 rfl dX6_isPart_3 ?_
  refine tm_iconst hC dX6_isPart_6 ?_
  refine tm_isub hC dX6_isPart_7 ?_
  refine tm_callS (b := 0) (n := 0) (rest := []) hC (c_M_isIn (tm_g x) hst _ Λ b 0 ((s_np σ) - 1) (by omega)) k_X6_42 (by rw [hB.2.2.1]; exact ⟨Nat.le_of_ble_eq_true rfl, Nat.le_of_ble_eq_true rfl⟩) rfl rfl (by decide) dX6_isPart_8 (fun v_8 w_8 hp_8 => ?_)
  obtain ⟨rfl, rfl⟩ := hp_8
  show tm_V x (tm_H x Λ) 0 0 11 [(0, .ref (ρ 0)), (1, .int (I (b)))] [.int (I (bi (0 ≤ b ∧ b ≤ ((s_np σ) - 1))))]
  exact tm_zret hC hR dX6_isPart_11 (bi_01 _) (⟨rfl, rfl⟩)

set_option maxHeartbeats 4000000 in
set_option maxRecDepth 100000 in
theorem c_M_length (γ : tmG) (hst : γ.1.stackTraces = false) (Λ : tmL) (ρ : Nat → Nat) (th sf se : Int) (σ : ST) (hM : RM γ.2.2.1 Λ ρ th sf se σ) (hw : WF σ) (b : Int) (hb : 0 ≤ b ∧ b < s_nb σ) : tm_Con γ (tm_h2 γ.2.1 γ.2.2.1 γ.2.2.2.1) M_X6_length 1 0 0 [.ref (ρ 0), .int (I (b))] Λ (fun v w' => Λ = w' ∧ v = some (.int (I (s_wo σ (3 * b)))) ∧ 100 ≤ s_wo σ (3 * b) ∧ s_wo σ (3 * b) ≤ 3000) := by
  refine tm_con hst (by decide) (Nat.le_of_ble_eq_true rfl) (fun x hB hR => ?_)
  have hg := hB.1
  subst hg
  have hC : tm_C x cX6_length RX6 (some FieldType.int) := hB.2.2.2.1
  obtain ⟨hm0, hm1, hm2, hm3, hm4, hm5, hm6, hmd⟩ := id hM
  have hn := wf_n hw
  show tm_V x (tm_H x Λ) 0 0 0 [(0, .ref (ρ 0)), (1, .int (I (b)))] []
  refine tm_aload_n 0 hC dX6_length_0 rfl rfl ?_
  refine tm_getf2 hC f_X6_9 hm0 rfl dX6_length_1 ?_
  refine tm_iconst hC dX6_length_4 ?_
  refine tm_iload_n 1 hC dX6_length_5 rfl rfl ?_
  refine tm_imul hC dX6_length_6 ?_
  refine tm_iald2 hC hm1 (by omega) dX6_length_7 ?_
  exact tm_iret hC hR dX6_length_8 (⟨rfl, rfl, by have := wf_b hw b hb; omega⟩)

set_option maxHeartbeats 4000000 in
set_option maxRecDepth 100000 in
theorem c_M_width (γ : tmG) (hst : γ.1.stackTraces = false) (Λ : tmL) (ρ : Nat → Nat) (th sf se : Int) (σ : ST) (hM : RM γ.2.2.1 Λ ρ th sf se σ) (hw : WF σ) (b : Int) (hb : 0 ≤ b ∧ b < s_nb σ) : tm_Con γ (tm_h2 γ.2.1 γ.2.2.1 γ.2.2.2.1) M_X6_width 1 0 0 [.ref (ρ 0), .int (I (b))] Λ (fun v w' => Λ = w' ∧ v = some (.int (I (s_wo σ (3 * b + 1)))) ∧ 10 ≤ s_wo σ (3 * b + 1) ∧ s_wo σ (3 * b + 1) ≤ 400) := by
  refine tm_con hst (by decide) (Nat.le_of_ble_eq_true rfl) (fun x hB hR => ?_)
  have hg := hB.1
  subst hg
  have hC : tm_C x cX6_width RX6 (some FieldType.int) := hB.2.2.2.1
  obtain ⟨hm0, hm1, hm2, hm3, hm4, hm5, hm6, hmd⟩ := id hM
  have hn := wf_n hw
  show tm_V x (tm_H x Λ) 0 0 0 [(0, .ref (ρ 0)), (1, .int (I (b)))] []
  refine tm_aload_n 0 hC dX6_width_0 rfl rfl ?_
  refine tm_getf2 hC f_X6_9 hm0 rfl dX6_width_1 ?_
  refine tm_iconst hC dX6_width_4 ?_
  refine tm_iload_n 1 hC dX6_width_5 rfl rfl ?_
  refine tm_imul hC dX6_width_6 ?_
  refine tm_iconst hC dX6_width_7 ?_
  refine tm_iadd hC dX6_width_8 ?_
  refine tm_iald2 hC hm1 (by omega) dX6_width_9 ?_
  exact tm_iret hC hR dX6_width_10 (⟨rfl, rfl, by have := wf_b hw b hb; omega⟩)

set_option maxHeartbeats 4000000 in
set_option maxRecDepth 100000 in
theorem c_M_want (γ : tmG) (hst : γ.1.stackTraces = false) (Λ : tmL) (ρ : Nat → Nat) (th sf se : Int) (σ : ST) (hM : RM γ.2.2.1 Λ ρ th sf se σ) (hw : WF σ) (p : Int) (hp : 0 ≤ p ∧ p < s_np σ) (w : Int) (hw4 : 0 ≤ w ∧ w < 4) : tm_Con γ (tm_h2 γ.2.1 γ.2.2.1 γ.2.2.2.1) M_X6_want 1 0 0 [.ref (ρ 0), .int (I (p)), .int (I (w))] Λ (fun v w' => Λ = w' ∧ v = some (.int (I (s_wa σ (4 * p + w)))) ∧ 0 ≤ s_wa σ (4 * p + w) ∧ s_wa σ (4 * p + w) ≤ 3000) := by
  refine tm_con hst (by decide) (Nat.le_of_ble_eq_true rfl) (fun x hB hR => ?_)
  have hg := hB.1
  subst hg
  have hC : tm_C x cX6_want RX6 (some FieldType.int) := hB.2.2.2.1
  obtain ⟨hm0, hm1, hm2, hm3, hm4, hm5, hm6, hmd⟩ := id hM
  have hn := wf_n hw
  show tm_V x (tm_H x Λ) 0 0 0 [(0, .ref (ρ 0)), (1, .int (I (p))), (2, .int (I (w)))] []
  refine tm_aload_n 0 hC dX6_want_0 rfl rfl ?_
  refine tm_getf2 hC f_X6_16 hm0 rfl dX6_want_1 ?_
  refine tm_iconst hC dX6_want_4 ?_
  refine tm_iload_n 1 hC dX6_want_5 rfl rfl ?_
  refine tm_imul hC dX6_want_6 ?_
  refine tm_iload_n 2 hC dX6_want_7 rfl rfl ?_
  refine tm_iadd hC dX6_want_8 ?_
  refine tm_iald2 hC hm3 (by omega) dX6_want_9 ?_
  exact tm_iret hC hR dX6_want_10 (⟨rfl, rfl, by have := wf_p hw p hp; rcases (show w = 0 ∨ w = 1 ∨ w = 2 ∨ w = 3 by omega) with rfl | rfl | rfl | rfl <;> omega⟩)

set_option maxHeartbeats 4000000 in
set_option maxRecDepth 100000 in
theorem c_M_isOn (γ : tmG) (hst : γ.1.stackTraces = false) (Λ : tmL) (ρ : Nat → Nat) (th sf se : Int) (σ : ST) (hM : RM γ.2.2.1 Λ ρ th sf se σ) (hw : WF σ) (k : Int) (hk : 0 ≤ k ∧ k < s_nm σ) (b : Int) (hb : -2147483648 ≤ b ∧ b ≤ 2147483647) : tm_Con γ (tm_h2 γ.2.1 γ.2.2.1 γ.2.2.2.1) M_X6_isOn 1 0 0 [.ref (ρ 0), .int (I (k)), .int (I (b))] Λ (fun v w' => Λ = w' ∧ v = some (.int (I (bi (s_cu σ (4 * k) = b)))) ∧ 0 ≤ s_cu σ (4 * k) ∧ s_cu σ (4 * k) < s_nb σ) := by
  refine tm_con hst (by decide) (Nat.le_of_ble_eq_true rfl) (fun x hB hR => ?_)
  have hg := hB.1
  subst hg
  have hC : tm_C x cX6_isOn RX6 (some FieldType.boolean) := hB.2.2.2.1
  obtain ⟨hm0, hm1, hm2, hm3, hm4, hm5, hm6, hmd⟩ := id hM
  have hn := wf_n hw
  have hk9 := wf_k hw k hk
  show tm_V x (tm_H x Λ) 0 0 0 [(0, .ref (ρ 0)), (1, .int (I (k))), (2, .int (I (b)))] []
  refine tm_aload_n 0 hC dX6_isOn_0 rfl rfl ?_
  refine tm_getf2 hC f_X6_30 hm0 rfl dX6_isOn_1 ?_
  refine tm_iconst hC dX6_isOn_4 ?_
  refine tm_iload_n 1 hC dX6_isOn_5 rfl rfl ?_
  refine tm_imul hC dX6_isOn_6 ?_
  refine tm_iald2 hC hm5 (by omega) dX6_isOn_7 ?_
  refine tm_iload_n 2 hC dX6_isOn_8 rfl rfl ?_
  refine tm_icmp_ne 16 hC dX6_isOn_9 (by decide) (by omega) (fun c_9 => ?_) (fun c_9 => ?_)
  · refine tm_iconst hC dX6_isOn_16 ?_
    exact tm_zret hC hR dX6_isOn_17 (by omega) (⟨rfl, by rw [bi_f (by omega)], by omega⟩)
  · refine tm_iconst hC dX6_isOn_12 ?_
    refine tm_goto 17 hC dX6_isOn_13 (by decide) ?_
    exact tm_zret hC hR dX6_isOn_17 (by omega) (⟨rfl, by rw [bi_t (by omega)], by omega⟩)

set_option maxHeartbeats 4000000 in
set_option maxRecDepth 100000 in
theorem c_M_from (γ : tmG) (hst : γ.1.stackTraces = false) (Λ : tmL) (ρ : Nat → Nat) (th sf se : Int) (σ : ST) (hM : RM γ.2.2.1 Λ ρ th sf se σ) (hw : WF σ) (k : Int) (hk : 0 ≤ k ∧ k < s_nm σ) : tm_Con γ (tm_h2 γ.2.1 γ.2.2.1 γ.2.2.2.1) M_X6_from 1 0 0 [.ref (ρ 0), .int (I (k))] Λ (fun v w' => Λ = w' ∧ v = some (.int (I (s_cu σ (4 * k + 1)))) ∧ 0 ≤ s_cu σ (4 * k + 1) ∧ s_cu σ (4 * k + 1) ≤ 3000) := by
  refine tm_con hst (by decide) (Nat.le_of_ble_eq_true rfl) (fun x hB hR => ?_)
  have hg := hB.1
  subst hg
  have hC : tm_C x cX6_from RX6 (some FieldType.int) := hB.2.2.2.1
  obtain ⟨hm0, hm1, hm2, hm3, hm4, hm5, hm6, hmd⟩ := id hM
  have hn := wf_n hw
  show tm_V x (tm_H x Λ) 0 0 0 [(0, .ref (ρ 0)), (1, .int (I (k)))] []
  refine tm_aload_n 0 hC dX6_from_0 rfl rfl ?_
  refine tm_getf2 hC f_X6_30 hm0 rfl dX6_from_1 ?_
  refine tm_iconst hC dX6_from_4 ?_
  refine tm_iload_n 1 hC dX6_from_5 rfl rfl ?_
  refine tm_imul hC dX6_from_6 ?_
  refine tm_iconst hC dX6_from_7 ?_
  refine tm_iadd hC dX6_from_8 ?_
  refine tm_iald2 hC hm5 (by omega) dX6_from_9 ?_
  exact tm_iret hC hR dX6_from_10 (⟨rfl, rfl, by have := wf_k hw k hk; omega⟩)

set_option maxHeartbeats 4000000 in
set_option maxRecDepth 100000 in
theorem c_M_to (γ : tmG) (hst : γ.1.stackTraces = false) (Λ : tmL) (ρ : Nat → Nat) (th sf se : Int) (σ : ST) (hM : RM γ.2.2.1 Λ ρ th sf se σ) (hw : WF σ) (k : Int) (hk : 0 ≤ k ∧ k < s_nm σ) : tm_Con γ (tm_h2 γ.2.1 γ.2.2.1 γ.2.2.2.1) M_X6_to 1 0 0 [.ref (ρ 0), .int (I (k))] Λ (fun v w' => Λ = w' ∧ v = some (.int (I (s_cu σ (4 * k + 2)))) ∧ 0 ≤ s_cu σ (4 * k + 2) ∧ s_cu σ (4 * k + 2) ≤ 3000) := by
  refine tm_con hst (by decide) (Nat.le_of_ble_eq_true rfl) (fun x hB hR => ?_)
  have hg := hB.1
  subst hg
  have hC : tm_C x cX6_to RX6 (some FieldType.int) := hB.2.2.2.1
  obtain ⟨hm0, hm1, hm2, hm3, hm4, hm5, hm6, hmd⟩ := id hM
  have hn := wf_n hw
  show tm_V x (tm_H x Λ) 0 0 0 [(0, .ref (ρ 0)), (1, .int (I (k)))] []
  refine tm_aload_n 0 hC dX6_to_0 rfl rfl ?_
  refine tm_getf2 hC f_X6_30 hm0 rfl dX6_to_1 ?_
  refine tm_iconst hC dX6_to_4 ?_
  refine tm_iload_n 1 hC dX6_to_5 rfl rfl ?_
  refine tm_imul hC dX6_to_6 ?_
  refine tm_iconst hC dX6_to_7 ?_
  refine tm_iadd hC dX6_to_8 ?_
  refine tm_iald2 hC hm5 (by omega) dX6_to_9 ?_
  exact tm_iret hC hR dX6_to_10 (⟨rfl, rfl, by have := wf_k hw k hk; omega⟩)

set_option maxHeartbeats 4000000 in
set_option maxRecDepth 100000 in
theorem c_M_partOf (γ : tmG) (hst : γ.1.stackTraces = false) (Λ : tmL) (ρ : Nat → Nat) (th sf se : Int) (σ : ST) (hM : RM γ.2.2.1 Λ ρ th sf se σ) (hw : WF σ) (k : Int) (hk : 0 ≤ k ∧ k < s_nm σ) : tm_Con γ (tm_h2 γ.2.1 γ.2.2.1 γ.2.2.2.1) M_X6_partOf 1 0 0 [.ref (ρ 0), .int (I (k))] Λ (fun v w' => Λ = w' ∧ v = some (.int (I (s_cu σ (4 * k + 3)))) ∧ 0 ≤ s_cu σ (4 * k + 3) ∧ s_cu σ (4 * k + 3) < s_np σ) := by
  refine tm_con hst (by decide) (Nat.le_of_ble_eq_true rfl) (fun x hB hR => ?_)
  have hg := hB.1
  subst hg
  have hC : tm_C x cX6_partOf RX6 (some FieldType.int) := hB.2.2.2.1
  obtain ⟨hm0, hm1, hm2, hm3, hm4, hm5, hm6, hmd⟩ := id hM
  have hn := wf_n hw
  show tm_V x (tm_H x Λ) 0 0 0 [(0, .ref (ρ 0)), (1, .int (I (k)))] []
  refine tm_aload_n 0 hC dX6_partOf_0 rfl rfl ?_
  refine tm_getf2 hC f_X6_30 hm0 rfl dX6_partOf_1 ?_
  refine tm_iconst hC dX6_partOf_4 ?_
  refine tm_iload_n 1 hC dX6_partOf_5 rfl rfl ?_
  refine tm_imul hC dX6_partOf_6 ?_
  refine tm_iconst hC dX6_partOf_7 ?_
  refine tm_iadd hC dX6_partOf_8 ?_
  refine tm_iald2 hC hm5 (by omega) dX6_partOf_9 ?_
  exact tm_iret hC hR dX6_partOf_10 (⟨rfl, rfl, by have := wf_k hw k hk; omega⟩)

/-- the grade at a place: the greatest one of that of the board and those of all defects there -/
def isGr (σ : ST) (b pl r : Int) : Prop := s_wo σ (3 * b + 2) ≤ r ∧ (∀ d, 0 ≤ d ∧ d < s_nd σ → s_fl σ (4 * d) = b → s_fl σ (4 * d + 1) ≤ pl → pl < s_fl σ (4 * d + 2) → s_fl σ (4 * d + 3) ≤ r) ∧ (r = s_wo σ (3 * b + 2) ∨ ∃ d, (0 ≤ d ∧ d < s_nd σ) ∧ s_fl σ (4 * d) = b ∧ s_fl σ (4 * d + 1) ≤ pl ∧ pl < s_fl σ (4 * d + 2) ∧ s_fl σ (4 * d + 3) = r)
theorem isGr_u {σ : ST} {b pl r r' : Int} (h : isGr σ b pl r) (h' : isGr σ b pl r') : r = r' := by
  obtain ⟨h1, h2, h3⟩ := h
  obtain ⟨g1, g2, g3⟩ := h'
  have a1 : r ≤ r' := by
    rcases h3 with h3 | ⟨d, hd, e1, e2, e3, e4⟩
    · omega
    · have := g2 d hd e1 e2 e3; omega
  have a2 : r' ≤ r := by
    rcases g3 with h3 | ⟨d, hd, e1, e2, e3, e4⟩
    · omega
    · have := h2 d hd e1 e2 e3; omega
  omega
/-- .. of the first n defects -/
def isGrN (σ : ST) (b pl n r : Int) : Prop := s_wo σ (3 * b + 2) ≤ r ∧ (∀ d, 0 ≤ d ∧ d < n → s_fl σ (4 * d) = b → s_fl σ (4 * d + 1) ≤ pl → pl < s_fl σ (4 * d + 2) → s_fl σ (4 * d + 3) ≤ r) ∧ (r = s_wo σ (3 * b + 2) ∨ ∃ d, (0 ≤ d ∧ d < n) ∧ s_fl σ (4 * d) = b ∧ s_fl σ (4 * d + 1) ≤ pl ∧ pl < s_fl σ (4 * d + 2) ∧ s_fl σ (4 * d + 3) = r)
theorem isGrN_skip {σ : ST} {b pl n r : Int} (h : isGrN σ b pl n r) (hn : s_fl σ (4 * n) = b → s_fl σ (4 * n + 1) ≤ pl → pl < s_fl σ (4 * n + 2) → False) : isGrN σ b pl (n + 1) r := by
  obtain ⟨h1, h2, h3⟩ := h
  refine ⟨h1, fun d hd e1 e2 e3 => ?_, ?_⟩
  · by_cases hdn : d = n
    · subst hdn; exact (hn e1 e2 e3).elim
    · exact h2 d (by omega) e1 e2 e3
  · rcases h3 with h3 | ⟨d, hd, e⟩
    · exact Or.inl h3
    · exact Or.inr ⟨d, by omega, e⟩
theorem isGrN_take {σ : ST} {b pl n r : Int} (h0 : 0 ≤ n) (h : isGrN σ b pl n r) (e1 : s_fl σ (4 * n) = b) (e2 : s_fl σ (4 * n + 1) ≤ pl) (e3 : pl < s_fl σ (4 * n + 2)) : isGrN σ b pl (n + 1) (max r (s_fl σ (4 * n + 3))) := by
  obtain ⟨h1, h2, h3⟩ := h
  refine ⟨by omega, fun d hd f1 f2 f3 => ?_, ?_⟩
  · by_cases hdn : d = n
    · subst hdn; omega
    · have := h2 d (by omega) f1 f2 f3; omega
  · by_cases hm : s_fl σ (4 * n + 3) ≤ r
    · rw [show max r (s_fl σ (4 * n + 3)) = r by omega]
      rcases h3 with h3 | ⟨d, hd, e⟩
      · exact Or.inl h3
      · exact Or.inr ⟨d, by omega, e⟩
    · exact Or.inr ⟨n, by omega, e1, e2, e3, by omega⟩
theorem isGr_of {σ : ST} {b pl d r : Int} (h : isGrN σ b pl d r) (e : s_nd σ ≤ d) (e2 : d ≤ s_nd σ) : isGr σ b pl r := by
  have e3 : d = s_nd σ := by omega
  subst e3
  exact h

set_option maxHeartbeats 4000000 in
set_option maxRecDepth 100000 in
theorem c_M_gradeAt (γ : tmG) (hst : γ.1.stackTraces = false) (Λ : tmL) (ρ : Nat → Nat) (th sf se : Int) (σ : ST) (hM : RM γ.2.2.1 Λ ρ th sf se σ) (hw : WF σ) (b : Int) (hb : 0 ≤ b ∧ b < s_nb σ) (pl : Int) (hpl : -2147483647 ≤ pl ∧ pl ≤ 2147483646) : tm_Con γ (tm_h2 γ.2.1 γ.2.2.1 γ.2.2.2.1) M_X6_gradeAt 2 0 0 [.ref (ρ 0), .int (I (b)), .int (I (pl))] Λ (fun v w' => Λ = w' ∧ ∃ r, v = some (.int (I r)) ∧ isGr σ b pl r ∧ 0 ≤ r ∧ r ≤ 3) := by
  refine tm_con hst (by decide) (Nat.le_of_ble_eq_true rfl) (fun x hB hR => ?_)
  have hg := hB.1
  subst hg
  have hC : tm_C x cX6_gradeAt RX6 (some FieldType.int) := hB.2.2.2.1
  obtain ⟨hm0, hm1, hm2, hm3, hm4, hm5, hm6, hmd⟩ := id hM
  have hn := wf_n hw
  have hb9 := wf_b hw b hb
  show tm_V x (tm_H x Λ) 0 0 0 [(0, .ref (ρ 0)), (1, .int (I (b))), (2, .int (I (pl)))] []
  refine tm_aload_n 0 hC dX6_gradeAt_0 rfl rfl ?_
  refine tm_getf2 hC f_X6_9 hm0 rfl dX6_gradeAt_1 ?_
  refine tm_iconst hC dX6_gradeAt_4 ?_
  refine tm_iload_n 1 hC dX6_gradeAt_5 rfl rfl ?_
  refine tm_imul hC dX6_gradeAt_6 ?_
  refine tm_iconst hC dX6_gradeAt_7 ?_
  refine tm_iadd hC dX6_gradeAt_8 ?_
  refine tm_iald2 hC hm1 (by omega) dX6_gradeAt_9 ?_
  refine tm_istore_n [(3, .int (I ((s_wo σ) ((3 * b) + 2)))), (0, .ref (ρ 0)), (1, .int (I (b))), (2, .int (I (pl)))] hC dX6_gradeAt_10 rfl (by rw [hB.2.1]; exact Nat.le_of_ble_eq_true rfl) rfl ?_
  refine tm_iconst hC dX6_gradeAt_11 ?_
  refine tm_istore [(4, .int (I (0))), (3, .int (I ((s_wo σ) ((3 * b) + 2)))), (0, .ref (ρ 0)), (1, .int (I (b))), (2, .int (I (pl)))] hC dX6_gradeAt_12 (by rw [hB.2.1]; exact Nat.le_of_ble_eq_true rfl) rfl ?_
  have hL_14 : ∀ (fu : Nat) (r : Int) (d : Int), ((0 ≤ d ∧ d ≤ s_nd σ) ∧ isGrN σ b pl d r ∧ 0 ≤ r ∧ r ≤ 3) → ((s_nd σ - d).toNat) < fu → tm_V x (tm_H x Λ) 0 0 14 [(0, .ref (ρ 0)), (1, .int (I (b))), (2, .int (I (pl))), (3, .int (I (r))), (4, .int (I (d)))] [] := by
    intro fu
    induction fu with
    | zero => intro r d hinv hm; exact absurd hm (Nat.not_lt_zero _)
    | succ fu ih_14 =>
      intro r d hinv_14 hm_14
      obtain ⟨hd, hg, hr0⟩ := hinv_14
      refine tm_iload 4 hC dX6_gradeAt_14 rfl ?_
      refine tm_aload_n 0 hC dX6_gradeAt_16 rfl rfl ?_
      refine tm_getf2 hC f_X6_60 hm0 rfl dX6_gradeAt_17 ?_
      refine tm_icmp_ge 89 hC dX6_gradeAt_20 (by decide) (by omega) (fun c_20 => ?_) (fun c_20 => ?_)
      · refine tm_iload_n 3 hC dX6_gradeAt_89 rfl rfl ?_
        exact tm_iret hC hR dX6_gradeAt_90 (⟨rfl, r, rfl, isGr_of hg (by omega) (by omega), hr0⟩)
      · have hd9 := wf_d hw d (by omega)
        refine tm_aload_n 0 hC dX6_gradeAt_23 rfl rfl ?_
        refine tm_getf2 hC f_X6_13 hm0 rfl dX6_gradeAt_24 ?_
        refine tm_iconst hC dX6_gradeAt_27 ?_
        refine tm_iload 4 hC dX6_gradeAt_28 rfl ?_
        refine tm_imul hC dX6_gradeAt_30 ?_
        refine tm_iald2 hC hm2 (by omega) dX6_gradeAt_31 ?_
        refine tm_iload_n 1 hC dX6_gradeAt_32 rfl rfl ?_
        refine tm_icmp_ne 83 hC dX6_gradeAt_33 (by decide) (by omega) (fun c_33 => ?_) (fun c_33 => ?_)
        · refine tm_iinc 4 [(4, .int (I (d + 1))), (0, .ref (ρ 0)), (1, .int (I (b))), (2, .int (I (pl))), (3, .int (I (r)))] hC dX6_gradeAt_83 rfl (by rw [hB.2.1]; exact Nat.le_of_ble_eq_true rfl) rfl ?_
          refine tm_goto 14 hC dX6_gradeAt_86 (by decide) ?_
          refine tm_sub (L' := [(0, .ref (ρ 0)), (1, .int (I (b))), (2, .int (I (pl))), (3, .int (I (r))), (4, .int (I (d + 1)))]) [1, 2, 3, 4, 0] rfl ?_
          exact ih_14  r (d + 1) (⟨by omega, isGrN_skip hg (fun e _ _ => c_33 e), by omega, by omega⟩) (by omega)
        · refine tm_iload_n 2 hC dX6_gradeAt_36 rfl rfl ?_
          refine tm_aload_n 0 hC dX6_gradeAt_37 rfl rfl ?_
          refine tm_getf2 hC f_X6_13 hm0 rfl dX6_gradeAt_38 ?_
          refine tm_iconst hC dX6_gradeAt_41 ?_
          refine tm_iload 4 hC dX6_gradeAt_42 rfl ?_
          refine tm_imul hC dX6_gradeAt_44 ?_
          refine tm_iconst hC dX6_gradeAt_45 ?_
          refine tm_iadd hC dX6_gradeAt_46 ?_
          refine tm_iald2 hC hm2 (by omega) dX6_gradeAt_47 ?_
          refine tm_aload_n 0 hC dX6_gradeAt_48 rfl rfl ?_
          refine tm_getf2 hC f_X6_13 hm0 rfl dX6_gradeAt_49 ?_
          refine tm_iconst hC dX6_gradeAt_52 ?_
          refine tm_iload 4 hC dX6_gradeAt_53 rfl ?_
          refine tm_imul hC dX6_gradeAt_55 ?_
          refine tm_iconst hC dX6_gradeAt_56 ?_
          refine tm_iadd hC dX6_gradeAt_57 ?_
          refine tm_iald2 hC hm2 (by omega) dX6_gradeAt_58 ?_
          refine tm_iconst hC dX6_gradeAt_59 ?_
          refine tm_isub hC dX6_gradeAt_60 ?_
          refine tm_callS (b := 0) (n := 0) (rest := []) hC (c_M_isIn (tm_g x) hst _ Λ pl ((s_fl σ) ((4 * d) + 1)) (((s_fl σ) ((4 * d) + 2)) - 1) (by omega)) k_X6_42 (by rw [hB.2.2.1]; exact ⟨Nat.le_of_ble_eq_true rfl, Nat.le_of_ble_eq_true rfl⟩) rfl rfl (by decide) dX6_gradeAt_61 (fun v_61 w_61 hp_61 => ?_)
          obtain ⟨rfl, rfl⟩ := hp_61
          show tm_V x (tm_H x Λ) 0 0 64 [(0, .ref (ρ 0)), (1, .int (I (b))), (2, .int (I (pl))), (3, .int (I (r))), (4, .int (I (d)))] [.int (I (bi (((s_fl σ) ((4 * d) + 1)) ≤ pl ∧ pl ≤ (((s_fl σ) ((4 * d) + 2)) - 1))))]
          refine tm_ifb_eq 83 hC dX6_gradeAt_64 (by decide) (fun c_64 => ?_) (fun c_64 => ?_)
          · refine tm_iinc 4 [(4, .int (I (d + 1))), (0, .ref (ρ 0)), (1, .int (I (b))), (2, .int (I (pl))), (3, .int (I (r)))] hC dX6_gradeAt_83 rfl (by rw [hB.2.1]; exact Nat.le_of_ble_eq_true rfl) rfl ?_
            refine tm_goto 14 hC dX6_gradeAt_86 (by decide) ?_
            refine tm_sub (L' := [(0, .ref (ρ 0)), (1, .int (I (b))), (2, .int (I (pl))), (3, .int (I (r))), (4, .int (I (d + 1)))]) [1, 2, 3, 4, 0] rfl ?_
            exact ih_14  r (d + 1) (⟨by omega, isGrN_skip hg (fun e1 e2 e3 => c_64 ⟨e2, by omega⟩), by omega, by omega⟩) (by omega)
          · refine tm_iload_n 3 hC dX6_gradeAt_67 rfl rfl ?_
            refine tm_aload_n 0 hC dX6_gradeAt_68 rfl rfl ?_
            refine tm_getf2 hC f_X6_13 hm0 rfl dX6_gradeAt_69 ?_
            refine tm_iconst hC dX6_gradeAt_72 ?_
            refine tm_iload 4 hC dX6_gradeAt_73 rfl ?_
            refine tm_imul hC dX6_gradeAt_75 ?_
            refine tm_iconst hC dX6_gradeAt_76 ?_
            refine tm_iadd hC dX6_gradeAt_77 ?_
            refine tm_iald2 hC hm2 (by omega) dX6_gradeAt_78 ?_
            refine tm_mm hC true x_X6_83 (by omega) (by rw [hB.2.2.1]; exact ⟨Nat.le_of_ble_eq_true rfl, Nat.le_of_ble_eq_true rfl⟩) ((by decide)) dX6_gradeAt_79 ?_
            show tm_V x (tm_H x Λ) 0 0 82 [(0, .ref (ρ 0)), (1, .int (I (b))), (2, .int (I (pl))), (3, .int (I (r))), (4, .int (I (d)))] [.int (I (max r ((s_fl σ) ((4 * d) + 3))))]
            refine tm_istore_n [(3, .int (I (max r ((s_fl σ) ((4 * d) + 3))))), (0, .ref (ρ 0)), (1, .int (I (b))), (2, .int (I (pl))), (4, .int (I (d)))] hC dX6_gradeAt_82 rfl (by rw [hB.2.1]; exact Nat.le_of_ble_eq_true rfl) rfl ?_
            refine tm_iinc 4 [(4, .int (I (d + 1))), (3, .int (I (max r ((s_fl σ) ((4 * d) + 3))))), (0, .ref (ρ 0)), (1, .int (I (b))), (2, .int (I (pl)))] hC dX6_gradeAt_83 rfl (by rw [hB.2.1]; exact Nat.le_of_ble_eq_true rfl) rfl ?_
            refine tm_goto 14 hC dX6_gradeAt_86 (by decide) ?_
            refine tm_sub (L' := [(0, .ref (ρ 0)), (1, .int (I (b))), (2, .int (I (pl))), (3, .int (I (max r ((s_fl σ) ((4 * d) + 3))))), (4, .int (I (d + 1)))]) [2, 3, 4, 1, 0] rfl ?_
            exact ih_14  (max r ((s_fl σ) ((4 * d) + 3))) (d + 1) (⟨by omega, isGrN_take (by omega) hg c_33 c_64.1 (by omega), by omega, by omega⟩) (by omega)
  refine tm_sub (L' := [(0, .ref (ρ 0)), (1, .int (I (b))), (2, .int (I (pl))), (3, .int (I ((s_wo σ) ((3 * b) + 2)))), (4, .int (I (0)))]) [2, 3, 4, 1, 0] rfl ?_
  exact hL_14 _ ((s_wo σ) ((3 * b) + 2)) 0 (⟨by omega, ⟨by omega, fun d h => by omega, Or.inl rfl⟩, by omega, by omega⟩) (Nat.lt_succ_self _)

/-- the least change behind a place -/
def isNxN (σ : ST) (b fr n r : Int) : Prop := r ≤ s_wo σ (3 * b) ∧ fr < r ∧ (∀ d, 0 ≤ d ∧ d < n → s_fl σ (4 * d) = b → (fr < s_fl σ (4 * d + 1) → r ≤ s_fl σ (4 * d + 1)) ∧ (fr < s_fl σ (4 * d + 2) → r ≤ s_fl σ (4 * d + 2)))
theorem isNxN_skip {σ : ST} {b fr n r : Int} (h : isNxN σ b fr n r) (hn : ¬ s_fl σ (4 * n) = b) : isNxN σ b fr (n + 1) r := by
  obtain ⟨h1, h2, h3⟩ := h
  refine ⟨h1, h2, fun d hd e => ?_⟩
  by_cases hdn : d = n
  · subst hdn; exact absurd e hn
  · exact h3 d (by omega) e
theorem isNxN_take {σ : ST} {b fr n r r' : Int} (h : isNxN σ b fr n r) (h1 : r' ≤ r) (h2 : fr < r') (h3 : (fr < s_fl σ (4 * n + 1) → r' ≤ s_fl σ (4 * n + 1)) ∧ (fr < s_fl σ (4 * n + 2) → r' ≤ s_fl σ (4 * n + 2))) : isNxN σ b fr (n + 1) r' := by
  obtain ⟨g1, g2, g3⟩ := h
  refine ⟨by omega, h2, fun d hd e => ?_⟩
  by_cases hdn : d = n
  · subst hdn; exact h3
  · have := g3 d (by omega) e; omega
theorem isNx_of {σ : ST} {b fr d r : Int} (h : isNxN σ b fr d r) (e : s_nd σ ≤ d) (e2 : d ≤ s_nd σ) : isNxN σ b fr (s_nd σ) r := by
  have e3 : d = s_nd σ := by omega
  subst e3
  exact h

set_option maxHeartbeats 4000000 in
set_option maxRecDepth 100000 in
theorem c_M_nextChange (γ : tmG) (hst : γ.1.stackTraces = false) (Λ : tmL) (ρ : Nat → Nat) (th sf se : Int) (σ : ST) (hM : RM γ.2.2.1 Λ ρ th sf se σ) (hw : WF σ) (b : Int) (hb : 0 ≤ b ∧ b < s_nb σ) (fr : Int) (hfr : 0 ≤ fr ∧ fr < s_wo σ (3 * b)) : tm_Con γ (tm_h2 γ.2.1 γ.2.2.1 γ.2.2.2.1) M_X6_nextChange 2 0 0 [.ref (ρ 0), .int (I (b)), .int (I (fr))] Λ (fun v w' => Λ = w' ∧ ∃ r, v = some (.int (I r)) ∧ isNxN σ b fr (s_nd σ) r ∧ fr < r ∧ r ≤ 3000) := by
  refine tm_con hst (by decide) (Nat.le_of_ble_eq_true rfl) (fun x hB hR => ?_)
  have hg := hB.1
  subst hg
  have hC : tm_C x cX6_nextChange RX6 (some FieldType.int) := hB.2.2.2.1
  obtain ⟨hm0, hm1, hm2, hm3, hm4, hm5, hm6, hmd⟩ := id hM
  have hn := wf_n hw
  show tm_V x (tm_H x Λ) 0 0 0 [(0, .ref (ρ 0)), (1, .int (I (b))), (2, .int (I (fr)))] []
  refine tm_aload_n 0 hC dX6_nextChange_0 rfl rfl ?_
  refine tm_iload_n 1 hC dX6_nextChange_1 rfl rfl ?_
  refine tm_callV (b := 0) (n := 0) (rest := []) hC (c_M_length (tm_g x) hst Λ ρ th sf se σ hM hw b (by omega)) k_X6_57 (by rw [hB.2.2.1]; exact ⟨Nat.le_of_ble_eq_true rfl, Nat.le_of_ble_eq_true rfl⟩) rfl (tm_rec2 hC hm0 rfl) rfl (by decide) dX6_nextChange_2 (fun v_2 w_2 hp_2 => ?_)
  obtain ⟨rfl, rfl, hb_2⟩ := hp_2
  show tm_V x (tm_H x Λ) 0 0 5 [(0, .ref (ρ 0)), (1, .int (I (b))), (2, .int (I (fr)))] [.int (I (s_wo σ (3 * b)))]
  refine tm_istore_n [(3, .int (I (s_wo σ (3 * b)))), (0, .ref (ρ 0)), (1, .int (I (b))), (2, .int (I (fr)))] hC dX6_nextChange_5 rfl (by rw [hB.2.1]; exact Nat.le_of_ble_eq_true rfl) rfl ?_
  refine tm_iconst hC dX6_nextChange_6 ?_
  refine tm_istore [(4, .int (I (0))), (3, .int (I (s_wo σ (3 * b)))), (0, .ref (ρ 0)), (1, .int (I (b))), (2, .int (I (fr)))] hC dX6_nextChange_7 (by rw [hB.2.1]; exact Nat.le_of_ble_eq_true rfl) rfl ?_
  have hL_9 : ∀ (fu : Nat) (r : Int) (d : Int), ((0 ≤ d ∧ d ≤ s_nd σ) ∧ isNxN σ b fr d r ∧ fr < r ∧ r ≤ 3000) → ((s_nd σ - d).toNat) < fu → tm_V x (tm_H x Λ) 0 0 9 [(0, .ref (ρ 0)), (1, .int (I (b))), (2, .int (I (fr))), (3, .int (I (r))), (4, .int (I (d)))] [] := by
    intro fu
    induction fu with
    | zero => intro r d hinv hm; exact absurd hm (Nat.not_lt_zero _)
    | succ fu ih_9 =>
      intro r d hinv_9 hm_9
      obtain ⟨hd, hg, hr0⟩ := hinv_9
      refine tm_iload 4 hC dX6_nextChange_9 rfl ?_
      refine tm_aload_n 0 hC dX6_nextChange_11 rfl rfl ?_
      refine tm_getf2 hC f_X6_60 hm0 rfl dX6_nextChange_12 ?_
      refine tm_icmp_ge 102 hC dX6_nextChange_15 (by decide) (by omega) (fun c_15 => ?_) (fun c_15 => ?_)
      · refine tm_iload_n 3 hC dX6_nextChange_102 rfl rfl ?_
        exact tm_iret hC hR dX6_nextChange_103 (⟨rfl, r, rfl, isNx_of hg (by omega) (by omega), hr0⟩)
      · have hd9 := wf_d hw d (by omega)
        refine tm_aload_n 0 hC dX6_nextChange_18 rfl rfl ?_
        refine tm_getf2 hC f_X6_13 hm0 rfl dX6_nextChange_19 ?_
        refine tm_iconst hC dX6_nextChange_22 ?_
        refine tm_iload 4 hC dX6_nextChange_23 rfl ?_
        refine tm_imul hC dX6_nextChange_25 ?_
        refine tm_iald2 hC hm2 (by omega) dX6_nextChange_26 ?_
        refine tm_iload_n 1 hC dX6_nextChange_27 rfl rfl ?_
        refine tm_icmp_eq 34 hC dX6_nextChange_28 (by decide) (by omega) (fun c_28 => ?_) (fun c_28 => ?_)
        · refine tm_aload_n 0 hC dX6_nextChange_34 rfl rfl ?_
          refine tm_getf2 hC f_X6_13 hm0 rfl dX6_nextChange_35 ?_
          refine tm_iconst hC dX6_nextChange_38 ?_
          refine tm_iload 4 hC dX6_nextChange_39 rfl ?_
          refine tm_imul hC dX6_nextChange_41 ?_
          refine tm_iconst hC dX6_nextChange_42 ?_
          refine tm_iadd hC dX6_nextChange_43 ?_
          refine tm_iald2 hC hm2 (by omega) dX6_nextChange_44 ?_
          refine tm_iload_n 2 hC dX6_nextChange_45 rfl rfl ?_
          refine tm_icmp_le 65 hC dX6_nextChange_46 (by decide) (by omega) (fun c_46 => ?_) (fun c_46 => ?_)
          · refine tm_aload_n 0 hC dX6_nextChange_65 rfl rfl ?_
            refine tm_getf2 hC f_X6_13 hm0 rfl dX6_nextChange_66 ?_
            refine tm_iconst hC dX6_nextChange_69 ?_
            refine tm_iload 4 hC dX6_nextChange_70 rfl ?_
            refine tm_imul hC dX6_nextChange_72 ?_
            refine tm_iconst hC dX6_nextChange_73 ?_
            refine tm_iadd hC dX6_nextChange_74 ?_
            refine tm_iald2 hC hm2 (by omega) dX6_nextChange_75 ?_
            refine tm_iload_n 2 hC dX6_nextChange_76 rfl rfl ?_
            refine tm_icmp_le 96 hC dX6_nextChange_77 (by decide) (by omega) (fun c_77 => ?_) (fun c_77 => ?_)
            · refine tm_iinc 4 [(4, .int (I (d + 1))), (0, .ref (ρ 0)), (1, .int (I (b))), (2, .int (I (fr))), (3, .int (I (r)))] hC dX6_nextChange_96 rfl (by rw [hB.2.1]; exact Nat.le_of_ble_eq_true rfl) rfl ?_
              refine tm_goto 9 hC dX6_nextChange_99 (by decide) ?_
              refine tm_sub (L' := [(0, .ref (ρ 0)), (1, .int (I (b))), (2, .int (I (fr))), (3, .int (I (r))), (4, .int (I (d + 1)))]) [1, 2, 3, 4, 0] rfl ?_
              exact ih_9  r (d + 1) (⟨by omega, isNxN_take hg (by omega) (by omega) ⟨by omega, by omega⟩, by omega⟩) (by omega)
            · refine tm_iload_n 3 hC dX6_nextChange_80 rfl rfl ?_
              refine tm_aload_n 0 hC dX6_nextChange_81 rfl rfl ?_
              refine tm_getf2 hC f_X6_13 hm0 rfl dX6_nextChange_82 ?_
              refine tm_iconst hC dX6_nextChange_85 ?_
              refine tm_iload 4 hC dX6_nextChange_86 rfl ?_
              refine tm_imul hC dX6_nextChange_88 ?_
              refine tm_iconst hC dX6_nextChange_89 ?_
              refine tm_iadd hC dX6_nextChange_90 ?_
              refine tm_iald2 hC hm2 (by omega) dX6_nextChange_91 ?_
              refine tm_mm hC false x_X6_91 (by omega) (by rw [hB.2.2.1]; exact ⟨Nat.le_of_ble_eq_true rfl, Nat.le_of_ble_eq_true rfl⟩) ((by decide)) dX6_nextChange_92 ?_
              show tm_V x (tm_H x Λ) 0 0 95 [(0, .ref (ρ 0)), (1, .int (I (b))), (2, .int (I (fr))), (3, .int (I (r))), (4, .int (I (d)))] [.int (I (min r ((s_fl σ) ((4 * d) + 2))))]
              refine tm_istore_n [(3, .int (I (min r ((s_fl σ) ((4 * d) + 2))))), (0, .ref (ρ 0)), (1, .int (I (b))), (2, .int (I (fr))), (4, .int (I (d)))] hC dX6_nextChange_95 rfl (by rw [hB.2.1]; exact Nat.le_of_ble_eq_true rfl) rfl ?_
              refine tm_iinc 4 [(4, .int (I (d + 1))), (3, .int (I (min r ((s_fl σ) ((4 * d) + 2))))), (0, .ref (ρ 0)), (1, .int (I (b))), (2, .int (I (fr)))] hC dX6_nextChange_96 rfl (by rw [hB.2.1]; exact Nat.le_of_ble_eq_true rfl) rfl ?_
              refine tm_goto 9 hC dX6_nextChange_99 (by decide) ?_
              refine tm_sub (L' := [(0, .ref (ρ 0)), (1, .int (I (b))), (2, .int (I (fr))), (3, .int (I (min r ((s_fl σ) ((4 * d) + 2))))), (4, .int (I (d + 1)))]) [2, 3, 4, 1, 0] rfl ?_
              exact ih_9  (min r ((s_fl σ) ((4 * d) + 2))) (d + 1) (⟨by omega, isNxN_take hg (by omega) (by omega) ⟨by omega, by omega⟩, by omega⟩) (by omega)
          · refine tm_iload_n 3 hC dX6_nextChange_49 rfl rfl ?_
            refine tm_aload_n 0 hC dX6_nextChange_50 rfl rfl ?_
            refine tm_getf2 hC f_X6_13 hm0 rfl dX6_nextChange_51 ?_
            refine tm_iconst hC dX6_nextChange_54 ?_
            refine tm_iload 4 hC dX6_nextChange_55 rfl ?_
            refine tm_imul hC dX6_nextChange_57 ?_
            refine tm_iconst hC dX6_nextChange_58 ?_
            refine tm_iadd hC dX6_nextChange_59 ?_
            refine tm_iald2 hC hm2 (by omega) dX6_nextChange_60 ?_
            refine tm_mm hC false x_X6_91 (by omega) (by rw [hB.2.2.1]; exact ⟨Nat.le_of_ble_eq_true rfl, Nat.le_of_ble_eq_true rfl⟩) ((by decide)) dX6_nextChange_61 ?_
            show tm_V x (tm_H x Λ) 0 0 64 [(0, .ref (ρ 0)), (1, .int (I (b))), (2, .int (I (fr))), (3, .int (I (r))), (4, .int (I (d)))] [.int (I (min r ((s_fl σ) ((4 * d) + 1))))]
            refine tm_istore_n [(3, .int (I (min r ((s_fl σ) ((4 * d) + 1))))), (0, .ref (ρ 0)), (1, .int (I (b))), (2, .int (I (fr))), (4, .int (I (d)))] hC dX6_nextChange_64 rfl (by rw [hB.2.1]; exact Nat.le_of_ble_eq_true rfl) rfl ?_
            refine tm_aload_n 1 hC dX6_nextChange_65 rfl rfl ?_
            refine tm_getf2 hC f_X6_13 hm0 rfl dX6_nextChange_66 ?_
            refine tm_iconst hC dX6_nextChange_69 ?_
            refine tm_iload 4 hC dX6_nextChange_70 rfl ?_
            refine tm_imul hC dX6_nextChange_72 ?_
            refine tm_iconst hC dX6_nextChange_73 ?_
            refine tm_iadd hC dX6_nextChange_74 ?_
            refine tm_iald2 hC hm2 (by omega) dX6_nextChange_75 ?_
            refine tm_iload_n 3 hC dX6_nextChange_76 rfl rfl ?_
            refine tm_icmp_le 96 hC dX6_nextChange_77 (by decide) (by omega) (fun c_77 => ?_) (fun c_77 => ?_)
            · refine tm_iinc 4 [(4, .int (I (d + 1))), (3, .int (I (min r ((s_fl σ) ((4 * d) + 1))))), (0, .ref (ρ 0)), (1, .int (I (b))), (2, .int (I (fr)))] hC dX6_nextChange_96 rfl (by rw [hB.2.1]; exact Nat.le_of_ble_eq_true rfl) rfl ?_
              refine tm_goto 9 hC dX6_nextChange_99 (by decide) ?_
              refine tm_sub (L' := [(0, .ref (ρ 0)), (1, .int (I (b))), (2, .int (I (fr))), (3, .int (I (min r ((s_fl σ) ((4 * d) + 1))))), (4, .int (I (d + 1)))]) [2, 3, 4, 1, 0] rfl ?_
              exact ih_9  (min r ((s_fl σ) ((4 * d) + 1))) (d + 1) (⟨by omega, isNxN_take hg (by omega) (by omega) ⟨by omega, by omega⟩, by omega⟩) (by omega)
            · refine tm_iload_n 0 hC dX6_nextChange_80 rfl rfl ?_
              refine tm_aload_n 1 hC dX6_nextChange_81 rfl rfl ?_
              refine tm_getf2 hC f_X6_13 hm0 rfl dX6_nextChange_82 ?_
              refine tm_iconst hC dX6_nextChange_85 ?_
              refine tm_iload 4 hC dX6_nextChange_86 rfl ?_
              refine tm_imul hC dX6_nextChange_88 ?_
              refine tm_iconst hC dX6_nextChange_89 ?_
              refine tm_iadd hC dX6_nextChange_90 ?_
              refine tm_iald2 hC hm2 (by omega) dX6_nextChange_91 ?_
              refine tm_mm hC false x_X6_91 (by omega) (by rw [hB.2.2.1]; exact ⟨Nat.le_of_ble_eq_true rfl, Nat.le_of_ble_eq_true rfl⟩) ((by decide)) dX6_nextChange_92 ?_
              show tm_V x (tm_H x Λ) 0 0 95 [(3, .int (I (min r ((s_fl σ) ((4 * d) + 1))))), (0, .ref (ρ 0)), (1, .int (I (b))), (2, .int (I (fr))), (4, .int (I (d)))] [.int (I (min (min r ((s_fl σ) ((4 * d) + 1))) ((s_fl σ) ((4 * d) + 2))))]
              refine tm_istore_n [(3, .int (I (min (min r ((s_fl σ) ((4 * d) + 1))) ((s_fl σ) ((4 * d) + 2))))), (0, .ref (ρ 0)), (1, .int (I (b))), (2, .int (I (fr))), (4, .int (I (d)))] hC dX6_nextChange_95 rfl (by rw [hB.2.1]; exact Nat.le_of_ble_eq_true rfl) rfl ?_
              refine tm_iinc 4 [(4, .int (I (d + 1))), (3, .int (I (min (min r ((s_fl σ) ((4 * d) + 1))) ((s_fl σ) ((4 * d) + 2))))), (0, .ref (ρ 0)), (1, .int (I (b))), (2, .int (I (fr)))] hC dX6_nextChange_96 rfl (by rw [hB.2.1]; exact Nat.le_of_ble_eq_true rfl) rfl ?_
              refine tm_goto 9 hC dX6_nextChange_99 (by decide) ?_
              refine tm_sub (L' := [(0, .ref (ρ 0)), (1, .int (I (b))), (2, .int (I (fr))), (3, .int (I (min (min r ((s_fl σ) ((4 * d) + 1))) ((s_fl σ) ((4 * d) + 2))))), (4, .int (I (d + 1)))]) [2, 3, 4, 1, 0] rfl ?_
              exact ih_9  (min (min r ((s_fl σ) ((4 * d) + 1))) ((s_fl σ) ((4 * d) + 2))) (d + 1) (⟨by omega, isNxN_take hg (by omega) (by omega) ⟨by omega, by omega⟩, by omega⟩) (by omega)
        · refine tm_goto 96 hC dX6_nextChange_31 (by decide) ?_
          refine tm_iinc 4 [(4, .int (I (d + 1))), (0, .ref (ρ 0)), (1, .int (I (b))), (2, .int (I (fr))), (3, .int (I (r)))] hC dX6_nextChange_96 rfl (by rw [hB.2.1]; exact Nat.le_of_ble_eq_true rfl) rfl ?_
          refine tm_goto 9 hC dX6_nextChange_99 (by decide) ?_
          refine tm_sub (L' := [(0, .ref (ρ 0)), (1, .int (I (b))), (2, .int (I (fr))), (3, .int (I (r))), (4, .int (I (d + 1)))]) [1, 2, 3, 4, 0] rfl ?_
          exact ih_9  r (d + 1) (⟨by omega, isNxN_skip hg c_28, by omega⟩) (by omega)
  refine tm_sub (L' := [(0, .ref (ρ 0)), (1, .int (I (b))), (2, .int (I (fr))), (3, .int (I (s_wo σ (3 * b)))), (4, .int (I (0)))]) [2, 3, 4, 1, 0] rfl ?_
  exact hL_9 _ (s_wo σ (3 * b)) 0 (⟨by omega, ⟨by omega, by omega, fun d h => by omega⟩, by omega⟩) (Nat.lt_succ_self _)
end
