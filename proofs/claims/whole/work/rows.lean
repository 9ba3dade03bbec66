section
-- ===== PART A: goes FIRST, ahead of the names: the tables' words, and 'selects' of the private methods out of them =====
/-- a private method of a class that the tables say can be made, by its rows of tables_1 -/
def lw_okq (q : MethodName × Nat) : Prop := (q.1.cls ≠ "java/lang/invoke/MethodHandle" ∧ q.1.cls ≠ "java/lang/invoke/VarHandle") ∧ Cond.instantiable q.1.cls q.2 ∈ tables_1 ∧ Cond.privateMethod q.1 ∈ tables_1 ∧ Cond.instanceMethod q.1 ∈ tables_1
theorem lw_p0 : lw_okq (⟨"CamPieces", "standAt", "(II)Z"⟩, 15) := ⟨⟨by decide +kernel, by decide +kernel⟩, List.mem_of_getElem? (i := 18) (by decide +kernel), List.mem_of_getElem? (i := 382) (by decide +kernel), List.mem_of_getElem? (i := 383) (by decide +kernel)⟩
theorem lw_p1 : lw_okq (⟨"CamPieces", "standIn", "(II)Z"⟩, 15) := ⟨⟨by decide +kernel, by decide +kernel⟩, List.mem_of_getElem? (i := 18) (by decide +kernel), List.mem_of_getElem? (i := 386) (by decide +kernel), List.mem_of_getElem? (i := 387) (by decide +kernel)⟩
theorem lw_p2 : lw_okq (⟨"CamPieces$Spot", "write", "(JJJJ)V"⟩, 5) := ⟨⟨by decide +kernel, by decide +kernel⟩, List.mem_of_getElem? (i := 97) (by decide +kernel), List.mem_of_getElem? (i := 394) (by decide +kernel), List.mem_of_getElem? (i := 395) (by decide +kernel)⟩
theorem lw_p3 : lw_okq (⟨"CamPieces$Spot", "standInCubic", "(JJJ)V"⟩, 5) := ⟨⟨by decide +kernel, by decide +kernel⟩, List.mem_of_getElem? (i := 97) (by decide +kernel), List.mem_of_getElem? (i := 400) (by decide +kernel), List.mem_of_getElem? (i := 401) (by decide +kernel)⟩
theorem lw_p4 : lw_okq (⟨"CamPieces$Spot", "standInQuintic", "(JJJ)V"⟩, 5) := ⟨⟨by decide +kernel, by decide +kernel⟩, List.mem_of_getElem? (i := 97) (by decide +kernel), List.mem_of_getElem? (i := 406) (by decide +kernel), List.mem_of_getElem? (i := 407) (by decide +kernel)⟩
theorem lw_p5 : lw_okq (⟨"CamPieces", "hasJoin", "(I)Z"⟩, 15) := ⟨⟨by decide +kernel, by decide +kernel⟩, List.mem_of_getElem? (i := 18) (by decide +kernel), List.mem_of_getElem? (i := 432) (by decide +kernel), List.mem_of_getElem? (i := 433) (by decide +kernel)⟩
theorem lw_p6 : lw_okq (⟨"CamPieces", "reckonJump", "(II)V"⟩, 15) := ⟨⟨by decide +kernel, by decide +kernel⟩, List.mem_of_getElem? (i := 18) (by decide +kernel), List.mem_of_getElem? (i := 436) (by decide +kernel), List.mem_of_getElem? (i := 437) (by decide +kernel)⟩
theorem lw_p7 : lw_okq (⟨"CamPieces", "pieceAhead", "(I)I"⟩, 15) := ⟨⟨by decide +kernel, by decide +kernel⟩, List.mem_of_getElem? (i := 18) (by decide +kernel), List.mem_of_getElem? (i := 440) (by decide +kernel), List.mem_of_getElem? (i := 441) (by decide +kernel)⟩
theorem lw_p8 : lw_okq (⟨"CamPieces", "kindOfJoin", "(I)I"⟩, 15) := ⟨⟨by decide +kernel, by decide +kernel⟩, List.mem_of_getElem? (i := 18) (by decide +kernel), List.mem_of_getElem? (i := 461) (by decide +kernel), List.mem_of_getElem? (i := 462) (by decide +kernel)⟩
theorem lw_p9 : lw_okq (⟨"CamPieces", "curveHere", "()J"⟩, 15) := ⟨⟨by decide +kernel, by decide +kernel⟩, List.mem_of_getElem? (i := 18) (by decide +kernel), List.mem_of_getElem? (i := 477) (by decide +kernel), List.mem_of_getElem? (i := 478) (by decide +kernel)⟩
theorem lw_p10 : lw_okq (⟨"CamPieces", "reachHere", "()J"⟩, 15) := ⟨⟨by decide +kernel, by decide +kernel⟩, List.mem_of_getElem? (i := 18) (by decide +kernel), List.mem_of_getElem? (i := 481) (by decide +kernel), List.mem_of_getElem? (i := 482) (by decide +kernel)⟩
theorem lw_p11 : lw_okq (⟨"CamPieces", "setting", "(I)J"⟩, 15) := ⟨⟨by decide +kernel, by decide +kernel⟩, List.mem_of_getElem? (i := 18) (by decide +kernel), List.mem_of_getElem? (i := 485) (by decide +kernel), List.mem_of_getElem? (i := 486) (by decide +kernel)⟩
theorem lw_p12 : lw_okq (⟨"CamPieces", "forceHere", "()J"⟩, 15) := ⟨⟨by decide +kernel, by decide +kernel⟩, List.mem_of_getElem? (i := 18) (by decide +kernel), List.mem_of_getElem? (i := 499) (by decide +kernel), List.mem_of_getElem? (i := 500) (by decide +kernel)⟩
theorem lw_p13 : lw_okq (⟨"CamPieces", "preloadHere", "()J"⟩, 15) := ⟨⟨by decide +kernel, by decide +kernel⟩, List.mem_of_getElem? (i := 18) (by decide +kernel), List.mem_of_getElem? (i := 503) (by decide +kernel), List.mem_of_getElem? (i := 504) (by decide +kernel)⟩
theorem lw_p14 : lw_okq (⟨"CamPieces", "springHere", "()J"⟩, 15) := ⟨⟨by decide +kernel, by decide +kernel⟩, List.mem_of_getElem? (i := 18) (by decide +kernel), List.mem_of_getElem? (i := 507) (by decide +kernel), List.mem_of_getElem? (i := 508) (by decide +kernel)⟩
theorem lw_p15 : lw_okq (⟨"CamPieces", "inertiaHere", "()J"⟩, 15) := ⟨⟨by decide +kernel, by decide +kernel⟩, List.mem_of_getElem? (i := 18) (by decide +kernel), List.mem_of_getElem? (i := 511) (by decide +kernel), List.mem_of_getElem? (i := 512) (by decide +kernel)⟩
def lw_privs_1 : List (MethodName × Nat) := [(⟨"CamPieces", "standAt", "(II)Z"⟩, 15), (⟨"CamPieces", "standIn", "(II)Z"⟩, 15), (⟨"CamPieces$Spot", "write", "(JJJJ)V"⟩, 5), (⟨"CamPieces$Spot", "standInCubic", "(JJJ)V"⟩, 5), (⟨"CamPieces$Spot", "standInQuintic", "(JJJ)V"⟩, 5), (⟨"CamPieces", "hasJoin", "(I)Z"⟩, 15), (⟨"CamPieces", "reckonJump", "(II)V"⟩, 15), (⟨"CamPieces", "pieceAhead", "(I)I"⟩, 15), (⟨"CamPieces", "kindOfJoin", "(I)I"⟩, 15), (⟨"CamPieces", "curveHere", "()J"⟩, 15), (⟨"CamPieces", "reachHere", "()J"⟩, 15), (⟨"CamPieces", "setting", "(I)J"⟩, 15), (⟨"CamPieces", "forceHere", "()J"⟩, 15), (⟨"CamPieces", "preloadHere", "()J"⟩, 15), (⟨"CamPieces", "springHere", "()J"⟩, 15), (⟨"CamPieces", "inertiaHere", "()J"⟩, 15)]
theorem lw_r1 : ∀ q ∈ lw_privs_1, lw_okq q := List.forall_mem_cons.mpr ⟨lw_p0, List.forall_mem_cons.mpr ⟨lw_p1, List.forall_mem_cons.mpr ⟨lw_p2, List.forall_mem_cons.mpr ⟨lw_p3, List.forall_mem_cons.mpr ⟨lw_p4, List.forall_mem_cons.mpr ⟨lw_p5, List.forall_mem_cons.mpr ⟨lw_p6, List.forall_mem_cons.mpr ⟨lw_p7, List.forall_mem_cons.mpr ⟨lw_p8, List.forall_mem_cons.mpr ⟨lw_p9, List.forall_mem_cons.mpr ⟨lw_p10, List.forall_mem_cons.mpr ⟨lw_p11, List.forall_mem_cons.mpr ⟨lw_p12, List.forall_mem_cons.mpr ⟨lw_p13, List.forall_mem_cons.mpr ⟨lw_p14, List.forall_mem_cons.mpr ⟨lw_p15, fun _ h => absurd h List.not_mem_nil⟩⟩⟩⟩⟩⟩⟩⟩⟩⟩⟩⟩⟩⟩⟩⟩
theorem lw_p16 : lw_okq (⟨"CamPieces$Walk", "stepOn", "(II)V"⟩, 6) := ⟨⟨by decide +kernel, by decide +kernel⟩, List.mem_of_getElem? (i := 122) (by decide +kernel), List.mem_of_getElem? (i := 536) (by decide +kernel), List.mem_of_getElem? (i := 537) (by decide +kernel)⟩
theorem lw_p17 : lw_okq (⟨"CamPieces", "cornersAt", "(I)I"⟩, 15) := ⟨⟨by decide +kernel, by decide +kernel⟩, List.mem_of_getElem? (i := 18) (by decide +kernel), List.mem_of_getElem? (i := 602) (by decide +kernel), List.mem_of_getElem? (i := 603) (by decide +kernel)⟩
theorem lw_p18 : lw_okq (⟨"CamPieces", "hasCorner", "(I)Z"⟩, 15) := ⟨⟨by decide +kernel, by decide +kernel⟩, List.mem_of_getElem? (i := 18) (by decide +kernel), List.mem_of_getElem? (i := 612) (by decide +kernel), List.mem_of_getElem? (i := 613) (by decide +kernel)⟩
theorem lw_p19 : lw_okq (⟨"CamPieces", "sampleHere", "()J"⟩, 15) := ⟨⟨by decide +kernel, by decide +kernel⟩, List.mem_of_getElem? (i := 18) (by decide +kernel), List.mem_of_getElem? (i := 620) (by decide +kernel), List.mem_of_getElem? (i := 621) (by decide +kernel)⟩
theorem lw_p20 : lw_okq (⟨"CamPieces", "takeSamples", "()V"⟩, 15) := ⟨⟨by decide +kernel, by decide +kernel⟩, List.mem_of_getElem? (i := 18) (by decide +kernel), List.mem_of_getElem? (i := 633) (by decide +kernel), List.mem_of_getElem? (i := 634) (by decide +kernel)⟩
theorem lw_p21 : lw_okq (⟨"CamPieces", "gapAt", "(III)J"⟩, 15) := ⟨⟨by decide +kernel, by decide +kernel⟩, List.mem_of_getElem? (i := 18) (by decide +kernel), List.mem_of_getElem? (i := 637) (by decide +kernel), List.mem_of_getElem? (i := 638) (by decide +kernel)⟩
theorem lw_p22 : lw_okq (⟨"CamPieces", "sampleAt", "(I)J"⟩, 15) := ⟨⟨by decide +kernel, by decide +kernel⟩, List.mem_of_getElem? (i := 18) (by decide +kernel), List.mem_of_getElem? (i := 650) (by decide +kernel), List.mem_of_getElem? (i := 651) (by decide +kernel)⟩
theorem lw_p23 : lw_okq (⟨"CamPieces", "isErrorWithin", "(II)Z"⟩, 15) := ⟨⟨by decide +kernel, by decide +kernel⟩, List.mem_of_getElem? (i := 18) (by decide +kernel), List.mem_of_getElem? (i := 658) (by decide +kernel), List.mem_of_getElem? (i := 659) (by decide +kernel)⟩
theorem lw_p24 : lw_okq (⟨"CamPieces", "areAngles", "(III)Z"⟩, 15) := ⟨⟨by decide +kernel, by decide +kernel⟩, List.mem_of_getElem? (i := 18) (by decide +kernel), List.mem_of_getElem? (i := 677) (by decide +kernel), List.mem_of_getElem? (i := 678) (by decide +kernel)⟩
theorem lw_p25 : lw_okq (⟨"CamPieces", "isSeenBy", "(IIIII)Z"⟩, 15) := ⟨⟨by decide +kernel, by decide +kernel⟩, List.mem_of_getElem? (i := 18) (by decide +kernel), List.mem_of_getElem? (i := 700) (by decide +kernel), List.mem_of_getElem? (i := 701) (by decide +kernel)⟩
theorem lw_p26 : lw_okq (⟨"CamPieces$Reader", "readPiece", "()Z"⟩, 8) := ⟨⟨by decide +kernel, by decide +kernel⟩, List.mem_of_getElem? (i := 46) (by decide +kernel), List.mem_of_getElem? (i := 738) (by decide +kernel), List.mem_of_getElem? (i := 739) (by decide +kernel)⟩
theorem lw_p27 : lw_okq (⟨"CamPieces$Reader", "readKind", "()I"⟩, 8) := ⟨⟨by decide +kernel, by decide +kernel⟩, List.mem_of_getElem? (i := 46) (by decide +kernel), List.mem_of_getElem? (i := 742) (by decide +kernel), List.mem_of_getElem? (i := 743) (by decide +kernel)⟩
theorem lw_p28 : lw_okq (⟨"CamPieces$Reader", "byteHere", "()I"⟩, 8) := ⟨⟨by decide +kernel, by decide +kernel⟩, List.mem_of_getElem? (i := 46) (by decide +kernel), List.mem_of_getElem? (i := 746) (by decide +kernel), List.mem_of_getElem? (i := 747) (by decide +kernel)⟩
theorem lw_p29 : lw_okq (⟨"CamPieces$Reader", "isWord", "(IILjava/lang/String;)Z"⟩, 8) := ⟨⟨by decide +kernel, by decide +kernel⟩, List.mem_of_getElem? (i := 46) (by decide +kernel), List.mem_of_getElem? (i := 760) (by decide +kernel), List.mem_of_getElem? (i := 761) (by decide +kernel)⟩
theorem lw_p30 : lw_okq (⟨"CamPieces$Reader", "fail", "(II)Z"⟩, 8) := ⟨⟨by decide +kernel, by decide +kernel⟩, List.mem_of_getElem? (i := 46) (by decide +kernel), List.mem_of_getElem? (i := 812) (by decide +kernel), List.mem_of_getElem? (i := 813) (by decide +kernel)⟩
theorem lw_p31 : lw_okq (⟨"CamPieces$Reader", "readBlank", "()Z"⟩, 8) := ⟨⟨by decide +kernel, by decide +kernel⟩, List.mem_of_getElem? (i := 46) (by decide +kernel), List.mem_of_getElem? (i := 816) (by decide +kernel), List.mem_of_getElem? (i := 817) (by decide +kernel)⟩
def lw_privs_2 : List (MethodName × Nat) := [(⟨"CamPieces$Walk", "stepOn", "(II)V"⟩, 6), (⟨"CamPieces", "cornersAt", "(I)I"⟩, 15), (⟨"CamPieces", "hasCorner", "(I)Z"⟩, 15), (⟨"CamPieces", "sampleHere", "()J"⟩, 15), (⟨"CamPieces", "takeSamples", "()V"⟩, 15), (⟨"CamPieces", "gapAt", "(III)J"⟩, 15), (⟨"CamPieces", "sampleAt", "(I)J"⟩, 15), (⟨"CamPieces", "isErrorWithin", "(II)Z"⟩, 15), (⟨"CamPieces", "areAngles", "(III)Z"⟩, 15), (⟨"CamPieces", "isSeenBy", "(IIIII)Z"⟩, 15), (⟨"CamPieces$Reader", "readPiece", "()Z"⟩, 8), (⟨"CamPieces$Reader", "readKind", "()I"⟩, 8), (⟨"CamPieces$Reader", "byteHere", "()I"⟩, 8), (⟨"CamPieces$Reader", "isWord", "(IILjava/lang/String;)Z"⟩, 8), (⟨"CamPieces$Reader", "fail", "(II)Z"⟩, 8), (⟨"CamPieces$Reader", "readBlank", "()Z"⟩, 8)]
theorem lw_r2 : ∀ q ∈ lw_privs_2, lw_okq q := List.forall_mem_cons.mpr ⟨lw_p16, List.forall_mem_cons.mpr ⟨lw_p17, List.forall_mem_cons.mpr ⟨lw_p18, List.forall_mem_cons.mpr ⟨lw_p19, List.forall_mem_cons.mpr ⟨lw_p20, List.forall_mem_cons.mpr ⟨lw_p21, List.forall_mem_cons.mpr ⟨lw_p22, List.forall_mem_cons.mpr ⟨lw_p23, List.forall_mem_cons.mpr ⟨lw_p24, List.forall_mem_cons.mpr ⟨lw_p25, List.forall_mem_cons.mpr ⟨lw_p26, List.forall_mem_cons.mpr ⟨lw_p27, List.forall_mem_cons.mpr ⟨lw_p28, List.forall_mem_cons.mpr ⟨lw_p29, List.forall_mem_cons.mpr ⟨lw_p30, List.forall_mem_cons.mpr ⟨lw_p31, fun _ h => absurd h List.not_mem_nil⟩⟩⟩⟩⟩⟩⟩⟩⟩⟩⟩⟩⟩⟩⟩⟩
theorem lw_p32 : lw_okq (⟨"CamPieces$Reader", "readFigures", "(I)I"⟩, 8) := ⟨⟨by decide +kernel, by decide +kernel⟩, List.mem_of_getElem? (i := 46) (by decide +kernel), List.mem_of_getElem? (i := 820) (by decide +kernel), List.mem_of_getElem? (i := 821) (by decide +kernel)⟩
theorem lw_p33 : lw_okq (⟨"CamPieces$Reader", "readRise", "()I"⟩, 8) := ⟨⟨by decide +kernel, by decide +kernel⟩, List.mem_of_getElem? (i := 46) (by decide +kernel), List.mem_of_getElem? (i := 824) (by decide +kernel), List.mem_of_getElem? (i := 825) (by decide +kernel)⟩
theorem lw_p34 : lw_okq (⟨"CamPieces$Reader", "keep", "(III)V"⟩, 8) := ⟨⟨by decide +kernel, by decide +kernel⟩, List.mem_of_getElem? (i := 46) (by decide +kernel), List.mem_of_getElem? (i := 828) (by decide +kernel), List.mem_of_getElem? (i := 829) (by decide +kernel)⟩
theorem lw_p35 : lw_okq (⟨"CamPiecesModel", "total", "()I"⟩, 35) := ⟨⟨by decide +kernel, by decide +kernel⟩, List.mem_of_getElem? (i := 871) (by decide +kernel), List.mem_of_getElem? (i := 997) (by decide +kernel), List.mem_of_getElem? (i := 998) (by decide +kernel)⟩
theorem lw_p36 : lw_okq (⟨"CamPiecesModel", "isPiece", "(I)Z"⟩, 35) := ⟨⟨by decide +kernel, by decide +kernel⟩, List.mem_of_getElem? (i := 871) (by decide +kernel), List.mem_of_getElem? (i := 1009) (by decide +kernel), List.mem_of_getElem? (i := 1010) (by decide +kernel)⟩
theorem lw_p37 : lw_okq (⟨"CamPiecesModel", "begin", "(I)I"⟩, 35) := ⟨⟨by decide +kernel, by decide +kernel⟩, List.mem_of_getElem? (i := 871) (by decide +kernel), List.mem_of_getElem? (i := 1019) (by decide +kernel), List.mem_of_getElem? (i := 1020) (by decide +kernel)⟩
theorem lw_p38 : lw_okq (⟨"CamPiecesModel", "ahead", "(I)I"⟩, 35) := ⟨⟨by decide +kernel, by decide +kernel⟩, List.mem_of_getElem? (i := 871) (by decide +kernel), List.mem_of_getElem? (i := 1023) (by decide +kernel), List.mem_of_getElem? (i := 1024) (by decide +kernel)⟩
theorem lw_p39 : lw_okq (⟨"CamPiecesModel", "isClosed", "()Z"⟩, 35) := ⟨⟨by decide +kernel, by decide +kernel⟩, List.mem_of_getElem? (i := 871) (by decide +kernel), List.mem_of_getElem? (i := 1036) (by decide +kernel), List.mem_of_getElem? (i := 1037) (by decide +kernel)⟩
theorem lw_p40 : lw_okq (⟨"CamPiecesModel", "areAlike", "(II)Z"⟩, 35) := ⟨⟨by decide +kernel, by decide +kernel⟩, List.mem_of_getElem? (i := 871) (by decide +kernel), List.mem_of_getElem? (i := 1051) (by decide +kernel), List.mem_of_getElem? (i := 1052) (by decide +kernel)⟩
theorem lw_p41 : lw_okq (⟨"CamPiecesModel", "looks", "(II)Z"⟩, 35) := ⟨⟨by decide +kernel, by decide +kernel⟩, List.mem_of_getElem? (i := 871) (by decide +kernel), List.mem_of_getElem? (i := 1068) (by decide +kernel), List.mem_of_getElem? (i := 1069) (by decide +kernel)⟩
theorem lw_p42 : lw_okq (⟨"CamPiecesModel", "finds", "(II)Z"⟩, 35) := ⟨⟨by decide +kernel, by decide +kernel⟩, List.mem_of_getElem? (i := 871) (by decide +kernel), List.mem_of_getElem? (i := 1072) (by decide +kernel), List.mem_of_getElem? (i := 1073) (by decide +kernel)⟩
theorem lw_p43 : lw_okq (⟨"CamPiecesModel", "isAngle", "(I)Z"⟩, 35) := ⟨⟨by decide +kernel, by decide +kernel⟩, List.mem_of_getElem? (i := 871) (by decide +kernel), List.mem_of_getElem? (i := 1076) (by decide +kernel), List.mem_of_getElem? (i := 1077) (by decide +kernel)⟩
theorem lw_p44 : lw_okq (⟨"CamPiecesModel", "isJoin", "(I)Z"⟩, 35) := ⟨⟨by decide +kernel, by decide +kernel⟩, List.mem_of_getElem? (i := 871) (by decide +kernel), List.mem_of_getElem? (i := 1114) (by decide +kernel), List.mem_of_getElem? (i := 1115) (by decide +kernel)⟩
theorem lw_p45 : lw_okq (⟨"CamPiecesModel", "jumps", "(II)V"⟩, 35) := ⟨⟨by decide +kernel, by decide +kernel⟩, List.mem_of_getElem? (i := 871) (by decide +kernel), List.mem_of_getElem? (i := 1118) (by decide +kernel), List.mem_of_getElem? (i := 1119) (by decide +kernel)⟩
theorem lw_p46 : lw_okq (⟨"CamPiecesModel", "joinOf", "(I)I"⟩, 35) := ⟨⟨by decide +kernel, by decide +kernel⟩, List.mem_of_getElem? (i := 871) (by decide +kernel), List.mem_of_getElem? (i := 1126) (by decide +kernel), List.mem_of_getElem? (i := 1127) (by decide +kernel)⟩
theorem lw_p47 : lw_okq (⟨"CamPiecesModel", "curveNow", "()J"⟩, 35) := ⟨⟨by decide +kernel, by decide +kernel⟩, List.mem_of_getElem? (i := 871) (by decide +kernel), List.mem_of_getElem? (i := 1146) (by decide +kernel), List.mem_of_getElem? (i := 1147) (by decide +kernel)⟩
def lw_privs_3 : List (MethodName × Nat) := [(⟨"CamPieces$Reader", "readFigures", "(I)I"⟩, 8), (⟨"CamPieces$Reader", "readRise", "()I"⟩, 8), (⟨"CamPieces$Reader", "keep", "(III)V"⟩, 8), (⟨"CamPiecesModel", "total", "()I"⟩, 35), (⟨"CamPiecesModel", "isPiece", "(I)Z"⟩, 35), (⟨"CamPiecesModel", "begin", "(I)I"⟩, 35), (⟨"CamPiecesModel", "ahead", "(I)I"⟩, 35), (⟨"CamPiecesModel", "isClosed", "()Z"⟩, 35), (⟨"CamPiecesModel", "areAlike", "(II)Z"⟩, 35), (⟨"CamPiecesModel", "looks", "(II)Z"⟩, 35), (⟨"CamPiecesModel", "finds", "(II)Z"⟩, 35), (⟨"CamPiecesModel", "isAngle", "(I)Z"⟩, 35), (⟨"CamPiecesModel", "isJoin", "(I)Z"⟩, 35), (⟨"CamPiecesModel", "jumps", "(II)V"⟩, 35), (⟨"CamPiecesModel", "joinOf", "(I)I"⟩, 35), (⟨"CamPiecesModel", "curveNow", "()J"⟩, 35)]
theorem lw_r3 : ∀ q ∈ lw_privs_3, lw_okq q := List.forall_mem_cons.mpr ⟨lw_p32, List.forall_mem_cons.mpr ⟨lw_p33, List.forall_mem_cons.mpr ⟨lw_p34, List.forall_mem_cons.mpr ⟨lw_p35, List.forall_mem_cons.mpr ⟨lw_p36, List.forall_mem_cons.mpr ⟨lw_p37, List.forall_mem_cons.mpr ⟨lw_p38, List.forall_mem_cons.mpr ⟨lw_p39, List.forall_mem_cons.mpr ⟨lw_p40, List.forall_mem_cons.mpr ⟨lw_p41, List.forall_mem_cons.mpr ⟨lw_p42, List.forall_mem_cons.mpr ⟨lw_p43, List.forall_mem_cons.mpr ⟨lw_p44, List.forall_mem_cons.mpr ⟨lw_p45, List.forall_mem_cons.mpr ⟨lw_p46, List.forall_mem_cons.mpr ⟨lw_p47, fun _ h => absurd h List.not_mem_nil⟩⟩⟩⟩⟩⟩⟩⟩⟩⟩⟩⟩⟩⟩⟩⟩
theorem lw_p48 : lw_okq (⟨"CamPiecesModel", "forceNow", "(II)J"⟩, 35) := ⟨⟨by decide +kernel, by decide +kernel⟩, List.mem_of_getElem? (i := 871) (by decide +kernel), List.mem_of_getElem? (i := 1160) (by decide +kernel), List.mem_of_getElem? (i := 1161) (by decide +kernel)⟩
theorem lw_p49 : lw_okq (⟨"CamPiecesModel", "isSo", "(II)Z"⟩, 35) := ⟨⟨by decide +kernel, by decide +kernel⟩, List.mem_of_getElem? (i := 871) (by decide +kernel), List.mem_of_getElem? (i := 1168) (by decide +kernel), List.mem_of_getElem? (i := 1169) (by decide +kernel)⟩
theorem lw_p50 : lw_okq (⟨"CamPiecesModel", "leastAbove", "(Z)I"⟩, 35) := ⟨⟨by decide +kernel, by decide +kernel⟩, List.mem_of_getElem? (i := 871) (by decide +kernel), List.mem_of_getElem? (i := 1176) (by decide +kernel), List.mem_of_getElem? (i := 1177) (by decide +kernel)⟩
theorem lw_p51 : lw_okq (⟨"CamPiecesModel", "isGentle", "(II)Z"⟩, 35) := ⟨⟨by decide +kernel, by decide +kernel⟩, List.mem_of_getElem? (i := 871) (by decide +kernel), List.mem_of_getElem? (i := 1199) (by decide +kernel), List.mem_of_getElem? (i := 1200) (by decide +kernel)⟩
theorem lw_p52 : lw_okq (⟨"CamPiecesModel", "floatsAt", "(III)Z"⟩, 35) := ⟨⟨by decide +kernel, by decide +kernel⟩, List.mem_of_getElem? (i := 871) (by decide +kernel), List.mem_of_getElem? (i := 1208) (by decide +kernel), List.mem_of_getElem? (i := 1209) (by decide +kernel)⟩
theorem lw_p53 : lw_okq (⟨"CamPiecesModel", "floatsBy", "(II)Z"⟩, 35) := ⟨⟨by decide +kernel, by decide +kernel⟩, List.mem_of_getElem? (i := 871) (by decide +kernel), List.mem_of_getElem? (i := 1216) (by decide +kernel), List.mem_of_getElem? (i := 1217) (by decide +kernel)⟩
theorem lw_p54 : lw_okq (⟨"CamPiecesModel", "hasCorner", "()Z"⟩, 35) := ⟨⟨by decide +kernel, by decide +kernel⟩, List.mem_of_getElem? (i := 871) (by decide +kernel), List.mem_of_getElem? (i := 1234) (by decide +kernel), List.mem_of_getElem? (i := 1235) (by decide +kernel)⟩
theorem lw_p55 : lw_okq (⟨"CamPiecesModel", "sampleAt", "(I)J"⟩, 35) := ⟨⟨by decide +kernel, by decide +kernel⟩, List.mem_of_getElem? (i := 871) (by decide +kernel), List.mem_of_getElem? (i := 1242) (by decide +kernel), List.mem_of_getElem? (i := 1243) (by decide +kernel)⟩
theorem lw_p56 : lw_okq (⟨"CamPiecesModel", "sampleOf", "(IIII)J"⟩, 35) := ⟨⟨by decide +kernel, by decide +kernel⟩, List.mem_of_getElem? (i := 871) (by decide +kernel), List.mem_of_getElem? (i := 1246) (by decide +kernel), List.mem_of_getElem? (i := 1247) (by decide +kernel)⟩
theorem lw_p57 : lw_okq (⟨"CamPiecesModel", "errs", "(I)V"⟩, 35) := ⟨⟨by decide +kernel, by decide +kernel⟩, List.mem_of_getElem? (i := 871) (by decide +kernel), List.mem_of_getElem? (i := 1257) (by decide +kernel), List.mem_of_getElem? (i := 1258) (by decide +kernel)⟩
theorem lw_p58 : lw_okq (⟨"CamPiecesModel", "isSeen", "(IIII)Z"⟩, 35) := ⟨⟨by decide +kernel, by decide +kernel⟩, List.mem_of_getElem? (i := 871) (by decide +kernel), List.mem_of_getElem? (i := 1277) (by decide +kernel), List.mem_of_getElem? (i := 1278) (by decide +kernel)⟩
theorem lw_p59 : lw_okq (⟨"CamPiecesModel", "pieceRead", "()V"⟩, 35) := ⟨⟨by decide +kernel, by decide +kernel⟩, List.mem_of_getElem? (i := 871) (by decide +kernel), List.mem_of_getElem? (i := 1294) (by decide +kernel), List.mem_of_getElem? (i := 1295) (by decide +kernel)⟩
theorem lw_p60 : lw_okq (⟨"CamPiecesModel", "wordRead", "()I"⟩, 35) := ⟨⟨by decide +kernel, by decide +kernel⟩, List.mem_of_getElem? (i := 871) (by decide +kernel), List.mem_of_getElem? (i := 1298) (by decide +kernel), List.mem_of_getElem? (i := 1299) (by decide +kernel)⟩
theorem lw_p61 : lw_okq (⟨"CamPiecesModel", "byteAt", "(I)I"⟩, 35) := ⟨⟨by decide +kernel, by decide +kernel⟩, List.mem_of_getElem? (i := 871) (by decide +kernel), List.mem_of_getElem? (i := 1302) (by decide +kernel), List.mem_of_getElem? (i := 1303) (by decide +kernel)⟩
theorem lw_p62 : lw_okq (⟨"CamPiecesModel", "isWord", "(II)Z"⟩, 35) := ⟨⟨by decide +kernel, by decide +kernel⟩, List.mem_of_getElem? (i := 871) (by decide +kernel), List.mem_of_getElem? (i := 1308) (by decide +kernel), List.mem_of_getElem? (i := 1309) (by decide +kernel)⟩
theorem lw_p63 : lw_okq (⟨"CamPiecesModel", "fails", "(II)V"⟩, 35) := ⟨⟨by decide +kernel, by decide +kernel⟩, List.mem_of_getElem? (i := 871) (by decide +kernel), List.mem_of_getElem? (i := 1312) (by decide +kernel), List.mem_of_getElem? (i := 1313) (by decide +kernel)⟩
def lw_privs_4 : List (MethodName × Nat) := [(⟨"CamPiecesModel", "forceNow", "(II)J"⟩, 35), (⟨"CamPiecesModel", "isSo", "(II)Z"⟩, 35), (⟨"CamPiecesModel", "leastAbove", "(Z)I"⟩, 35), (⟨"CamPiecesModel", "isGentle", "(II)Z"⟩, 35), (⟨"CamPiecesModel", "floatsAt", "(III)Z"⟩, 35), (⟨"CamPiecesModel", "floatsBy", "(II)Z"⟩, 35), (⟨"CamPiecesModel", "hasCorner", "()Z"⟩, 35), (⟨"CamPiecesModel", "sampleAt", "(I)J"⟩, 35), (⟨"CamPiecesModel", "sampleOf", "(IIII)J"⟩, 35), (⟨"CamPiecesModel", "errs", "(I)V"⟩, 35), (⟨"CamPiecesModel", "isSeen", "(IIII)Z"⟩, 35), (⟨"CamPiecesModel", "pieceRead", "()V"⟩, 35), (⟨"CamPiecesModel", "wordRead", "()I"⟩, 35), (⟨"CamPiecesModel", "byteAt", "(I)I"⟩, 35), (⟨"CamPiecesModel", "isWord", "(II)Z"⟩, 35), (⟨"CamPiecesModel", "fails", "(II)V"⟩, 35)]
theorem lw_r4 : ∀ q ∈ lw_privs_4, lw_okq q := List.forall_mem_cons.mpr ⟨lw_p48, List.forall_mem_cons.mpr ⟨lw_p49, List.forall_mem_cons.mpr ⟨lw_p50, List.forall_mem_cons.mpr ⟨lw_p51, List.forall_mem_cons.mpr ⟨lw_p52, List.forall_mem_cons.mpr ⟨lw_p53, List.forall_mem_cons.mpr ⟨lw_p54, List.forall_mem_cons.mpr ⟨lw_p55, List.forall_mem_cons.mpr ⟨lw_p56, List.forall_mem_cons.mpr ⟨lw_p57, List.forall_mem_cons.mpr ⟨lw_p58, List.forall_mem_cons.mpr ⟨lw_p59, List.forall_mem_cons.mpr ⟨lw_p60, List.forall_mem_cons.mpr ⟨lw_p61, List.forall_mem_cons.mpr ⟨lw_p62, List.forall_mem_cons.mpr ⟨lw_p63, fun _ h => absurd h List.not_mem_nil⟩⟩⟩⟩⟩⟩⟩⟩⟩⟩⟩⟩⟩⟩⟩⟩
theorem lw_p64 : lw_okq (⟨"CamPiecesModel", "takes", "(I)V"⟩, 35) := ⟨⟨by decide +kernel, by decide +kernel⟩, List.mem_of_getElem? (i := 871) (by decide +kernel), List.mem_of_getElem? (i := 1316) (by decide +kernel), List.mem_of_getElem? (i := 1317) (by decide +kernel)⟩
theorem lw_p65 : lw_okq (⟨"CamPiecesModel", "failsHere", "()V"⟩, 35) := ⟨⟨by decide +kernel, by decide +kernel⟩, List.mem_of_getElem? (i := 871) (by decide +kernel), List.mem_of_getElem? (i := 1320) (by decide +kernel), List.mem_of_getElem? (i := 1321) (by decide +kernel)⟩
theorem lw_p66 : lw_okq (⟨"CamPiecesModel", "figures", "(III)I"⟩, 35) := ⟨⟨by decide +kernel, by decide +kernel⟩, List.mem_of_getElem? (i := 871) (by decide +kernel), List.mem_of_getElem? (i := 1324) (by decide +kernel), List.mem_of_getElem? (i := 1325) (by decide +kernel)⟩
theorem lw_p67 : lw_okq (⟨"CamPiecesModel", "isFigure", "(I)Z"⟩, 35) := ⟨⟨by decide +kernel, by decide +kernel⟩, List.mem_of_getElem? (i := 871) (by decide +kernel), List.mem_of_getElem? (i := 1328) (by decide +kernel), List.mem_of_getElem? (i := 1329) (by decide +kernel)⟩
theorem lw_p68 : lw_okq (⟨"CamPiecesModel", "unfit", "()I"⟩, 35) := ⟨⟨by decide +kernel, by decide +kernel⟩, List.mem_of_getElem? (i := 871) (by decide +kernel), List.mem_of_getElem? (i := 1333) (by decide +kernel), List.mem_of_getElem? (i := 1334) (by decide +kernel)⟩
def lw_privs_5 : List (MethodName × Nat) := [(⟨"CamPiecesModel", "takes", "(I)V"⟩, 35), (⟨"CamPiecesModel", "failsHere", "()V"⟩, 35), (⟨"CamPiecesModel", "figures", "(III)I"⟩, 35), (⟨"CamPiecesModel", "isFigure", "(I)Z"⟩, 35), (⟨"CamPiecesModel", "unfit", "()I"⟩, 35)]
theorem lw_r5 : ∀ q ∈ lw_privs_5, lw_okq q := List.forall_mem_cons.mpr ⟨lw_p64, List.forall_mem_cons.mpr ⟨lw_p65, List.forall_mem_cons.mpr ⟨lw_p66, List.forall_mem_cons.mpr ⟨lw_p67, List.forall_mem_cons.mpr ⟨lw_p68, fun _ h => absurd h List.not_mem_nil⟩⟩⟩⟩⟩
def lw_privs : List (MethodName × Nat) := lw_privs_1 ++ (lw_privs_2 ++ (lw_privs_3 ++ (lw_privs_4 ++ (lw_privs_5))))
def lw_tbl : List Cond := k2_sels lw_privs ++ tables_1
theorem lw_privs_ok : ∀ q ∈ lw_privs, lw_okq q := by
  show ∀ q ∈ lw_privs_1 ++ (lw_privs_2 ++ (lw_privs_3 ++ (lw_privs_4 ++ (lw_privs_5)))), lw_okq q
  exact List.forall_mem_append.mpr ⟨lw_r1, List.forall_mem_append.mpr ⟨lw_r2, List.forall_mem_append.mpr ⟨lw_r3, List.forall_mem_append.mpr ⟨lw_r4, lw_r5⟩⟩⟩⟩
end
section
/-! names of the classes, their fields in the order of the slots (out of the printed names), the words of the tables that a contract carries -/
def zTB : List Cond := lw_tbl.filter goodWord
theorem zTB_of {w : Cond} (i : Nat) (h : tables_1[i]? = some w) (g : goodWord w = true) : w ∈ zTB := List.mem_filter.mpr ⟨List.mem_append_right _ (List.mem_of_getElem? h), g⟩
theorem zTB_ofS {w : Cond} (i : Nat) (h : (k2_sels lw_privs)[i]? = some w) (g : goodWord w = true) : w ∈ zTB := List.mem_filter.mpr ⟨List.mem_append_left _ (List.mem_of_getElem? h), g⟩
theorem zTB_in {w : Cond} (h : w ∈ zTB) : w ∈ lw_tbl := (List.mem_filter.mp h).1
theorem zTB_good {w : Cond} (h : w ∈ zTB) : goodWord w = true := (List.mem_filter.mp h).2
theorem zTB_list {ws : List Cond} (ps : List Nat) (hp : ws = ps.filterMap (fun i => tables_1[i]?)) (h : ws.all goodWord = true) : ∀ w ∈ ws, w ∈ zTB := by
  intro w hw
  have h1 := List.all_eq_true.mp h w hw
  rw [hp] at hw
  obtain ⟨i, -, hi⟩ := List.mem_filterMap.mp hw
  exact zTB_of i hi h1
def zIsNest : Cond → Bool
  | .fieldLinkNest .. => true
  | .methodLinkNest .. => true
  | _ => false
def zNW : List Cond := tables_1.filter zIsNest
theorem zNW_of {w : Cond} (i : Nat) (h : tables_1[i]? = some w) (g : zIsNest w = true) : w ∈ zNW := List.mem_filter.mpr ⟨List.mem_of_getElem? h, g⟩
theorem zNW_in {w : Cond} (h : w ∈ zNW) : w ∈ lw_tbl := List.mem_append_right _ (List.mem_filter.mp h).1
theorem zNW_nest {w : Cond} (h : w ∈ zNW) : zIsNest w = true := (List.mem_filter.mp h).2

def RX0 : String := "CamPieces$Range"
def TX0 : u_T := fun k => match k with
  | 0 => ("CamPieces$Range", "least", "J", false)
  | 1 => ("CamPieces$Range", "most", "J", false)
  | _ => ("CamPieces$Range", "isEmpty", "Z", false)
def tyX0 : Nat → FieldType := fun k => match k with
  | 0 => .long
  | 1 => .long
  | _ => .boolean
theorem nmX0 : ∀ a, a < 3 → ∀ b, b < 3 → a ≠ b → (TX0 a).2.1 ≠ (TX0 b).2.1 := by decide +kernel
theorem tyX0_ok : ∀ k, k < 3 → parseFieldDescriptor (TX0 k).2.2.1 = some (tyX0 k) := by decide +kernel
theorem inX0 : ∀ w ∈ u_ws RX0 TX0 3, w ∈ zTB := zTB_list [156, 158, 160] (by decide +kernel) (by decide +kernel)
def RX1 : String := "CamPieces$Ratio"
def TX1 : u_T := fun k => match k with
  | 0 => ("CamPieces$Ratio", "above", "J", false)
  | _ => ("CamPieces$Ratio", "below", "J", false)
def tyX1 : Nat → FieldType := fun k => match k with
  | 0 => .long
  | _ => .long
theorem nmX1 : ∀ a, a < 2 → ∀ b, b < 2 → a ≠ b → (TX1 a).2.1 ≠ (TX1 b).2.1 := by decide +kernel
theorem tyX1_ok : ∀ k, k < 2 → parseFieldDescriptor (TX1 k).2.2.1 = some (tyX1 k) := by decide +kernel
theorem inX1 : ∀ w ∈ u_ws RX1 TX1 2, w ∈ zTB := zTB_list [173, 175] (by decide +kernel) (by decide +kernel)
def RX2 : String := "CamPieces$Reader"
def TX2 : u_T := fun k => match k with
  | 0 => ("CamPieces$Reader", "bytes", "[I", true)
  | 1 => ("CamPieces$Reader", "size", "I", false)
  | 2 => ("CamPieces$Reader", "read", "LCamPieces$Train;", true)
  | 3 => ("CamPieces$Reader", "place", "I", false)
  | 4 => ("CamPieces$Reader", "pieces", "I", false)
  | 5 => ("CamPieces$Reader", "fault", "I", false)
  | 6 => ("CamPieces$Reader", "unfit", "I", false)
  | _ => ("CamPieces$Reader", "cause", "I", false)
def tyX2 : Nat → FieldType := fun k => match k with
  | 0 => .array .int
  | 1 => .int
  | 2 => .object "CamPieces$Train"
  | 3 => .int
  | 4 => .int
  | 5 => .int
  | 6 => .int
  | _ => .int
theorem nmX2 : ∀ a, a < 8 → ∀ b, b < 8 → a ≠ b → (TX2 a).2.1 ≠ (TX2 b).2.1 := by decide +kernel
theorem tyX2_ok : ∀ k, k < 8 → parseFieldDescriptor (TX2 k).2.2.1 = some (tyX2 k) := by decide +kernel
theorem inX2 : ∀ w ∈ u_ws RX2 TX2 8, w ∈ zTB := zTB_list [65, 67, 69, 71, 73, 75, 77, 79] (by decide +kernel) (by decide +kernel)
def RX3 : String := "CamPieces$Rows"
def TX3 : u_T := fun k => match k with
  | 0 => ("CamPieces$Rows", "places", "[J", true)
  | _ => ("CamPieces$Rows", "sizes", "[I", true)
def tyX3 : Nat → FieldType := fun k => match k with
  | 0 => .array .long
  | _ => .array .int
theorem nmX3 : ∀ a, a < 2 → ∀ b, b < 2 → a ≠ b → (TX3 a).2.1 ≠ (TX3 b).2.1 := by decide +kernel
theorem tyX3_ok : ∀ k, k < 2 → parseFieldDescriptor (TX3 k).2.2.1 = some (tyX3 k) := by decide +kernel
theorem inX3 : ∀ w ∈ u_ws RX3 TX3 2, w ∈ zTB := zTB_list [90, 92] (by decide +kernel) (by decide +kernel)
def RX4 : String := "CamPieces$Spot"
def TX4 : u_T := fun k => match k with
  | 0 => ("CamPieces$Spot", "below", "J", false)
  | 1 => ("CamPieces$Spot", "gain", "J", false)
  | 2 => ("CamPieces$Spot", "slope", "J", false)
  | 3 => ("CamPieces$Spot", "bend", "J", false)
  | _ => ("CamPieces$Spot", "base", "J", false)
def tyX4 : Nat → FieldType := fun k => match k with
  | 0 => .long
  | 1 => .long
  | 2 => .long
  | 3 => .long
  | _ => .long
theorem nmX4 : ∀ a, a < 5 → ∀ b, b < 5 → a ≠ b → (TX4 a).2.1 ≠ (TX4 b).2.1 := by decide +kernel
theorem tyX4_ok : ∀ k, k < 5 → parseFieldDescriptor (TX4 k).2.2.1 = some (tyX4 k) := by decide +kernel
theorem inX4 : ∀ w ∈ u_ws RX4 TX4 5, w ∈ zTB := zTB_list [110, 112, 114, 116, 118] (by decide +kernel) (by decide +kernel)
def RX5 : String := "CamPieces$Train"
def TX5 : u_T := fun k => match k with
  | 0 => ("CamPieces$Train", "kinds", "[I", true)
  | 1 => ("CamPieces$Train", "longs", "[I", true)
  | 2 => ("CamPieces$Train", "rises", "[I", true)
  | _ => ("CamPieces$Train", "size", "I", false)
def tyX5 : Nat → FieldType := fun k => match k with
  | 0 => .array .int
  | 1 => .array .int
  | 2 => .array .int
  | _ => .int
theorem nmX5 : ∀ a, a < 4 → ∀ b, b < 4 → a ≠ b → (TX5 a).2.1 ≠ (TX5 b).2.1 := by decide +kernel
theorem tyX5_ok : ∀ k, k < 4 → parseFieldDescriptor (TX5 k).2.2.1 = some (tyX5 k) := by decide +kernel
theorem inX5 : ∀ w ∈ u_ws RX5 TX5 4, w ∈ zTB := zTB_list [35, 37, 39, 41] (by decide +kernel) (by decide +kernel)
def RX6 : String := "CamPieces$Walk"
def TX6 : u_T := fun k => match k with
  | 0 => ("CamPieces$Walk", "angle", "I", false)
  | 1 => ("CamPieces$Walk", "index", "I", false)
  | 2 => ("CamPieces$Walk", "begin", "I", false)
  | 3 => ("CamPieces$Walk", "base", "I", false)
  | 4 => ("CamPieces$Walk", "u", "I", false)
  | _ => ("CamPieces$Walk", "isClosed", "Z", false)
def tyX6 : Nat → FieldType := fun k => match k with
  | 0 => .int
  | 1 => .int
  | 2 => .int
  | 3 => .int
  | 4 => .int
  | _ => .boolean
theorem nmX6 : ∀ a, a < 6 → ∀ b, b < 6 → a ≠ b → (TX6 a).2.1 ≠ (TX6 b).2.1 := by decide +kernel
theorem tyX6_ok : ∀ k, k < 6 → parseFieldDescriptor (TX6 k).2.2.1 = some (tyX6 k) := by decide +kernel
theorem inX6 : ∀ w ∈ u_ws RX6 TX6 6, w ∈ zTB := zTB_list [134, 136, 138, 140, 142, 144] (by decide +kernel) (by decide +kernel)
def RX7 : String := "CamPieces"
def TX7 : u_T := fun k => match k with
  | 0 => ("CamPieces", "train", "LCamPieces$Train;", true)
  | 1 => ("CamPieces", "settings", "[I", true)
  | 2 => ("CamPieces", "pictured", "LCamPieces$Train;", true)
  | 3 => ("CamPieces", "picturedSettings", "[I", true)
  | 4 => ("CamPieces", "isPictured", "Z", false)
  | 5 => ("CamPieces", "reader", "LCamPieces$Reader;", true)
  | 6 => ("CamPieces", "latestCause", "I", false)
  | 7 => ("CamPieces", "rows", "LCamPieces$Rows;", true)
  | 8 => ("CamPieces", "spot", "LCamPieces$Spot;", true)
  | 9 => ("CamPieces", "walk", "LCamPieces$Walk;", true)
  | 10 => ("CamPieces", "range", "LCamPieces$Range;", true)
  | 11 => ("CamPieces", "ratio", "LCamPieces$Ratio;", true)
  | 12 => ("CamPieces", "ratioAhead", "LCamPieces$Ratio;", true)
  | 13 => ("CamPieces", "samples", "[J", true)
  | _ => ("CamPieces", "corners", "[I", true)
def tyX7 : Nat → FieldType := fun k => match k with
  | 0 => .object "CamPieces$Train"
  | 1 => .array .int
  | 2 => .object "CamPieces$Train"
  | 3 => .array .int
  | 4 => .boolean
  | 5 => .object "CamPieces$Reader"
  | 6 => .int
  | 7 => .object "CamPieces$Rows"
  | 8 => .object "CamPieces$Spot"
  | 9 => .object "CamPieces$Walk"
  | 10 => .object "CamPieces$Range"
  | 11 => .object "CamPieces$Ratio"
  | 12 => .object "CamPieces$Ratio"
  | 13 => .array .long
  | _ => .array .int
theorem nmX7 : ∀ a, a < 15 → ∀ b, b < 15 → a ≠ b → (TX7 a).2.1 ≠ (TX7 b).2.1 := by decide +kernel
theorem tyX7_ok : ∀ k, k < 15 → parseFieldDescriptor (TX7 k).2.2.1 = some (tyX7 k) := by decide +kernel
theorem inX7 : ∀ w ∈ u_ws RX7 TX7 15, w ∈ zTB := zTB_list [204, 206, 208, 210, 212, 214, 216, 218, 220, 222, 224, 226, 228, 230, 232] (by decide +kernel) (by decide +kernel)
def RX8 : String := "CamPiecesModel"
def TX8 : u_T := fun k => match k with
  | 0 => ("CamPiecesModel", "pieces", "I", false)
  | 1 => ("CamPiecesModel", "kinds", "[I", true)
  | 2 => ("CamPiecesModel", "lengths", "[I", true)
  | 3 => ("CamPiecesModel", "rises", "[I", true)
  | 4 => ("CamPiecesModel", "numbers", "[I", true)
  | 5 => ("CamPiecesModel", "leasts", "[I", true)
  | 6 => ("CamPiecesModel", "mosts", "[I", true)
  | 7 => ("CamPiecesModel", "here", "I", false)
  | 8 => ("CamPiecesModel", "far", "I", false)
  | 9 => ("CamPiecesModel", "lift", "J", false)
  | 10 => ("CamPiecesModel", "slope", "J", false)
  | 11 => ("CamPiecesModel", "bend", "J", false)
  | 12 => ("CamPiecesModel", "over", "J", false)
  | 13 => ("CamPiecesModel", "above", "J", false)
  | 14 => ("CamPiecesModel", "below", "J", false)
  | 15 => ("CamPiecesModel", "kindsWere", "[I", true)
  | 16 => ("CamPiecesModel", "samples", "[J", true)
  | 17 => ("CamPiecesModel", "tape", "[I", true)
  | 18 => ("CamPiecesModel", "taped", "I", false)
  | 19 => ("CamPiecesModel", "at", "I", false)
  | 20 => ("CamPiecesModel", "fault", "I", false)
  | 21 => ("CamPiecesModel", "why", "I", false)
  | 22 => ("CamPiecesModel", "cause", "I", false)
  | 23 => ("CamPiecesModel", "camPieces", "I", false)
  | 24 => ("CamPiecesModel", "camKinds", "[I", true)
  | 25 => ("CamPiecesModel", "camLengths", "[I", true)
  | 26 => ("CamPiecesModel", "camRises", "[I", true)
  | 27 => ("CamPiecesModel", "words", "[I", true)
  | 28 => ("CamPiecesModel", "sizes", "[I", true)
  | 29 => ("CamPiecesModel", "items", "[J", true)
  | 30 => ("CamPiecesModel", "imaged", "I", false)
  | 31 => ("CamPiecesModel", "imageKinds", "[I", true)
  | 32 => ("CamPiecesModel", "imageLengths", "[I", true)
  | 33 => ("CamPiecesModel", "imageRises", "[I", true)
  | _ => ("CamPiecesModel", "imageNumbers", "[I", true)
def tyX8 : Nat → FieldType := fun k => match k with
  | 0 => .int
  | 1 => .array .int
  | 2 => .array .int
  | 3 => .array .int
  | 4 => .array .int
  | 5 => .array .int
  | 6 => .array .int
  | 7 => .int
  | 8 => .int
  | 9 => .long
  | 10 => .long
  | 11 => .long
  | 12 => .long
  | 13 => .long
  | 14 => .long
  | 15 => .array .int
  | 16 => .array .long
  | 17 => .array .int
  | 18 => .int
  | 19 => .int
  | 20 => .int
  | 21 => .int
  | 22 => .int
  | 23 => .int
  | 24 => .array .int
  | 25 => .array .int
  | 26 => .array .int
  | 27 => .array .int
  | 28 => .array .int
  | 29 => .array .long
  | 30 => .int
  | 31 => .array .int
  | 32 => .array .int
  | 33 => .array .int
  | _ => .array .int
theorem nmX8 : ∀ a, a < 35 → ∀ b, b < 35 → a ≠ b → (TX8 a).2.1 ≠ (TX8 b).2.1 := by decide +kernel
theorem tyX8_ok : ∀ k, k < 35 → parseFieldDescriptor (TX8 k).2.2.1 = some (tyX8 k) := by decide +kernel
theorem inX8 : ∀ w ∈ u_ws RX8 TX8 35, w ∈ zTB := zTB_list [911, 913, 915, 917, 919, 921, 923, 925, 927, 929, 931, 933, 935, 937, 939, 941, 943, 945, 947, 949, 951, 953, 955, 957, 959, 961, 963, 965, 967, 969, 971, 973, 975, 977, 979] (by decide +kernel) (by decide +kernel)
abbrev zCls : List vw_C := [(RX0, TX0, 3), (RX1, TX1, 2), (RX2, TX2, 8), (RX3, TX3, 2), (RX4, TX4, 5), (RX5, TX5, 4), (RX6, TX6, 6), (RX7, TX7, 15), (RX8, TX8, 35)]
end
section
/-! A SMALL MACHINE OVER THE KIT: worlds by number. A world is a list of cells; a reference is a cell's place in it; 'ad' says where each lies. Z: the method, at this instruction, with these locals, this stack and this world, comes to its end with Q. -/
abbrev zRo : Type := (Nat × (Nat → Int32)) ⊕ ((Nat × (Nat → Int32)) ⊕ ((Nat × Nat) ⊕ ((List (String × String × String × Value)) ⊕ Unit)))
abbrev zE : Type := (Nat × List Value) ⊕ ((Nat × (Nat → Int32)) ⊕ ((Nat × (Nat → Int64)) ⊕ zRo))
abbrev zO (c : Nat) (fs : List Value) : zE := .inl (c, fs)
abbrev zI (n : Nat) (f : Nat → Int32) : zE := .inr (.inl (n, f))
abbrev zL (n : Nat) (f : Nat → Int64) : zE := .inr (.inr (.inl (n, f)))
abbrev zR (n : Nat) (f : Nat → Int32) : zE := .inr (.inr (.inr (.inl (n, f))))
abbrev zRb (n : Nat) (f : Nat → Int32) : zE := .inr (.inr (.inr (.inr (.inl (n, f)))))
abbrev zS (k j : Nat) : zE := .inr (.inr (.inr (.inr (.inr (.inl (k, j))))))
abbrev zT (l : List (String × String × String × Value)) : zE := .inr (.inr (.inr (.inr (.inr (.inr (.inl l))))))
abbrev zU : zE := .inr (.inr (.inr (.inr (.inr (.inr (.inr ()))))))
def zrw : zE → Bool
  | .inl _ => true
  | .inr (.inl _) => true
  | .inr (.inr (.inl _)) => true
  | .inr (.inr (.inr _)) => false
def zv (ad : Nat → Nat) : Value → Value
  | .ref i => .ref (ad i)
  | v => v
def zq (ad : Nat → Nat) (q : Nat × Value) : Nat × Value := (q.1, zv ad q.2)
/-- the texts of the String constants, and their entries in the Reader's file -/
def zStr : List (String × Nat) := [("dwell", 98), ("line", 100), ("start", 102), ("stop", 104), ("cubic", 106), ("quintic", 108)]
def zat (D : va_G) (cI cL : ClassId) (ad : Nat → Nat) (A : Nat → Prop) (U : State) (H : Heap) (a : Nat) : zE → Prop
  | .inl o => A a ∧ ∃ r : vw_C, zCls[o.1]? = some r ∧ t_OB a (D.1 o.1) r.2.2 (D.2 o.1) H (vp_V (o.2.map (zv ad)))
  | .inr (.inl x) => A a ∧ H[a]? = some (vp_cell cI (x.1, .inl x.2))
  | .inr (.inr (.inl x)) => A a ∧ H[a]? = some (vp_cell cL (x.1, .inr (.inl x.2)))
  | .inr (.inr (.inr (.inl x))) => va_T .int a x.1 (fun j => .int (x.2 j)) A U H
  | .inr (.inr (.inr (.inr (.inl x)))) => va_T .byte a x.1 (fun j => .int (x.2 j)) A U H
  | .inr (.inr (.inr (.inr (.inr (.inl x))))) => (∀ st : String × Nat, zStr[x.1]? = some st → vk_R "CamPieces$Reader" st.2 st.1 a U) ∧ va_O "java/lang/String" a A U H ∧ va_OF "java/lang/String" "coder" "B" (.int 0) a A U H ∧ va_OF "java/lang/String" "value" "[B" (.ref (ad x.2)) a A U H
  | .inr (.inr (.inr (.inr (.inr (.inr (.inl l)))))) => (∀ q ∈ l, va_Z q.1 q.2.1 q.2.2.1 (zv ad q.2.2.2) A U H) ∧ a < H.size ∧ ¬ A a
  | .inr (.inr (.inr (.inr (.inr (.inr (.inr _)))))) => va_Zq "jdk/internal/util/Preconditions" "SIOOBE_FORMATTER" "Ljava/util/function/BiFunction;" A U H ∧ a < H.size ∧ ¬ A a
theorem zat_lt {D : va_G} {cI cL : ClassId} {ad : Nat → Nat} {A : Nat → Prop} {U : State} {H : Heap} {a : Nat} {e : zE} (h : zat D cI cL ad A U H a e) : a < H.size := by
  rcases e with o | x | x | x | x | x | x | x
  · obtain ⟨-, r, -, cell, h2, -⟩ := h
    exact (Array.getElem?_eq_some_iff.mp h2).1
  · exact (Array.getElem?_eq_some_iff.mp h.2).1
  · exact (Array.getElem?_eq_some_iff.mp h.2).1
  · obtain ⟨cell, h1, -⟩ := h
    exact (Array.getElem?_eq_some_iff.mp h1).1
  · obtain ⟨cell, h1, -⟩ := h
    exact (Array.getElem?_eq_some_iff.mp h1).1
  · obtain ⟨-, ⟨cell, h1, -⟩, -⟩ := h
    exact (Array.getElem?_eq_some_iff.mp h1).1
  · exact h.2.1
  · exact h.2.1
theorem zat_in {D : va_G} {cI cL : ClassId} {ad : Nat → Nat} {A : Nat → Prop} {U : State} {H : Heap} {a : Nat} {e : zE} (h : zat D cI cL ad A U H a e) (he : zrw e = true) : A a := by
  rcases e with o | x | x | x | x | x | x | x
  · exact h.1
  · exact h.1
  · exact h.1
  all_goals (cases he)
theorem zat_out {D : va_G} {cI cL : ClassId} {ad : Nat → Nat} {A : Nat → Prop} {U : State} {H : Heap} {a : Nat} {e : zE} (h : zat D cI cL ad A U H a e) (he : zrw e = false) : ¬ A a := by
  rcases e with o | x | x | x | x | x | x | x
  · cases he
  · cases he
  · cases he
  · exact h.out
  · exact h.out
  · obtain ⟨-, ⟨cell, h1, h2, h3, h4⟩, -⟩ := h
    exact h4
  · exact h.2.2
  · exact h.2.2
/-- the world goes on through a heap that keeps what it doesn't own -/
theorem zat_kept {D : va_G} {cI cL : ClassId} {ad : Nat → Nat} {A : Nat → Prop} {U : State} {H H1 : Heap} {a : Nat} {e : zE} (h : zat D cI cL ad A U H a e) (hz : H.size ≤ H1.size) (hq : ∀ q : Nat, q < H.size → ¬ A q → H1[q]? = H[q]?) (ha : zrw e = true → H1[a]? = H[a]?) : zat D cI cL ad A U H1 a e := by
  rcases e with o | x | x | x | x | x | x | x
  · obtain ⟨h0, r, h1, h2⟩ := h
    exact ⟨h0, r, h1, h2.kept (ha rfl)⟩
  · exact ⟨h.1, (ha rfl).trans h.2⟩
  · exact ⟨h.1, (ha rfl).trans h.2⟩
  · exact va_T.kept h hq
  · exact va_T.kept h hq
  · exact ⟨h.1, h.2.1.kept hq, h.2.2.1.kept hq, h.2.2.2.kept hq⟩
  · exact ⟨fun q hq2 => (h.1 q hq2).kept hq, Nat.lt_of_lt_of_le h.2.1 hz, h.2.2⟩
  · exact ⟨h.1.kept hq, Nat.lt_of_lt_of_le h.2.1 hz, h.2.2⟩
theorem zat_moved {D : va_G} {cI cL : ClassId} {ad : Nat → Nat} {A : Nat → Prop} {u U : State} {H : Heap} {a : Nat} {e : zE} (hW : u.WarmedH U.vm) (h : zat D cI cL ad A u H a e) : zat D cI cL ad A U H a e := by
  rcases e with o | x | x | x | x | x | x | x
  · exact h
  · exact h
  · exact h
  · exact va_T.moved hW.alike h
  · exact va_T.moved hW.alike h
  · exact ⟨fun st hst => (h.1 st hst).warm hW, h.2.1.moved hW.alike, h.2.2.1.moved hW.alike, h.2.2.2.moved hW.alike⟩
  · exact ⟨fun q hq2 => (h.1 q hq2).moved hW.alike, h.2⟩
  · exact ⟨h.1.moved hW.alike, h.2⟩
/-- the same tables, another state -/
theorem zat_same {D : va_G} {cI cL : ClassId} {ad : Nat → Nat} {A : Nat → Prop} {u U : State} {H : Heap} {a : Nat} {e : zE} (hvm : u.vm = U.vm) (h : zat D cI cL ad A u H a e) : zat D cI cL ad A U H a e := by
  have hA : u.vm.Alike U.vm := by rw [← hvm]; exact Vm.Alike.refl u.vm
  rcases e with o | x | x | x | x | x | x | x
  · exact h
  · exact h
  · exact h
  · exact va_T.moved hA h
  · exact va_T.moved hA h
  · exact ⟨fun st hst => (h.1 st hst).same hvm.symm, h.2.1.moved hA, h.2.2.1.moved hA, h.2.2.2.moved hA⟩
  · exact ⟨fun q hq2 => (h.1 q hq2).moved hA, h.2⟩
  · exact ⟨h.1.moved hA, h.2⟩
/-- another set of the cells that may be written -/
theorem zat_area {D : va_G} {cI cL : ClassId} {ad : Nat → Nat} {A B : Nat → Prop} {U : State} {H : Heap} {a : Nat} {e : zE} (h : zat D cI cL ad A U H a e) (hr : ∀ q, q < H.size → ¬ A q → ¬ B q) (ha : zrw e = true → B a) : zat D cI cL ad B U H a e := by
  rcases e with o | x | x | x | x | x | x | x
  · exact ⟨ha rfl, h.2⟩
  · exact ⟨ha rfl, h.2⟩
  · exact ⟨ha rfl, h.2⟩
  · obtain ⟨cell, h1, h2, h3, h4, h5, h6, h7⟩ := h
    exact ⟨cell, h1, h2, h3, h4, h5, h6, hr _ (Array.getElem?_eq_some_iff.mp h1).1 h7⟩
  · obtain ⟨cell, h1, h2, h3, h4, h5, h6, h7⟩ := h
    exact ⟨cell, h1, h2, h3, h4, h5, h6, hr _ (Array.getElem?_eq_some_iff.mp h1).1 h7⟩
  · obtain ⟨h0, ⟨c1, p1, p2, p3, p4⟩, ⟨cf, k, i, f, c2, q1, q2, q3, q4, q5, q6⟩, ⟨cf', k', i', f', c3, r1, r2, r3, r4, r5, r6⟩⟩ := h
    exact ⟨h0, ⟨c1, p1, p2, p3, hr _ (Array.getElem?_eq_some_iff.mp p1).1 p4⟩, ⟨cf, k, i, f, c2, q1, q2, q3, q4, q5, hr _ (Array.getElem?_eq_some_iff.mp q3).1 q6⟩, ⟨cf', k', i', f', c3, r1, r2, r3, r4, r5, hr _ (Array.getElem?_eq_some_iff.mp r3).1 r6⟩⟩
  · refine ⟨fun q hq2 => ?_, h.2.1, hr _ h.2.1 h.2.2⟩
    obtain ⟨cf, kf, fi, f, a', cell, g1, g2, g3, g4, g5, g6, g7, g8⟩ := h.1 q hq2
    exact ⟨cf, kf, fi, f, a', cell, g1, g2, g3, g4, g5, g6, g7, hr _ (Array.getElem?_eq_some_iff.mp g5).1 g8⟩
  · refine ⟨?_, h.2.1, hr _ h.2.1 h.2.2⟩
    rcases h.1 with ⟨cf, kf, fi, f, a', cell, g1, g2, g3, g4, g5, g6, g7, g8⟩ | ⟨t, cf, kf, fi, f, a', cell, g1, g2, g3, g4, g5, g6, g7, g8⟩
    · exact Or.inl ⟨cf, kf, fi, f, a', cell, g1, g2, g3, g4, g5, g6, g7, hr _ (Array.getElem?_eq_some_iff.mp g5).1 g8⟩
    · exact Or.inr ⟨t, cf, kf, fi, f, a', cell, g1, g2, g3, g4, g5, g6, g7, hr _ (Array.getElem?_eq_some_iff.mp g5).1 g8⟩
def zW (D : va_G) (cI cL : ClassId) (ad : Nat → Nat) (A : Nat → Prop) (U : State) (H : Heap) (mem : List zE) : Prop :=
  (∀ (k : Nat) (e : zE), mem[k]? = some e → zat D cI cL ad A U H (ad k) e) ∧ ∀ (i j : Nat) (x y : zE), mem[i]? = some x → mem[j]? = some y → zrw x = true → zrw y = true → ad i = ad j → i = j
theorem zW.set {D : va_G} {cI cL : ClassId} {ad : Nat → Nat} {A : Nat → Prop} {U : State} {H H1 : Heap} {mem : List zE} {k : Nat} {e0 e1 : zE} (h : zW D cI cL ad A U H mem) (hk : mem[k]? = some e0) (h0 : zrw e0 = true) (he : zat D cI cL ad A U H1 (ad k) e1) (h1 : zrw e1 = true) (z : H1.size = H.size) (oq : ∀ q : Nat, q ≠ ad k → H1[q]? = H[q]?) : zW D cI cL ad A U H1 (mem.set k e1) := by
  have hl := (List.getElem?_eq_some_iff.mp hk).1
  have hA : A (ad k) := zat_in (h.1 k e0 hk) h0
  refine ⟨fun j e hj => ?_, fun i j x y hi hj hx hy hxy => ?_⟩
  · by_cases hjk : j = k
    · subst hjk
      rw [List.getElem?_set_self hl] at hj
      cases hj
      exact he
    · rw [List.getElem?_set_ne (Ne.symm hjk)] at hj
      refine zat_kept (h.1 j e hj) (by omega) (fun q _ hq => oq q (fun z => hq (z ▸ hA))) (fun hr => oq _ (fun z => hjk (h.2 j k e e0 hj hk hr h0 z)))
  · have key : ∀ (n : Nat) (w : zE), (mem.set k e1)[n]? = some w → ∃ w0, mem[n]? = some w0 ∧ (zrw w = true → zrw w0 = true) := by
      intro n w hn
      by_cases hnk : n = k
      · subst hnk
        exact ⟨e0, hk, fun _ => h0⟩
      · rw [List.getElem?_set_ne (Ne.symm hnk)] at hn
        exact ⟨w, hn, fun q => q⟩
    obtain ⟨x0, a1, a2⟩ := key i x hi
    obtain ⟨y0, b1, b2⟩ := key j y hj
    exact h.2 i j x0 y0 a1 b1 (a2 hx) (b2 hy) hxy
theorem zW.moved {D : va_G} {cI cL : ClassId} {ad : Nat → Nat} {A : Nat → Prop} {u U : State} {H : Heap} {mem : List zE} (hW : u.WarmedH U.vm) (h : zW D cI cL ad A u H mem) : zW D cI cL ad A U H mem := ⟨fun k e hk => zat_moved hW (h.1 k e hk), h.2⟩
theorem zW.same {D : va_G} {cI cL : ClassId} {ad : Nat → Nat} {A : Nat → Prop} {u U : State} {H : Heap} {mem : List zE} (hvm : u.vm = U.vm) (h : zW D cI cL ad A u H mem) : zW D cI cL ad A U H mem := ⟨fun k e hk => zat_same hvm (h.1 k e hk), h.2⟩
/-- a method: its name, its bytes, how many locals, its answer's type, its instructions (place, instruction, length, next place) -/
abbrev zM : Type := MethodName × ByteArray × Nat × Option FieldType × List (Nat × Instr × Nat × Nat)
/-- launch, method, room, cells and slots that it may make, whether it makes any, what holds at its end -/
abbrev zX : Type := Launch × zM × Room × (Nat × Nat) × Bool × (Option Value → List zE → Prop)
abbrev zX.M (X : zX) : zM := X.2.1
abbrev zX.R (X : zX) : Room := X.2.2.1
abbrev zX.mc (X : zX) : Nat := X.2.2.2.1.1
abbrev zX.ms (X : zX) : Nat := X.2.2.2.1.2
abbrev zX.al (X : zX) : Bool := X.2.2.2.2.1
abbrev zX.Q (X : zX) : Option Value → List zE → Prop := X.2.2.2.2.2
abbrev zX.I (X : zX) : List (Nat × Instr × Nat × Nat) := X.2.1.2.2.2.2
def zDec (M : zM) : Prop := ∀ q ∈ M.2.2.2.2, decode M.2.1 q.1 = .ok (q.2.1, q.2.2.1) ∧ q.1 + q.2.2.1 = q.2.2.2
def zAg (al : Bool) (n0 : Nat) (ad ad0 : Nat → Nat) : Prop := if al = true then ∀ i, i < n0 → ad i = ad0 i else ad = ad0
theorem zAg.rf {al : Bool} {n0 : Nat} {ad : Nat → Nat} : zAg al n0 ad ad := by
  unfold zAg
  split
  · exact fun _ _ => rfl
  · rfl
theorem zAg.at {al : Bool} {n0 : Nat} {ad ad0 : Nat → Nat} (h : zAg al n0 ad ad0) (i : Nat) (hi : i < n0) : ad i = ad0 i := by
  unfold zAg at h
  split at h
  · exact h i hi
  · rw [h]
def zQ (al : Bool) (Q : Option Value → List zE → Prop) (D : va_G) (cI cL : ClassId) (A : Nat → Prop) (ad0 : Nat → Nat) (n0 : Nat) : Array Value → State → Outcome → State → Prop := fun _ st oc t =>
  ∃ (r : Option Value) (mem : List zE) (ad : Nat → Nat), oc = .returned (r.map (zv ad)) ∧ Q r mem ∧ zAg al n0 ad ad0 ∧ n0 ≤ mem.length ∧ zW D cI cL ad A t t.heap mem ∧ va_F A st t
def zBody (M : zM) (D : va_G) (cI cL : ClassId) (p : Program) (s : State) (m : MethodId) (args : Array Value) (meth : Method) (c : Code) : Prop :=
  p.tables.exec = Jvm.exec ∧ c.code = M.2.1 ∧ c.maxLocals = M.2.2.1 ∧ meth.sig.returnType = M.2.2.2.1 ∧ meth.locks = false ∧ s.vm.findClass M.1.cls = some m.cls ∧ meth.name = M.1.name ∧ (∀ w ∈ zTB, w.before args s = true) ∧ (∀ w ∈ zNW, va_Nw w s) ∧ va_K D zCls [(cI, .int), (cL, .long)] s
def Z (X : zX) (kc ks : Nat) (mem : List zE) (pc : Nat) (lv : List (Nat × Value)) (st : List Value) : Prop :=
  ∀ (D : va_G) (cI cL : ClassId) (ad ad0 : Nat → Nat) (n0 : Nat) (A : Nat → Prop) (p : Program) (e : Env) (s : State) (m : MethodId) (args : Array Value) (below : List Frame) (meth : Method) (c : Code) (H : Heap) (locs : List Loc) (ls : Array Slot),
    zDec X.M → zBody X.M D cI cL p s m args meth c → zW D cI cL ad A s H mem → zAg X.al n0 ad ad0 → n0 ≤ mem.length → (∀ q, s.heap.size ≤ q → A q) → va_S A s.heap H locs → lv_has ls X.M.2.2.1 (lv.map (zq ad)) →
    W p X.1 e X.R s m args below meth c H locs kc ks (MQ below (zQ X.al X.Q D cI cL A ad0 n0) args s X.mc X.ms A) (F0 m pc ls (st.map (zv ad)))
/-- the cells that a method may write: those of its world that aren't read-only, and those that it makes -/
def zA (mem : List zE) (ad : Nat → Nat) (sz : Nat) : Nat → Prop := fun q => (∃ (i : Nat) (e : zE), mem[i]? = some e ∧ zrw e = true ∧ ad i = q) ∨ sz ≤ q
def zws (M : zM) : List Cond := .code M.1 M.2.1 M.2.2.1 M.2.2.2.1 :: zTB
/-- the contract of a method -/
def Con (l : Launch) (M : zM) (rm : Room) (mc ms : Nat) (al : Bool) (args : List Value) (mem : List zE) (Q : Option Value → List zE → Prop) : Prop :=
  ∀ (D : va_G) (cI cL : ClassId) (ad0 : Nat → Nat) (sz : Nat), Met l M.1 (zws M) rm (va_Pc (args.map (zv ad0)) (fun U => U.heap.size = sz ∧ zW D cI cL ad0 (zA mem ad0 sz) U U.heap mem ∧ va_K D zCls [(cI, .int), (cL, .long)] U ∧ ∀ w ∈ zNW, va_Nw w U)) (zQ al Q D cI cL (zA mem ad0 sz) ad0 mem.length) mc ms (zA mem ad0 sz)
theorem zv_cat (ad : Nat → Nat) (v : Value) : (zv ad v).category = v.category := by cases v <;> rfl
theorem lg_sl_zv (ad : Nat → Nat) : ∀ vs : List Value, (lg_sl (vs.map (zv ad))).length = (lg_sl vs).length := by
  intro vs
  induction vs with
  | nil => rfl
  | cons v vs ih =>
    simp only [List.map_cons, lg_sl, List.flatMap_cons, List.length_append] at ih ⊢
    rw [ih, zv_cat]
    congr 1
    split <;> rfl
theorem lv_args_zv (ad : Nat → Nat) : ∀ (vs : List Value) (i : Nat), lv_args i (vs.map (zv ad)) = (lv_args i vs).map (zq ad) := by
  intro vs
  induction vs with
  | nil => intro i; rfl
  | cons v vs ih =>
    intro i
    simp only [List.map_cons, lv_args]
    rw [ih, zv_cat]
    rfl
end
section
/-! whole numbers as Java's ints and longs; the rows of Z, one an instruction, in whole numbers -/
def iI (x : Int) : Int32 := Int32.ofInt x
def lI (x : Int) : Int64 := Int64.ofInt x
abbrev inI (x : Int) : Prop := -2147483648 ≤ x ∧ x ≤ 2147483647
abbrev inL (x : Int) : Prop := -9223372036854775808 ≤ x ∧ x ≤ 9223372036854775807
theorem iI_t {x : Int} (h : inI x) : (iI x).toInt = x := by
  unfold iI; rw [Int32.toInt_ofInt]; exact Int.bmod_eq_of_le (by simp; omega) (by simp; omega)
theorem lI_t {x : Int} (h : inL x) : (lI x).toInt = x := by
  unfold lI; rw [Int64.toInt_ofInt]; exact Int.bmod_eq_of_le (by simp; omega) (by simp; omega)
theorem iI_o (x : Int32) : iI x.toInt = x := by unfold iI; exact Int32.ofInt_toInt x
theorem lI_o (x : Int64) : lI x.toInt = x := by unfold lI; exact Int64.ofInt_toInt x
theorem iI_in (x : Int32) : inI x.toInt := by
  have h1 := Int32.le_toInt x
  have h2 := Int32.toInt_lt x
  constructor <;> omega
theorem lI_in (x : Int64) : inL x.toInt := by
  have h1 := Int64.le_toInt x
  have h2 := Int64.toInt_lt x
  constructor <;> omega
theorem iI_add (a b : Int) : iI a + iI b = iI (a + b) := by unfold iI; rw [Int32.ofInt_add]
theorem iI_sub (a b : Int) : iI a - iI b = iI (a - b) := by unfold iI; rw [Int32.ofInt_sub]
theorem iI_mul (a b : Int) : iI a * iI b = iI (a * b) := by unfold iI; rw [Int32.ofInt_mul]
theorem iI_neg (a : Int) : -iI a = iI (-a) := by unfold iI; rw [Int32.ofInt_neg]
theorem lI_add (a b : Int) : lI a + lI b = lI (a + b) := by unfold lI; rw [Int64.ofInt_add]
theorem lI_sub (a b : Int) : lI a - lI b = lI (a - b) := by unfold lI; rw [Int64.ofInt_sub]
theorem lI_mul (a b : Int) : lI a * lI b = lI (a * b) := by unfold lI; rw [Int64.ofInt_mul]
theorem lI_neg (a : Int) : -lI a = lI (-a) := by unfold lI; rw [Int64.ofInt_neg]
theorem iI_lt {a b : Int} (ha : inI a) (hb : inI b) : iI a < iI b ↔ a < b := by rw [Int32.lt_iff_toInt_lt, iI_t ha, iI_t hb]
theorem iI_le {a b : Int} (ha : inI a) (hb : inI b) : iI a ≤ iI b ↔ a ≤ b := by rw [Int32.le_iff_toInt_le, iI_t ha, iI_t hb]
theorem iI_eq {a b : Int} (ha : inI a) (hb : inI b) : iI a = iI b ↔ a = b := by rw [← Int32.toInt_inj, iI_t ha, iI_t hb]
theorem lI_lt {a b : Int} (ha : inL a) (hb : inL b) : lI a < lI b ↔ a < b := by rw [Int64.lt_iff_toInt_lt, lI_t ha, lI_t hb]
theorem lI_le {a b : Int} (ha : inL a) (hb : inL b) : lI a ≤ lI b ↔ a ≤ b := by rw [Int64.le_iff_toInt_le, lI_t ha, lI_t hb]
theorem lI_eq {a b : Int} (ha : inL a) (hb : inL b) : lI a = lI b ↔ a = b := by rw [← Int64.toInt_inj, lI_t ha, lI_t hb]
theorem lI_0 : lI 0 = 0 := rfl
theorem iI_0 : iI 0 = 0 := rfl
theorem iI_l {a : Int} (h : inI a) : (iI a).toInt64 = lI a := by
  rw [← Int64.toInt_inj, Int32.toInt_toInt64, iI_t h, lI_t (by omega)]
theorem lI_i (a : Int) : (lI a).toInt32 = iI a := by
  unfold lI iI
  rw [← Int32.toInt_inj, Int64.toInt_toInt32, Int64.toInt_ofInt, Int32.toInt_ofInt]
  exact Int.bmod_bmod_of_dvd (by decide)
theorem lI_div {a b : Int} (ha : inL a) (hb : inL b) (h0 : 0 < b) : lI a / lI b = lI (a.tdiv b) := by
  rw [← Int64.toInt_inj, Int64.toInt_div, lI_t ha, lI_t hb]
  have h1 : inL (a.tdiv b) := by
    have h2 := Int.natAbs_tdiv_le_natAbs a b
    rcases Int.le_total 0 a with h | h
    · have h3 := Int.tdiv_nonneg h (show 0 ≤ b by omega)
      omega
    · have h3 := Int.tdiv_nonneg (show 0 ≤ -a by omega) (show 0 ≤ b by omega)
      rw [Int.neg_tdiv] at h3
      omega
  rw [lI_t h1]
  exact Int.bmod_eq_of_le (by simp; omega) (by simp; omega)
theorem lI_rem {a b : Int} (ha : inL a) (hb : inL b) (h0 : 0 < b) : lI a - lI a / lI b * lI b = lI (a.tmod b) := by
  rw [lI_div ha hb h0, lI_mul, lI_sub, Int.tmod_def, Int.mul_comm]
theorem iI_div {a b : Int} (ha : inI a) (hb : inI b) (h0 : 0 < b) : iI a / iI b = iI (a.tdiv b) := by
  rw [← Int32.toInt_inj, Int32.toInt_div, iI_t ha, iI_t hb]
  have h1 : inI (a.tdiv b) := by
    have h2 := Int.natAbs_tdiv_le_natAbs a b
    rcases Int.le_total 0 a with h | h
    · have h3 := Int.tdiv_nonneg h (show 0 ≤ b by omega)
      omega
    · have h3 := Int.tdiv_nonneg (show 0 ≤ -a by omega) (show 0 ≤ b by omega)
      rw [Int.neg_tdiv] at h3
      omega
  rw [iI_t h1]
  exact Int.bmod_eq_of_le (by simp; omega) (by simp; omega)
theorem iI_rem {a b : Int} (ha : inI a) (hb : inI b) (h0 : 0 < b) : iI a - iI a / iI b * iI b = iI (a.tmod b) := by
  rw [iI_div ha hb h0, iI_mul, iI_sub, Int.tmod_def, Int.mul_comm]
theorem iI_ix {i : Int} {n : Nat} (h : 0 ≤ i ∧ i < n) (hn : n < 2147483648) : vp_in (iI i) n ∧ (iI i).toNatClampNeg = i.toNat := by
  have h1 : inI i := by omega
  have h2 := iI_t h1
  refine ⟨vp_in_iff.mpr (by rw [h2]; omega), ?_⟩
  show (iI i).toInt.toNat = i.toNat
  rw [h2]
/-- a row of ints, of longs, in whole numbers; a read-only one -/
def aI (n : Nat) (F : Int → Int) : zE := zI n (fun j => iI (F (j : Int)))
def aL (n : Nat) (F : Int → Int) : zE := zL n (fun j => lI (F (j : Int)))
def aR (n : Nat) (F : Int → Int) : zE := zR n (fun j => iI (F (j : Int)))
def aB (n : Nat) (F : Int → Int) : zE := zRb n (fun j => iI (F (j : Int)))
def uI (F : Int → Int) (i v : Int) : Int → Int := fun j => if j = i then v else F j
theorem uI_s (F : Int → Int) (i v : Int) : uI F i v i = v := by simp [uI]
theorem uI_n (F : Int → Int) {i j : Int} (v : Int) (h : j ≠ i) : uI F i v j = F j := by simp [uI, h]
section ZR
variable {X : zX} {kc ks : Nat} {mem : List zE} {pc n : Nat} {lv : List (Nat × Value)} {st : List Value}
theorem zI_dec {X : zX} (hd : zDec X.M) {k pc len n : Nat} {i : Instr} (h : X.I[k]? = some (pc, i, len, n)) : decode X.M.2.1 pc = .ok (i, len) ∧ pc + len = n := hd (pc, i, len, n) (List.mem_of_getElem? h)
theorem zlv_at {ad : Nat → Nat} {ls : Array Slot} {nL i : Nat} {v : Value} (h : lv_has ls nL (lv.map (zq ad))) (hi : (i, v) ∈ lv) : ls[i]? = some (.val (zv ad v)) := h.2.2 (i, zv ad v) (List.mem_map.mpr ⟨(i, v), hi, rfl⟩)
def zlk : List (Nat × Value) → Nat → Option Value
  | [], _ => none
  | q :: l, i => if q.1 = i then some q.2 else zlk l i
theorem zlk_mem : ∀ {lv : List (Nat × Value)} {i : Nat} {v : Value}, zlk lv i = some v → (i, v) ∈ lv := by
  intro lv
  induction lv with
  | nil => intro i v h; cases h
  | cons q l ih =>
    intro i v h
    unfold zlk at h
    split at h
    · rename_i hq
      cases h
      subst hq
      exact List.mem_cons_self
    · exact List.mem_cons_of_mem _ (ih h)
/-- a store of one slot, of two -/
def zst1 (lv : List (Nat × Value)) (i : Nat) (v : Value) : List (Nat × Value) := (i, v) :: lv.filter (fun q => !(q.1 == i) && !(q.1 + 1 == i && q.2.category == 2))
def zst2 (lv : List (Nat × Value)) (i : Nat) (v : Value) : List (Nat × Value) := (i, v) :: lv.filter (fun q => !(q.1 == i) && (!(q.1 == i + 1) && !(q.1 + 1 == i && q.2.category == 2)))
theorem zst1_map (ad : Nat → Nat) (i : Nat) (v : Value) : (i, zv ad v) :: (lv.map (zq ad)).filter (fun q => !(q.1 == i) && !(q.1 + 1 == i && q.2.category == 2)) = (zst1 lv i v).map (zq ad) := by
  simp only [zst1, List.map_cons, zq, List.filter_map]
  congr 2
  apply List.filter_congr
  intro q _
  simp [zq, zv_cat]
theorem zst2_map (ad : Nat → Nat) (i : Nat) (v : Value) : (i, zv ad v) :: (lv.map (zq ad)).filter (fun q => !(q.1 == i) && (!(q.1 == i + 1) && !(q.1 + 1 == i && q.2.category == 2))) = (zst2 lv i v).map (zq ad) := by
  simp only [zst2, List.map_cons, zq, List.filter_map]
  congr 2
  apply List.filter_congr
  intro q _
  simp [zq, zv_cat]
/-- fewer locals; another name for what lies on top; more room; a weaker end -/
theorem Z_lv {lv' : List (Nat × Value)} (h : ∀ q ∈ lv', q ∈ lv) (kk : Z X kc ks mem pc lv' st) : Z X kc ks mem pc lv st := by
  intro D cI cL ad ad0 n0 A p e s m args below meth c H locs ls hd hB hWd hag hn hA hS hl
  refine kk D cI cL ad ad0 n0 A p e s m args below meth c H locs ls hd hB hWd hag hn hA hS ⟨hl.1, hl.2.1, fun q hq => ?_⟩
  obtain ⟨q0, h1, h2⟩ := List.mem_map.mp hq
  exact hl.2.2 q (List.mem_map.mpr ⟨q0, h q0 h1, h2⟩)
/-- the same locals in another order, or fewer: by their numbers -/
theorem Z_ls {lv' : List (Nat × Value)} (h : lv'.all (fun q => lv.any (fun r => r.1 == q.1)) = true) (h2 : ∀ q ∈ lv', zlk lv q.1 = some q.2) (kk : Z X kc ks mem pc lv' st) : Z X kc ks mem pc lv st :=
  Z_lv (fun q hq => by have := zlk_mem (h2 q hq); exact this) kk
theorem Z_ti {x y : Int32} (h : x = y) (kk : Z X kc ks mem pc lv (.int y :: st)) : Z X kc ks mem pc lv (.int x :: st) := by rw [h]; exact kk
theorem Z_tl {x y : Int64} (h : x = y) (kk : Z X kc ks mem pc lv (.long y :: st)) : Z X kc ks mem pc lv (.long x :: st) := by rw [h]; exact kk
theorem Z_ci {x y : Int} (h : x = y) (kk : Z X kc ks mem pc lv (.int (iI y) :: st)) : Z X kc ks mem pc lv (.int (iI x) :: st) := by rw [h]; exact kk
theorem Z_cl {x y : Int} (h : x = y) (kk : Z X kc ks mem pc lv (.long (lI y) :: st)) : Z X kc ks mem pc lv (.long (lI x) :: st) := by rw [h]; exact kk
theorem Z_mem {mem' : List zE} (h : mem = mem') (kk : Z X kc ks mem' pc lv st) : Z X kc ks mem pc lv st := by rw [h]; exact kk
theorem Z_room {kc' ks' : Nat} (h1 : kc ≤ kc') (h2 : ks ≤ ks') (kk : Z X kc' ks' mem pc lv st) : Z X kc ks mem pc lv st := by
  intro D cI cL ad ad0 n0 A p e s m args below meth c H locs ls hd hB hWd hag hn hA hS hl
  exact W.widen h1 h2 (kk D cI cL ad ad0 n0 A p e s m args below meth c H locs ls hd hB hWd hag hn hA hS hl)

theorem Z_iconst (k : Nat) {c : Int} (h : X.I[k]? = some (pc, .iconst c, 1, n))  (kk : Z X kc ks mem n lv (.int (iI c) :: st)) : Z X kc ks mem pc lv (st) := by
  intro D cI cL ad ad0 n0 A p e s m args below meth c H locs ls hd hB hWd hag hn hA hS hl
  obtain ⟨h1, rfl⟩ := zI_dec hd h
  exact lv_iconst hB.1 hB.2.1 h1 rfl (kk D cI cL ad ad0 n0 A p e s m args below meth c H locs ls hd hB hWd hag hn hA hS hl)

theorem Z_bipush (k : Nat) {c : Int} (h : X.I[k]? = some (pc, .bipush c, 2, n)) (hv : (Int8.ofInt c).toInt32 = iI c) (kk : Z X kc ks mem n lv (.int (iI c) :: st)) : Z X kc ks mem pc lv (st) := by
  intro D cI cL ad ad0 n0 A p e s m args below meth c H locs ls hd hB hWd hag hn hA hS hl
  obtain ⟨h1, rfl⟩ := zI_dec hd h
  exact lv_bipush hB.1 hB.2.1 h1 hv (kk D cI cL ad ad0 n0 A p e s m args below meth c H locs ls hd hB hWd hag hn hA hS hl)

theorem Z_sipush (k : Nat) {c : Int} (h : X.I[k]? = some (pc, .sipush c, 3, n)) (hv : (Int16.ofInt c).toInt32 = iI c) (kk : Z X kc ks mem n lv (.int (iI c) :: st)) : Z X kc ks mem pc lv (st) := by
  intro D cI cL ad ad0 n0 A p e s m args below meth c H locs ls hd hB hWd hag hn hA hS hl
  obtain ⟨h1, rfl⟩ := zI_dec hd h
  exact lv_sipush hB.1 hB.2.1 h1 hv (kk D cI cL ad ad0 n0 A p e s m args below meth c H locs ls hd hB hWd hag hn hA hS hl)

theorem Z_lconst (k : Nat) {c : Fin 2} (h : X.I[k]? = some (pc, .lconst c, 1, n))  (kk : Z X kc ks mem n lv (.long (lI (c : Nat)) :: st)) : Z X kc ks mem pc lv (st) := by
  intro D cI cL ad ad0 n0 A p e s m args below meth c H locs ls hd hB hWd hag hn hA hS hl
  obtain ⟨h1, rfl⟩ := zI_dec hd h
  exact lv_lconst hB.1 hB.2.1 h1 rfl (kk D cI cL ad ad0 n0 A p e s m args below meth c H locs ls hd hB hWd hag hn hA hS hl)

theorem Z_ldc (k : Nat) {idx : Nat} {v : Int32} {c : Int} (h : X.I[k]? = some (pc, .ldc idx, 2, n)) (hw : Cond.constant X.M.1.cls idx v ∈ zTB) (hv : v = iI c) (kk : Z X kc ks mem n lv (.int (iI c) :: st)) : Z X kc ks mem pc lv (st) := by
  intro D cI cL ad ad0 n0 A p e s m args below meth c H locs ls hd hB hWd hag hn hA hS hl
  obtain ⟨h1, rfl⟩ := zI_dec hd h
  subst hv
  exact lv_ldc hB.1 hB.2.1 hB.2.2.2.2.2.1 (hB.2.2.2.2.2.2.2.1 _ hw) h1 (kk D cI cL ad ad0 n0 A p e s m args below meth c H locs ls hd hB hWd hag hn hA hS hl)

theorem Z_ldc2 (k : Nat) {idx : Nat} {v : Int64} {c : Int} (h : X.I[k]? = some (pc, .ldc2_w idx, 3, n)) (hw : Cond.constantLong X.M.1.cls idx v ∈ zTB) (hv : v = lI c) (kk : Z X kc ks mem n lv (.long (lI c) :: st)) : Z X kc ks mem pc lv (st) := by
  intro D cI cL ad ad0 n0 A p e s m args below meth c H locs ls hd hB hWd hag hn hA hS hl
  obtain ⟨h1, rfl⟩ := zI_dec hd h
  subst hv
  exact lv_ldc2 hB.1 hB.2.1 hB.2.2.2.2.2.1 (hB.2.2.2.2.2.2.2.1 _ hw) h1 (kk D cI cL ad ad0 n0 A p e s m args below meth c H locs ls hd hB hWd hag hn hA hS hl)

theorem Z_iload_n (k : Nat) {j : Fin 4} {i : Nat} {x : Int32} (h : X.I[k]? = some (pc, .iload_n j, 1, n)) (hj : (j : Nat) = i) (hx : zlk lv i = some (.int x)) (kk : Z X kc ks mem n lv (.int x :: st)) : Z X kc ks mem pc lv (st) := by
  intro D cI cL ad ad0 n0 A p e s m args below meth c H locs ls hd hB hWd hag hn hA hS hl
  obtain ⟨h1, rfl⟩ := zI_dec hd h
  exact lv_iload_n hB.1 hB.2.1 h1 hj (zlv_at hl (zlk_mem hx)) (kk D cI cL ad ad0 n0 A p e s m args below meth c H locs ls hd hB hWd hag hn hA hS hl)

theorem Z_iload (k : Nat) {i : Nat} {x : Int32} (h : X.I[k]? = some (pc, .iload i, 2, n)) (hx : zlk lv i = some (.int x)) (kk : Z X kc ks mem n lv (.int x :: st)) : Z X kc ks mem pc lv (st) := by
  intro D cI cL ad ad0 n0 A p e s m args below meth c H locs ls hd hB hWd hag hn hA hS hl
  obtain ⟨h1, rfl⟩ := zI_dec hd h
  exact lv_iload hB.1 hB.2.1 h1 (zlv_at hl (zlk_mem hx)) (kk D cI cL ad ad0 n0 A p e s m args below meth c H locs ls hd hB hWd hag hn hA hS hl)

theorem Z_lload_n (k : Nat) {j : Fin 4} {i : Nat} {x : Int64} (h : X.I[k]? = some (pc, .lload_n j, 1, n)) (hj : (j : Nat) = i) (hx : zlk lv i = some (.long x)) (kk : Z X kc ks mem n lv (.long x :: st)) : Z X kc ks mem pc lv (st) := by
  intro D cI cL ad ad0 n0 A p e s m args below meth c H locs ls hd hB hWd hag hn hA hS hl
  obtain ⟨h1, rfl⟩ := zI_dec hd h
  exact lv_lload_n hB.1 hB.2.1 h1 hj (zlv_at hl (zlk_mem hx)) (kk D cI cL ad ad0 n0 A p e s m args below meth c H locs ls hd hB hWd hag hn hA hS hl)

theorem Z_lload (k : Nat) {i : Nat} {x : Int64} (h : X.I[k]? = some (pc, .lload i, 2, n)) (hx : zlk lv i = some (.long x)) (kk : Z X kc ks mem n lv (.long x :: st)) : Z X kc ks mem pc lv (st) := by
  intro D cI cL ad ad0 n0 A p e s m args below meth c H locs ls hd hB hWd hag hn hA hS hl
  obtain ⟨h1, rfl⟩ := zI_dec hd h
  exact lv_lload hB.1 hB.2.1 h1 (zlv_at hl (zlk_mem hx)) (kk D cI cL ad ad0 n0 A p e s m args below meth c H locs ls hd hB hWd hag hn hA hS hl)

theorem Z_aload_n (k : Nat) {j : Fin 4} {i : Nat} {x : Nat} (h : X.I[k]? = some (pc, .aload_n j, 1, n)) (hj : (j : Nat) = i) (hx : zlk lv i = some (.ref x)) (kk : Z X kc ks mem n lv (.ref x :: st)) : Z X kc ks mem pc lv (st) := by
  intro D cI cL ad ad0 n0 A p e s m args below meth c H locs ls hd hB hWd hag hn hA hS hl
  obtain ⟨h1, rfl⟩ := zI_dec hd h
  exact lv_aload_n hB.1 hB.2.1 h1 hj (zlv_at hl (zlk_mem hx)) (kk D cI cL ad ad0 n0 A p e s m args below meth c H locs ls hd hB hWd hag hn hA hS hl)

theorem Z_aload (k : Nat) {i : Nat} {x : Nat} (h : X.I[k]? = some (pc, .aload i, 2, n)) (hx : zlk lv i = some (.ref x)) (kk : Z X kc ks mem n lv (.ref x :: st)) : Z X kc ks mem pc lv (st) := by
  intro D cI cL ad ad0 n0 A p e s m args below meth c H locs ls hd hB hWd hag hn hA hS hl
  obtain ⟨h1, rfl⟩ := zI_dec hd h
  exact lv_aload hB.1 hB.2.1 h1 (zlv_at hl (zlk_mem hx)) (kk D cI cL ad ad0 n0 A p e s m args below meth c H locs ls hd hB hWd hag hn hA hS hl)

theorem Z_istore_n (k : Nat) {j : Fin 4} {i : Nat} {x : Int32} {lv' : List (Nat × Value)} (h : X.I[k]? = some (pc, .istore_n j, 1, n)) (hj : (j : Nat) = i) (hi : i < X.M.2.2.1) (hl' : zst1 lv i (.int x) = lv') (kk : Z X kc ks mem n lv' st) : Z X kc ks mem pc lv (.int x :: st) := by
  intro D cI cL ad ad0 n0 A p e s m args below meth c H locs ls hd hB hWd hag hn hA hS hl
  obtain ⟨h1, rfl⟩ := zI_dec hd h
  subst hl'
  exact lv_istore_n hB.1 hB.2.1 h1 hj hl hi (zst1_map ad i (.int x)) (fun ls' hl2 => kk D cI cL ad ad0 n0 A p e s m args below meth c H locs ls' hd hB hWd hag hn hA hS hl2)

theorem Z_istore (k : Nat)  {i : Nat} {x : Int32} {lv' : List (Nat × Value)} (h : X.I[k]? = some (pc, .istore i, 2, n))  (hi : i < X.M.2.2.1) (hl' : zst1 lv i (.int x) = lv') (kk : Z X kc ks mem n lv' st) : Z X kc ks mem pc lv (.int x :: st) := by
  intro D cI cL ad ad0 n0 A p e s m args below meth c H locs ls hd hB hWd hag hn hA hS hl
  obtain ⟨h1, rfl⟩ := zI_dec hd h
  subst hl'
  exact lv_istore hB.1 hB.2.1 h1  hl hi (zst1_map ad i (.int x)) (fun ls' hl2 => kk D cI cL ad ad0 n0 A p e s m args below meth c H locs ls' hd hB hWd hag hn hA hS hl2)

theorem Z_lstore_n (k : Nat) {j : Fin 4} {i : Nat} {x : Int64} {lv' : List (Nat × Value)} (h : X.I[k]? = some (pc, .lstore_n j, 1, n)) (hj : (j : Nat) = i) (hi : i + 1 < X.M.2.2.1) (hl' : zst2 lv i (.long x) = lv') (kk : Z X kc ks mem n lv' st) : Z X kc ks mem pc lv (.long x :: st) := by
  intro D cI cL ad ad0 n0 A p e s m args below meth c H locs ls hd hB hWd hag hn hA hS hl
  obtain ⟨h1, rfl⟩ := zI_dec hd h
  subst hl'
  exact lv_lstore_n hB.1 hB.2.1 h1 hj hl hi (zst2_map ad i (.long x)) (fun ls' hl2 => kk D cI cL ad ad0 n0 A p e s m args below meth c H locs ls' hd hB hWd hag hn hA hS hl2)

theorem Z_lstore (k : Nat)  {i : Nat} {x : Int64} {lv' : List (Nat × Value)} (h : X.I[k]? = some (pc, .lstore i, 2, n))  (hi : i + 1 < X.M.2.2.1) (hl' : zst2 lv i (.long x) = lv') (kk : Z X kc ks mem n lv' st) : Z X kc ks mem pc lv (.long x :: st) := by
  intro D cI cL ad ad0 n0 A p e s m args below meth c H locs ls hd hB hWd hag hn hA hS hl
  obtain ⟨h1, rfl⟩ := zI_dec hd h
  subst hl'
  exact lv_lstore hB.1 hB.2.1 h1  hl hi (zst2_map ad i (.long x)) (fun ls' hl2 => kk D cI cL ad ad0 n0 A p e s m args below meth c H locs ls' hd hB hWd hag hn hA hS hl2)

theorem Z_astore_n (k : Nat) {j : Fin 4} {i : Nat} {x : Nat} {lv' : List (Nat × Value)} (h : X.I[k]? = some (pc, .astore_n j, 1, n)) (hj : (j : Nat) = i) (hi : i < X.M.2.2.1) (hl' : zst1 lv i (.ref x) = lv') (kk : Z X kc ks mem n lv' st) : Z X kc ks mem pc lv (.ref x :: st) := by
  intro D cI cL ad ad0 n0 A p e s m args below meth c H locs ls hd hB hWd hag hn hA hS hl
  obtain ⟨h1, rfl⟩ := zI_dec hd h
  subst hl'
  exact lv_astore_n hB.1 hB.2.1 h1 hj hl hi (zst1_map ad i (.ref x)) (fun ls' hl2 => kk D cI cL ad ad0 n0 A p e s m args below meth c H locs ls' hd hB hWd hag hn hA hS hl2)

theorem Z_astore (k : Nat)  {i : Nat} {x : Nat} {lv' : List (Nat × Value)} (h : X.I[k]? = some (pc, .astore i, 2, n))  (hi : i < X.M.2.2.1) (hl' : zst1 lv i (.ref x) = lv') (kk : Z X kc ks mem n lv' st) : Z X kc ks mem pc lv (.ref x :: st) := by
  intro D cI cL ad ad0 n0 A p e s m args below meth c H locs ls hd hB hWd hag hn hA hS hl
  obtain ⟨h1, rfl⟩ := zI_dec hd h
  subst hl'
  exact lv_astore hB.1 hB.2.1 h1  hl hi (zst1_map ad i (.ref x)) (fun ls' hl2 => kk D cI cL ad ad0 n0 A p e s m args below meth c H locs ls' hd hB hWd hag hn hA hS hl2)

theorem Z_iinc (k : Nat) {i : Nat} {d : Int} {x : Int} {lv' : List (Nat × Value)} (h : X.I[k]? = some (pc, .iinc i d, 3, n)) (hx : zlk lv i = some (.int (iI x))) (hi : i < X.M.2.2.1) (hl' : zst1 lv i (.int (iI (x + d))) = lv') (kk : Z X kc ks mem n lv' st) : Z X kc ks mem pc lv st := by
  intro D cI cL ad ad0 n0 A p e s m args below meth c H locs ls hd hB hWd hag hn hA hS hl
  obtain ⟨h1, rfl⟩ := zI_dec hd h
  subst hl'
  obtain ⟨k', hk'⟩ := List.getElem?_of_mem (List.mem_map.mpr ⟨(i, Value.int (iI x)), zlk_mem hx, rfl⟩ : zq ad (i, Value.int (iI x)) ∈ lv.map (zq ad))
  exact lv_iinc hB.1 hB.2.1 h1 hl hk' (iI_add x d) hi (zst1_map ad i (.int (iI (x + d)))) (fun ls' hl2 => kk D cI cL ad ad0 n0 A p e s m args below meth c H locs ls' hd hB hWd hag hn hA hS hl2)

theorem Z_iadd (k : Nat) {x y : Int} (h : X.I[k]? = some (pc, .iadd, 1, n))  (kk : Z X kc ks mem n lv (.int (iI (x + y)) :: st)) : Z X kc ks mem pc lv (.int (iI y) :: .int (iI x) :: st) := by
  intro D cI cL ad ad0 n0 A p e s m args below meth c H locs ls hd hB hWd hag hn hA hS hl
  obtain ⟨h1, rfl⟩ := zI_dec hd h
  rw [← iI_add] at kk
  exact lv_iadd hB.1 hB.2.1 h1 (kk D cI cL ad ad0 n0 A p e s m args below meth c H locs ls hd hB hWd hag hn hA hS hl)

theorem Z_isub (k : Nat) {x y : Int} (h : X.I[k]? = some (pc, .isub, 1, n))  (kk : Z X kc ks mem n lv (.int (iI (x - y)) :: st)) : Z X kc ks mem pc lv (.int (iI y) :: .int (iI x) :: st) := by
  intro D cI cL ad ad0 n0 A p e s m args below meth c H locs ls hd hB hWd hag hn hA hS hl
  obtain ⟨h1, rfl⟩ := zI_dec hd h
  rw [← iI_sub] at kk
  exact lv_isub hB.1 hB.2.1 h1 (kk D cI cL ad ad0 n0 A p e s m args below meth c H locs ls hd hB hWd hag hn hA hS hl)

theorem Z_imul (k : Nat) {x y : Int} (h : X.I[k]? = some (pc, .imul, 1, n))  (kk : Z X kc ks mem n lv (.int (iI (x * y)) :: st)) : Z X kc ks mem pc lv (.int (iI y) :: .int (iI x) :: st) := by
  intro D cI cL ad ad0 n0 A p e s m args below meth c H locs ls hd hB hWd hag hn hA hS hl
  obtain ⟨h1, rfl⟩ := zI_dec hd h
  rw [← iI_mul] at kk
  exact lv_imul hB.1 hB.2.1 h1 (kk D cI cL ad ad0 n0 A p e s m args below meth c H locs ls hd hB hWd hag hn hA hS hl)

theorem Z_iand (k : Nat) {x y : Int32} (h : X.I[k]? = some (pc, .iand, 1, n))  (kk : Z X kc ks mem n lv (.int (x &&& y) :: st)) : Z X kc ks mem pc lv (.int y :: .int x :: st) := by
  intro D cI cL ad ad0 n0 A p e s m args below meth c H locs ls hd hB hWd hag hn hA hS hl
  obtain ⟨h1, rfl⟩ := zI_dec hd h
  exact lv_iand hB.1 hB.2.1 h1 (kk D cI cL ad ad0 n0 A p e s m args below meth c H locs ls hd hB hWd hag hn hA hS hl)

theorem Z_ior (k : Nat) {x y : Int32} (h : X.I[k]? = some (pc, .ior, 1, n))  (kk : Z X kc ks mem n lv (.int (x ||| y) :: st)) : Z X kc ks mem pc lv (.int y :: .int x :: st) := by
  intro D cI cL ad ad0 n0 A p e s m args below meth c H locs ls hd hB hWd hag hn hA hS hl
  obtain ⟨h1, rfl⟩ := zI_dec hd h
  exact lv_ior hB.1 hB.2.1 h1 (kk D cI cL ad ad0 n0 A p e s m args below meth c H locs ls hd hB hWd hag hn hA hS hl)

theorem Z_ixor (k : Nat) {x y : Int32} (h : X.I[k]? = some (pc, .ixor, 1, n))  (kk : Z X kc ks mem n lv (.int (x ^^^ y) :: st)) : Z X kc ks mem pc lv (.int y :: .int x :: st) := by
  intro D cI cL ad ad0 n0 A p e s m args below meth c H locs ls hd hB hWd hag hn hA hS hl
  obtain ⟨h1, rfl⟩ := zI_dec hd h
  exact lv_ixor hB.1 hB.2.1 h1 (kk D cI cL ad ad0 n0 A p e s m args below meth c H locs ls hd hB hWd hag hn hA hS hl)

theorem Z_ishl (k : Nat) {x y : Int32} (h : X.I[k]? = some (pc, .ishl, 1, n))  (kk : Z X kc ks mem n lv (.int (x <<< (y &&& 31)) :: st)) : Z X kc ks mem pc lv (.int y :: .int x :: st) := by
  intro D cI cL ad ad0 n0 A p e s m args below meth c H locs ls hd hB hWd hag hn hA hS hl
  obtain ⟨h1, rfl⟩ := zI_dec hd h
  exact lv_ishl hB.1 hB.2.1 h1 (kk D cI cL ad ad0 n0 A p e s m args below meth c H locs ls hd hB hWd hag hn hA hS hl)

theorem Z_ishr (k : Nat) {x y : Int32} (h : X.I[k]? = some (pc, .ishr, 1, n))  (kk : Z X kc ks mem n lv (.int (x >>> (y &&& 31)) :: st)) : Z X kc ks mem pc lv (.int y :: .int x :: st) := by
  intro D cI cL ad ad0 n0 A p e s m args below meth c H locs ls hd hB hWd hag hn hA hS hl
  obtain ⟨h1, rfl⟩ := zI_dec hd h
  exact lv_ishr hB.1 hB.2.1 h1 (kk D cI cL ad ad0 n0 A p e s m args below meth c H locs ls hd hB hWd hag hn hA hS hl)

theorem Z_iushr (k : Nat) {x y : Int32} (h : X.I[k]? = some (pc, .iushr, 1, n))  (kk : Z X kc ks mem n lv (.int ((x.toUInt32 >>> (y.toUInt32 &&& Int32.toUInt32 31)).toInt32) :: st)) : Z X kc ks mem pc lv (.int y :: .int x :: st) := by
  intro D cI cL ad ad0 n0 A p e s m args below meth c H locs ls hd hB hWd hag hn hA hS hl
  obtain ⟨h1, rfl⟩ := zI_dec hd h
  exact lv_iushr hB.1 hB.2.1 h1 rfl (kk D cI cL ad ad0 n0 A p e s m args below meth c H locs ls hd hB hWd hag hn hA hS hl)

theorem Z_lshl (k : Nat) {x : Int64} {y : Int32} (h : X.I[k]? = some (pc, .lshl, 1, n))  (kk : Z X kc ks mem n lv (.long (x <<< (y.toInt64 &&& 63)) :: st)) : Z X kc ks mem pc lv (.int y :: .long x :: st) := by
  intro D cI cL ad ad0 n0 A p e s m args below meth c H locs ls hd hB hWd hag hn hA hS hl
  obtain ⟨h1, rfl⟩ := zI_dec hd h
  exact lv_lshl hB.1 hB.2.1 h1 rfl (kk D cI cL ad ad0 n0 A p e s m args below meth c H locs ls hd hB hWd hag hn hA hS hl)

theorem Z_ladd (k : Nat) {x y : Int} (h : X.I[k]? = some (pc, .ladd, 1, n))  (kk : Z X kc ks mem n lv (.long (lI (x + y)) :: st)) : Z X kc ks mem pc lv (.long (lI y) :: .long (lI x) :: st) := by
  intro D cI cL ad ad0 n0 A p e s m args below meth c H locs ls hd hB hWd hag hn hA hS hl
  obtain ⟨h1, rfl⟩ := zI_dec hd h
  rw [← lI_add] at kk
  exact lv_ladd hB.1 hB.2.1 h1 (kk D cI cL ad ad0 n0 A p e s m args below meth c H locs ls hd hB hWd hag hn hA hS hl)

theorem Z_lsub (k : Nat) {x y : Int} (h : X.I[k]? = some (pc, .lsub, 1, n))  (kk : Z X kc ks mem n lv (.long (lI (x - y)) :: st)) : Z X kc ks mem pc lv (.long (lI y) :: .long (lI x) :: st) := by
  intro D cI cL ad ad0 n0 A p e s m args below meth c H locs ls hd hB hWd hag hn hA hS hl
  obtain ⟨h1, rfl⟩ := zI_dec hd h
  rw [← lI_sub] at kk
  exact lv_lsub hB.1 hB.2.1 h1 (kk D cI cL ad ad0 n0 A p e s m args below meth c H locs ls hd hB hWd hag hn hA hS hl)

theorem Z_lmul (k : Nat) {x y : Int} (h : X.I[k]? = some (pc, .lmul, 1, n))  (kk : Z X kc ks mem n lv (.long (lI (x * y)) :: st)) : Z X kc ks mem pc lv (.long (lI y) :: .long (lI x) :: st) := by
  intro D cI cL ad ad0 n0 A p e s m args below meth c H locs ls hd hB hWd hag hn hA hS hl
  obtain ⟨h1, rfl⟩ := zI_dec hd h
  rw [← lI_mul] at kk
  exact lv_lmul hB.1 hB.2.1 h1 (kk D cI cL ad ad0 n0 A p e s m args below meth c H locs ls hd hB hWd hag hn hA hS hl)

theorem Z_land (k : Nat) {x y : Int64} (h : X.I[k]? = some (pc, .land, 1, n))  (kk : Z X kc ks mem n lv (.long (x &&& y) :: st)) : Z X kc ks mem pc lv (.long y :: .long x :: st) := by
  intro D cI cL ad ad0 n0 A p e s m args below meth c H locs ls hd hB hWd hag hn hA hS hl
  obtain ⟨h1, rfl⟩ := zI_dec hd h
  exact lv_land hB.1 hB.2.1 h1 (kk D cI cL ad ad0 n0 A p e s m args below meth c H locs ls hd hB hWd hag hn hA hS hl)

theorem Z_lor (k : Nat) {x y : Int64} (h : X.I[k]? = some (pc, .lor, 1, n))  (kk : Z X kc ks mem n lv (.long (x ||| y) :: st)) : Z X kc ks mem pc lv (.long y :: .long x :: st) := by
  intro D cI cL ad ad0 n0 A p e s m args below meth c H locs ls hd hB hWd hag hn hA hS hl
  obtain ⟨h1, rfl⟩ := zI_dec hd h
  exact lv_lor hB.1 hB.2.1 h1 (kk D cI cL ad ad0 n0 A p e s m args below meth c H locs ls hd hB hWd hag hn hA hS hl)

theorem Z_lxor (k : Nat) {x y : Int64} (h : X.I[k]? = some (pc, .lxor, 1, n))  (kk : Z X kc ks mem n lv (.long (x ^^^ y) :: st)) : Z X kc ks mem pc lv (.long y :: .long x :: st) := by
  intro D cI cL ad ad0 n0 A p e s m args below meth c H locs ls hd hB hWd hag hn hA hS hl
  obtain ⟨h1, rfl⟩ := zI_dec hd h
  exact lv_lxor hB.1 hB.2.1 h1 (kk D cI cL ad ad0 n0 A p e s m args below meth c H locs ls hd hB hWd hag hn hA hS hl)

theorem Z_ineg (k : Nat) {x : Int} (h : X.I[k]? = some (pc, .ineg, 1, n))  (kk : Z X kc ks mem n lv (.int (iI (-x)) :: st)) : Z X kc ks mem pc lv (.int (iI x) :: st) := by
  intro D cI cL ad ad0 n0 A p e s m args below meth c H locs ls hd hB hWd hag hn hA hS hl
  obtain ⟨h1, rfl⟩ := zI_dec hd h
  rw [← iI_neg] at kk
  exact lv_ineg hB.1 hB.2.1 h1 (kk D cI cL ad ad0 n0 A p e s m args below meth c H locs ls hd hB hWd hag hn hA hS hl)

theorem Z_lneg (k : Nat) {x : Int} (h : X.I[k]? = some (pc, .lneg, 1, n))  (kk : Z X kc ks mem n lv (.long (lI (-x)) :: st)) : Z X kc ks mem pc lv (.long (lI x) :: st) := by
  intro D cI cL ad ad0 n0 A p e s m args below meth c H locs ls hd hB hWd hag hn hA hS hl
  obtain ⟨h1, rfl⟩ := zI_dec hd h
  rw [← lI_neg] at kk
  exact lv_lneg hB.1 hB.2.1 h1 (kk D cI cL ad ad0 n0 A p e s m args below meth c H locs ls hd hB hWd hag hn hA hS hl)

theorem Z_i2l (k : Nat) {x : Int} (h : X.I[k]? = some (pc, .i2l, 1, n)) (hx : inI x) (kk : Z X kc ks mem n lv (.long (lI x) :: st)) : Z X kc ks mem pc lv (.int (iI x) :: st) := by
  intro D cI cL ad ad0 n0 A p e s m args below meth c H locs ls hd hB hWd hag hn hA hS hl
  obtain ⟨h1, rfl⟩ := zI_dec hd h
  exact lv_i2l hB.1 hB.2.1 h1 (iI_l hx) (kk D cI cL ad ad0 n0 A p e s m args below meth c H locs ls hd hB hWd hag hn hA hS hl)

theorem Z_l2i (k : Nat) {x : Int} (h : X.I[k]? = some (pc, .l2i, 1, n))  (kk : Z X kc ks mem n lv (.int (iI x) :: st)) : Z X kc ks mem pc lv (.long (lI x) :: st) := by
  intro D cI cL ad ad0 n0 A p e s m args below meth c H locs ls hd hB hWd hag hn hA hS hl
  obtain ⟨h1, rfl⟩ := zI_dec hd h
  exact lv_l2i hB.1 hB.2.1 h1 (lI_i x) (kk D cI cL ad ad0 n0 A p e s m args below meth c H locs ls hd hB hWd hag hn hA hS hl)

theorem Z_ldiv (k : Nat) {x y : Int} (h : X.I[k]? = some (pc, .ldiv, 1, n)) (hx : inL x) (hy : inL y) (h0 : 0 < y) (kk : Z X kc ks mem n lv (.long (lI (x.tdiv y)) :: st)) : Z X kc ks mem pc lv (.long (lI y) :: .long (lI x) :: st) := by
  intro D cI cL ad ad0 n0 A p e s m args below meth c H locs ls hd hB hWd hag hn hA hS hl
  obtain ⟨h1, rfl⟩ := zI_dec hd h
  rw [← lI_div hx hy h0] at kk
  exact lv_ldiv hB.1 hB.2.1 h1 (fun z => by have := (lI_eq hy (by omega)).mp (z.trans lI_0.symm); omega) (kk D cI cL ad ad0 n0 A p e s m args below meth c H locs ls hd hB hWd hag hn hA hS hl)

theorem Z_lrem (k : Nat) {x y : Int} (h : X.I[k]? = some (pc, .lrem, 1, n)) (hx : inL x) (hy : inL y) (h0 : 0 < y) (kk : Z X kc ks mem n lv (.long (lI (x.tmod y)) :: st)) : Z X kc ks mem pc lv (.long (lI y) :: .long (lI x) :: st) := by
  intro D cI cL ad ad0 n0 A p e s m args below meth c H locs ls hd hB hWd hag hn hA hS hl
  obtain ⟨h1, rfl⟩ := zI_dec hd h
  rw [← lI_rem hx hy h0] at kk
  exact lv_lrem hB.1 hB.2.1 h1 (fun z => by have := (lI_eq hy (by omega)).mp (z.trans lI_0.symm); omega) (kk D cI cL ad ad0 n0 A p e s m args below meth c H locs ls hd hB hWd hag hn hA hS hl)

theorem Z_irem (k : Nat) {x y : Int} (h : X.I[k]? = some (pc, .irem, 1, n)) (hx : inI x) (hy : inI y) (h0 : 0 < y) (kk : Z X kc ks mem n lv (.int (iI (x.tmod y)) :: st)) : Z X kc ks mem pc lv (.int (iI y) :: .int (iI x) :: st) := by
  intro D cI cL ad ad0 n0 A p e s m args below meth c H locs ls hd hB hWd hag hn hA hS hl
  obtain ⟨h1, rfl⟩ := zI_dec hd h
  rw [← iI_rem hx hy h0] at kk
  exact lv_irem hB.1 hB.2.1 h1 (fun z => by have := (iI_eq hy (by omega)).mp (z.trans iI_0.symm); omega) (kk D cI cL ad ad0 n0 A p e s m args below meth c H locs ls hd hB hWd hag hn hA hS hl)

theorem Z_dup (k : Nat) {v : Value} (h : X.I[k]? = some (pc, .dup, 1, n)) (hc : v.category = 1) (kk : Z X kc ks mem n lv (v :: v :: st)) : Z X kc ks mem pc lv (v :: st) := by
  intro D cI cL ad ad0 n0 A p e s m args below meth c H locs ls hd hB hWd hag hn hA hS hl
  obtain ⟨h1, rfl⟩ := zI_dec hd h
  exact lv_dup hB.1 hB.2.1 h1 ((zv_cat ad v).trans hc) (kk D cI cL ad ad0 n0 A p e s m args below meth c H locs ls hd hB hWd hag hn hA hS hl)

theorem Z_pop (k : Nat) {v : Value} (h : X.I[k]? = some (pc, .pop, 1, n)) (hc : v.category = 1) (kk : Z X kc ks mem n lv (st)) : Z X kc ks mem pc lv (v :: st) := by
  intro D cI cL ad ad0 n0 A p e s m args below meth c H locs ls hd hB hWd hag hn hA hS hl
  obtain ⟨h1, rfl⟩ := zI_dec hd h
  exact lv_pop hB.1 hB.2.1 h1 ((zv_cat ad v).trans hc) (kk D cI cL ad ad0 n0 A p e s m args below meth c H locs ls hd hB hWd hag hn hA hS hl)

theorem Z_dup_x1 (k : Nat) {v w : Value} (h : X.I[k]? = some (pc, .dup_x1, 1, n)) (hc : v.category = 1) (hc2 : w.category = 1) (kk : Z X kc ks mem n lv (v :: w :: v :: st)) : Z X kc ks mem pc lv (v :: w :: st) := by
  intro D cI cL ad ad0 n0 A p e s m args below meth c H locs ls hd hB hWd hag hn hA hS hl
  obtain ⟨h1, rfl⟩ := zI_dec hd h
  exact lv_dup_x1 hB.1 hB.2.1 h1 ((zv_cat ad v).trans hc) ((zv_cat ad w).trans hc2) (kk D cI cL ad ad0 n0 A p e s m args below meth c H locs ls hd hB hWd hag hn hA hS hl)

theorem Z_dup2_2 (k : Nat) {v : Value} (h : X.I[k]? = some (pc, .dup2, 1, n)) (hc : v.category = 2) (kk : Z X kc ks mem n lv (v :: v :: st)) : Z X kc ks mem pc lv (v :: st) := by
  intro D cI cL ad ad0 n0 A p e s m args below meth c H locs ls hd hB hWd hag hn hA hS hl
  obtain ⟨h1, rfl⟩ := zI_dec hd h
  exact lv_dup2_2 hB.1 hB.2.1 h1 ((zv_cat ad v).trans hc) (kk D cI cL ad ad0 n0 A p e s m args below meth c H locs ls hd hB hWd hag hn hA hS hl)

theorem Z_dup2_11 (k : Nat) {v w : Value} (h : X.I[k]? = some (pc, .dup2, 1, n)) (hc : v.category = 1) (hc2 : w.category = 1) (kk : Z X kc ks mem n lv (v :: w :: v :: w :: st)) : Z X kc ks mem pc lv (v :: w :: st) := by
  intro D cI cL ad ad0 n0 A p e s m args below meth c H locs ls hd hB hWd hag hn hA hS hl
  obtain ⟨h1, rfl⟩ := zI_dec hd h
  exact lv_dup2_11 hB.1 hB.2.1 h1 ((zv_cat ad v).trans hc) ((zv_cat ad w).trans hc2) (kk D cI cL ad ad0 n0 A p e s m args below meth c H locs ls hd hB hWd hag hn hA hS hl)

theorem Z_goto (k : Nat) {off : Int} {tgt : Nat} (h : X.I[k]? = some (pc, .goto off, 3, n)) (ht : (pc : Int) + off = (tgt : Int)) (kk : Z X kc ks mem tgt lv st) : Z X kc ks mem pc lv st := by
  intro D cI cL ad ad0 n0 A p e s m args below meth c H locs ls hd hB hWd hag hn hA hS hl
  obtain ⟨h1, rfl⟩ := zI_dec hd h
  exact lv_goto hB.1 hB.2.1 h1 ht (kk D cI cL ad ad0 n0 A p e s m args below meth c H locs ls hd hB hWd hag hn hA hS hl)

theorem Z_icmp_eq (k : Nat) {x y off : Int} {tgt : Nat} (h : X.I[k]? = some (pc, .if_icmp .eq off, 3, n)) (ht : (pc : Int) + off = (tgt : Int)) (hx : inI x) (hy : inI y) (kt : x = y → Z X kc ks mem tgt lv st) (kf : x ≠ y → Z X kc ks mem n lv st) : Z X kc ks mem pc lv (.int (iI y) :: .int (iI x) :: st) := by
  intro D cI cL ad ad0 n0 A p e s m args below meth c H locs ls hd hB hWd hag hn hA hS hl
  obtain ⟨h1, rfl⟩ := zI_dec hd h
  exact lv_icmp_eq hB.1 hB.2.1 h1 ht (fun z => (kt ((iI_eq hx hy).mp z)) D cI cL ad ad0 n0 A p e s m args below meth c H locs ls hd hB hWd hag hn hA hS hl) (fun z => (kf (fun e0 => z ((iI_eq hx hy).mpr e0))) D cI cL ad ad0 n0 A p e s m args below meth c H locs ls hd hB hWd hag hn hA hS hl)

theorem Z_icmp_ne (k : Nat) {x y off : Int} {tgt : Nat} (h : X.I[k]? = some (pc, .if_icmp .ne off, 3, n)) (ht : (pc : Int) + off = (tgt : Int)) (hx : inI x) (hy : inI y) (kt : x ≠ y → Z X kc ks mem tgt lv st) (kf : x = y → Z X kc ks mem n lv st) : Z X kc ks mem pc lv (.int (iI y) :: .int (iI x) :: st) := by
  intro D cI cL ad ad0 n0 A p e s m args below meth c H locs ls hd hB hWd hag hn hA hS hl
  obtain ⟨h1, rfl⟩ := zI_dec hd h
  exact lv_icmp_ne hB.1 hB.2.1 h1 ht (fun z => (kt (fun e0 => z ((iI_eq hx hy).mpr e0))) D cI cL ad ad0 n0 A p e s m args below meth c H locs ls hd hB hWd hag hn hA hS hl) (fun z => (kf ((iI_eq hx hy).mp z)) D cI cL ad ad0 n0 A p e s m args below meth c H locs ls hd hB hWd hag hn hA hS hl)

theorem Z_icmp_lt (k : Nat) {x y off : Int} {tgt : Nat} (h : X.I[k]? = some (pc, .if_icmp .lt off, 3, n)) (ht : (pc : Int) + off = (tgt : Int)) (hx : inI x) (hy : inI y) (kt : x < y → Z X kc ks mem tgt lv st) (kf : ¬ x < y → Z X kc ks mem n lv st) : Z X kc ks mem pc lv (.int (iI y) :: .int (iI x) :: st) := by
  intro D cI cL ad ad0 n0 A p e s m args below meth c H locs ls hd hB hWd hag hn hA hS hl
  obtain ⟨h1, rfl⟩ := zI_dec hd h
  exact lv_icmp_lt hB.1 hB.2.1 h1 ht (fun z => (kt ((iI_lt hx hy).mp z)) D cI cL ad ad0 n0 A p e s m args below meth c H locs ls hd hB hWd hag hn hA hS hl) (fun z => (kf (fun e0 => z ((iI_lt hx hy).mpr e0))) D cI cL ad ad0 n0 A p e s m args below meth c H locs ls hd hB hWd hag hn hA hS hl)

theorem Z_icmp_ge (k : Nat) {x y off : Int} {tgt : Nat} (h : X.I[k]? = some (pc, .if_icmp .ge off, 3, n)) (ht : (pc : Int) + off = (tgt : Int)) (hx : inI x) (hy : inI y) (kt : y ≤ x → Z X kc ks mem tgt lv st) (kf : ¬ y ≤ x → Z X kc ks mem n lv st) : Z X kc ks mem pc lv (.int (iI y) :: .int (iI x) :: st) := by
  intro D cI cL ad ad0 n0 A p e s m args below meth c H locs ls hd hB hWd hag hn hA hS hl
  obtain ⟨h1, rfl⟩ := zI_dec hd h
  exact lv_icmp_ge hB.1 hB.2.1 h1 ht (fun z => (kt ((iI_le hy hx).mp z)) D cI cL ad ad0 n0 A p e s m args below meth c H locs ls hd hB hWd hag hn hA hS hl) (fun z => (kf (fun e0 => z ((iI_le hy hx).mpr e0))) D cI cL ad ad0 n0 A p e s m args below meth c H locs ls hd hB hWd hag hn hA hS hl)

theorem Z_icmp_gt (k : Nat) {x y off : Int} {tgt : Nat} (h : X.I[k]? = some (pc, .if_icmp .gt off, 3, n)) (ht : (pc : Int) + off = (tgt : Int)) (hx : inI x) (hy : inI y) (kt : y < x → Z X kc ks mem tgt lv st) (kf : ¬ y < x → Z X kc ks mem n lv st) : Z X kc ks mem pc lv (.int (iI y) :: .int (iI x) :: st) := by
  intro D cI cL ad ad0 n0 A p e s m args below meth c H locs ls hd hB hWd hag hn hA hS hl
  obtain ⟨h1, rfl⟩ := zI_dec hd h
  exact lv_icmp_gt hB.1 hB.2.1 h1 ht (fun z => (kt ((iI_lt hy hx).mp z)) D cI cL ad ad0 n0 A p e s m args below meth c H locs ls hd hB hWd hag hn hA hS hl) (fun z => (kf (fun e0 => z ((iI_lt hy hx).mpr e0))) D cI cL ad ad0 n0 A p e s m args below meth c H locs ls hd hB hWd hag hn hA hS hl)

theorem Z_icmp_le (k : Nat) {x y off : Int} {tgt : Nat} (h : X.I[k]? = some (pc, .if_icmp .le off, 3, n)) (ht : (pc : Int) + off = (tgt : Int)) (hx : inI x) (hy : inI y) (kt : x ≤ y → Z X kc ks mem tgt lv st) (kf : ¬ x ≤ y → Z X kc ks mem n lv st) : Z X kc ks mem pc lv (.int (iI y) :: .int (iI x) :: st) := by
  intro D cI cL ad ad0 n0 A p e s m args below meth c H locs ls hd hB hWd hag hn hA hS hl
  obtain ⟨h1, rfl⟩ := zI_dec hd h
  exact lv_icmp_le hB.1 hB.2.1 h1 ht (fun z => (kt ((iI_le hx hy).mp z)) D cI cL ad ad0 n0 A p e s m args below meth c H locs ls hd hB hWd hag hn hA hS hl) (fun z => (kf (fun e0 => z ((iI_le hx hy).mpr e0))) D cI cL ad ad0 n0 A p e s m args below meth c H locs ls hd hB hWd hag hn hA hS hl)

theorem Z_if_eq (k : Nat) {x off : Int} {tgt : Nat} (h : X.I[k]? = some (pc, .ifCond .eq off, 3, n)) (ht : (pc : Int) + off = (tgt : Int)) (hx : inI x) (kt : x = 0 → Z X kc ks mem tgt lv st) (kf : x ≠ 0 → Z X kc ks mem n lv st) : Z X kc ks mem pc lv (.int (iI x) :: st) := by
  intro D cI cL ad ad0 n0 A p e s m args below meth c H locs ls hd hB hWd hag hn hA hS hl
  obtain ⟨h1, rfl⟩ := zI_dec hd h
  exact lv_if_eq hB.1 hB.2.1 h1 ht (fun z => (kt ((iI_eq hx (show inI 0 by omega)).mp z)) D cI cL ad ad0 n0 A p e s m args below meth c H locs ls hd hB hWd hag hn hA hS hl) (fun z => (kf (fun e0 => z ((iI_eq hx (show inI 0 by omega)).mpr e0))) D cI cL ad ad0 n0 A p e s m args below meth c H locs ls hd hB hWd hag hn hA hS hl)

theorem Z_if_ne (k : Nat) {x off : Int} {tgt : Nat} (h : X.I[k]? = some (pc, .ifCond .ne off, 3, n)) (ht : (pc : Int) + off = (tgt : Int)) (hx : inI x) (kt : x ≠ 0 → Z X kc ks mem tgt lv st) (kf : x = 0 → Z X kc ks mem n lv st) : Z X kc ks mem pc lv (.int (iI x) :: st) := by
  intro D cI cL ad ad0 n0 A p e s m args below meth c H locs ls hd hB hWd hag hn hA hS hl
  obtain ⟨h1, rfl⟩ := zI_dec hd h
  exact lv_if_ne hB.1 hB.2.1 h1 ht (fun z => (kt (fun e0 => z ((iI_eq hx (show inI 0 by omega)).mpr e0))) D cI cL ad ad0 n0 A p e s m args below meth c H locs ls hd hB hWd hag hn hA hS hl) (fun z => (kf ((iI_eq hx (show inI 0 by omega)).mp z)) D cI cL ad ad0 n0 A p e s m args below meth c H locs ls hd hB hWd hag hn hA hS hl)

theorem Z_if_lt (k : Nat) {x off : Int} {tgt : Nat} (h : X.I[k]? = some (pc, .ifCond .lt off, 3, n)) (ht : (pc : Int) + off = (tgt : Int)) (hx : inI x) (kt : x < 0 → Z X kc ks mem tgt lv st) (kf : ¬ x < 0 → Z X kc ks mem n lv st) : Z X kc ks mem pc lv (.int (iI x) :: st) := by
  intro D cI cL ad ad0 n0 A p e s m args below meth c H locs ls hd hB hWd hag hn hA hS hl
  obtain ⟨h1, rfl⟩ := zI_dec hd h
  exact lv_if_lt hB.1 hB.2.1 h1 ht (fun z => (kt ((iI_lt hx (show inI 0 by omega)).mp z)) D cI cL ad ad0 n0 A p e s m args below meth c H locs ls hd hB hWd hag hn hA hS hl) (fun z => (kf (fun e0 => z ((iI_lt hx (show inI 0 by omega)).mpr e0))) D cI cL ad ad0 n0 A p e s m args below meth c H locs ls hd hB hWd hag hn hA hS hl)

theorem Z_if_ge (k : Nat) {x off : Int} {tgt : Nat} (h : X.I[k]? = some (pc, .ifCond .ge off, 3, n)) (ht : (pc : Int) + off = (tgt : Int)) (hx : inI x) (kt : 0 ≤ x → Z X kc ks mem tgt lv st) (kf : ¬ 0 ≤ x → Z X kc ks mem n lv st) : Z X kc ks mem pc lv (.int (iI x) :: st) := by
  intro D cI cL ad ad0 n0 A p e s m args below meth c H locs ls hd hB hWd hag hn hA hS hl
  obtain ⟨h1, rfl⟩ := zI_dec hd h
  exact lv_if_ge hB.1 hB.2.1 h1 ht (fun z => (kt ((iI_le (show inI 0 by omega) hx).mp z)) D cI cL ad ad0 n0 A p e s m args below meth c H locs ls hd hB hWd hag hn hA hS hl) (fun z => (kf (fun e0 => z ((iI_le (show inI 0 by omega) hx).mpr e0))) D cI cL ad ad0 n0 A p e s m args below meth c H locs ls hd hB hWd hag hn hA hS hl)

theorem Z_if_gt (k : Nat) {x off : Int} {tgt : Nat} (h : X.I[k]? = some (pc, .ifCond .gt off, 3, n)) (ht : (pc : Int) + off = (tgt : Int)) (hx : inI x) (kt : 0 < x → Z X kc ks mem tgt lv st) (kf : ¬ 0 < x → Z X kc ks mem n lv st) : Z X kc ks mem pc lv (.int (iI x) :: st) := by
  intro D cI cL ad ad0 n0 A p e s m args below meth c H locs ls hd hB hWd hag hn hA hS hl
  obtain ⟨h1, rfl⟩ := zI_dec hd h
  exact lv_if_gt hB.1 hB.2.1 h1 ht (fun z => (kt ((iI_lt (show inI 0 by omega) hx).mp z)) D cI cL ad ad0 n0 A p e s m args below meth c H locs ls hd hB hWd hag hn hA hS hl) (fun z => (kf (fun e0 => z ((iI_lt (show inI 0 by omega) hx).mpr e0))) D cI cL ad ad0 n0 A p e s m args below meth c H locs ls hd hB hWd hag hn hA hS hl)

theorem Z_if_le (k : Nat) {x off : Int} {tgt : Nat} (h : X.I[k]? = some (pc, .ifCond .le off, 3, n)) (ht : (pc : Int) + off = (tgt : Int)) (hx : inI x) (kt : x ≤ 0 → Z X kc ks mem tgt lv st) (kf : ¬ x ≤ 0 → Z X kc ks mem n lv st) : Z X kc ks mem pc lv (.int (iI x) :: st) := by
  intro D cI cL ad ad0 n0 A p e s m args below meth c H locs ls hd hB hWd hag hn hA hS hl
  obtain ⟨h1, rfl⟩ := zI_dec hd h
  exact lv_if_le hB.1 hB.2.1 h1 ht (fun z => (kt ((iI_le hx (show inI 0 by omega)).mp z)) D cI cL ad ad0 n0 A p e s m args below meth c H locs ls hd hB hWd hag hn hA hS hl) (fun z => (kf (fun e0 => z ((iI_le hx (show inI 0 by omega)).mpr e0))) D cI cL ad ad0 n0 A p e s m args below meth c H locs ls hd hB hWd hag hn hA hS hl)

theorem Z_ifr_eq (k : Nat) {x : Int32} {off : Int} {tgt : Nat} (h : X.I[k]? = some (pc, .ifCond .eq off, 3, n)) (ht : (pc : Int) + off = (tgt : Int)) (kt : x = 0 → Z X kc ks mem tgt lv st) (kf : ¬ x = 0 → Z X kc ks mem n lv st) : Z X kc ks mem pc lv (.int x :: st) := by
  intro D cI cL ad ad0 n0 A p e s m args below meth c H locs ls hd hB hWd hag hn hA hS hl
  obtain ⟨h1, rfl⟩ := zI_dec hd h
  exact lv_if_eq hB.1 hB.2.1 h1 ht (fun z => (kt z) D cI cL ad ad0 n0 A p e s m args below meth c H locs ls hd hB hWd hag hn hA hS hl) (fun z => (kf z) D cI cL ad ad0 n0 A p e s m args below meth c H locs ls hd hB hWd hag hn hA hS hl)

theorem Z_ifr_ne (k : Nat) {x : Int32} {off : Int} {tgt : Nat} (h : X.I[k]? = some (pc, .ifCond .ne off, 3, n)) (ht : (pc : Int) + off = (tgt : Int)) (kt : ¬ x = 0 → Z X kc ks mem tgt lv st) (kf : x = 0 → Z X kc ks mem n lv st) : Z X kc ks mem pc lv (.int x :: st) := by
  intro D cI cL ad ad0 n0 A p e s m args below meth c H locs ls hd hB hWd hag hn hA hS hl
  obtain ⟨h1, rfl⟩ := zI_dec hd h
  exact lv_if_ne hB.1 hB.2.1 h1 ht (fun z => (kt z) D cI cL ad ad0 n0 A p e s m args below meth c H locs ls hd hB hWd hag hn hA hS hl) (fun z => (kf z) D cI cL ad ad0 n0 A p e s m args below meth c H locs ls hd hB hWd hag hn hA hS hl)

theorem lg_cmp_i {x y : Int} (hx : inL x) (hy : inL y) : lg_cmp (lI x) (lI y) = iI (if y < x then 1 else if x = y then 0 else -1) := by
  unfold lg_cmp
  simp only [lI_lt hy hx, lI_eq hx hy, lI_lt hx hy]
  repeat' split
  all_goals first | rfl | (exfalso; omega)

theorem Z_lcmp (k : Nat) {x y : Int} (h : X.I[k]? = some (pc, .lcmp, 1, n)) (hx : inL x) (hy : inL y) (kk : Z X kc ks mem n lv (.int (iI (if y < x then 1 else if x = y then 0 else -1)) :: st)) : Z X kc ks mem pc lv (.long (lI y) :: .long (lI x) :: st) := by
  intro D cI cL ad ad0 n0 A p e s m args below meth c H locs ls hd hB hWd hag hn hA hS hl
  obtain ⟨h1, rfl⟩ := zI_dec hd h
  rw [← lg_cmp_i hx hy] at kk
  exact W.lcmp hB.1 hB.2.1 h1 (kk D cI cL ad ad0 n0 A p e s m args below meth c H locs ls hd hB hWd hag hn hA hS hl)

theorem Z_lc_eq (k : Nat) {x y off : Int} {tgt n1 : Nat} (h : X.I[k]? = some (pc, .lcmp, 1, n1)) (h2 : X.I[k + 1]? = some (n1, .ifCond .eq off, 3, n)) (ht : (n1 : Int) + off = (tgt : Int)) (hx : inL x) (hy : inL y) (kt : x = y → Z X kc ks mem tgt lv st) (kf : x ≠ y → Z X kc ks mem n lv st) : Z X kc ks mem pc lv (.long (lI y) :: .long (lI x) :: st) :=
  Z_lcmp k h hx hy (Z_if_eq (k + 1) h2 ht (by split <;> (try split) <;> omega) (fun z => kt (by split at z <;> (try split at z) <;> omega)) (fun z => kf (by split at z <;> (try split at z) <;> omega)))

theorem Z_lc_ne (k : Nat) {x y off : Int} {tgt n1 : Nat} (h : X.I[k]? = some (pc, .lcmp, 1, n1)) (h2 : X.I[k + 1]? = some (n1, .ifCond .ne off, 3, n)) (ht : (n1 : Int) + off = (tgt : Int)) (hx : inL x) (hy : inL y) (kt : x ≠ y → Z X kc ks mem tgt lv st) (kf : x = y → Z X kc ks mem n lv st) : Z X kc ks mem pc lv (.long (lI y) :: .long (lI x) :: st) :=
  Z_lcmp k h hx hy (Z_if_ne (k + 1) h2 ht (by split <;> (try split) <;> omega) (fun z => kt (by split at z <;> (try split at z) <;> omega)) (fun z => kf (by split at z <;> (try split at z) <;> omega)))

theorem Z_lc_lt (k : Nat) {x y off : Int} {tgt n1 : Nat} (h : X.I[k]? = some (pc, .lcmp, 1, n1)) (h2 : X.I[k + 1]? = some (n1, .ifCond .lt off, 3, n)) (ht : (n1 : Int) + off = (tgt : Int)) (hx : inL x) (hy : inL y) (kt : x < y → Z X kc ks mem tgt lv st) (kf : ¬ x < y → Z X kc ks mem n lv st) : Z X kc ks mem pc lv (.long (lI y) :: .long (lI x) :: st) :=
  Z_lcmp k h hx hy (Z_if_lt (k + 1) h2 ht (by split <;> (try split) <;> omega) (fun z => kt (by split at z <;> (try split at z) <;> omega)) (fun z => kf (by split at z <;> (try split at z) <;> omega)))

theorem Z_lc_ge (k : Nat) {x y off : Int} {tgt n1 : Nat} (h : X.I[k]? = some (pc, .lcmp, 1, n1)) (h2 : X.I[k + 1]? = some (n1, .ifCond .ge off, 3, n)) (ht : (n1 : Int) + off = (tgt : Int)) (hx : inL x) (hy : inL y) (kt : y ≤ x → Z X kc ks mem tgt lv st) (kf : ¬ y ≤ x → Z X kc ks mem n lv st) : Z X kc ks mem pc lv (.long (lI y) :: .long (lI x) :: st) :=
  Z_lcmp k h hx hy (Z_if_ge (k + 1) h2 ht (by split <;> (try split) <;> omega) (fun z => kt (by split at z <;> (try split at z) <;> omega)) (fun z => kf (by split at z <;> (try split at z) <;> omega)))

theorem Z_lc_gt (k : Nat) {x y off : Int} {tgt n1 : Nat} (h : X.I[k]? = some (pc, .lcmp, 1, n1)) (h2 : X.I[k + 1]? = some (n1, .ifCond .gt off, 3, n)) (ht : (n1 : Int) + off = (tgt : Int)) (hx : inL x) (hy : inL y) (kt : y < x → Z X kc ks mem tgt lv st) (kf : ¬ y < x → Z X kc ks mem n lv st) : Z X kc ks mem pc lv (.long (lI y) :: .long (lI x) :: st) :=
  Z_lcmp k h hx hy (Z_if_gt (k + 1) h2 ht (by split <;> (try split) <;> omega) (fun z => kt (by split at z <;> (try split at z) <;> omega)) (fun z => kf (by split at z <;> (try split at z) <;> omega)))

theorem Z_lc_le (k : Nat) {x y off : Int} {tgt n1 : Nat} (h : X.I[k]? = some (pc, .lcmp, 1, n1)) (h2 : X.I[k + 1]? = some (n1, .ifCond .le off, 3, n)) (ht : (n1 : Int) + off = (tgt : Int)) (hx : inL x) (hy : inL y) (kt : x ≤ y → Z X kc ks mem tgt lv st) (kf : ¬ x ≤ y → Z X kc ks mem n lv st) : Z X kc ks mem pc lv (.long (lI y) :: .long (lI x) :: st) :=
  Z_lcmp k h hx hy (Z_if_le (k + 1) h2 ht (by split <;> (try split) <;> omega) (fun z => kt (by split at z <;> (try split at z) <;> omega)) (fun z => kf (by split at z <;> (try split at z) <;> omega)))

end ZR
end
section
/-! the rows of Z on cells, and a method's end -/
/-- class number ci is C, with its fields' table, how many, their types -/
def zCK (ci : Nat) (C : String) (T : u_T) (N : Nat) (ty : Nat → FieldType) : Prop := zCls[ci]? = some (C, T, N) ∧ (∀ w ∈ u_ws C T N, w ∈ zTB) ∧ (∀ k, k < N → parseFieldDescriptor (T k).2.2.1 = some (ty k)) ∧ ∀ a, a < N → ∀ b, b < N → a ≠ b → (T a).2.1 ≠ (T b).2.1
theorem zck_0 : zCK 0 RX0 TX0 3 tyX0 := ⟨rfl, inX0, tyX0_ok, nmX0⟩
theorem zck_1 : zCK 1 RX1 TX1 2 tyX1 := ⟨rfl, inX1, tyX1_ok, nmX1⟩
theorem zck_2 : zCK 2 RX2 TX2 8 tyX2 := ⟨rfl, inX2, tyX2_ok, nmX2⟩
theorem zck_3 : zCK 3 RX3 TX3 2 tyX3 := ⟨rfl, inX3, tyX3_ok, nmX3⟩
theorem zck_4 : zCK 4 RX4 TX4 5 tyX4 := ⟨rfl, inX4, tyX4_ok, nmX4⟩
theorem zck_5 : zCK 5 RX5 TX5 4 tyX5 := ⟨rfl, inX5, tyX5_ok, nmX5⟩
theorem zck_6 : zCK 6 RX6 TX6 6 tyX6 := ⟨rfl, inX6, tyX6_ok, nmX6⟩
theorem zck_7 : zCK 7 RX7 TX7 15 tyX7 := ⟨rfl, inX7, tyX7_ok, nmX7⟩
theorem zck_8 : zCK 8 RX8 TX8 35 tyX8 := ⟨rfl, inX8, tyX8_ok, nmX8⟩
/-- entry idx of own's file is field j of class ci, of type fty; a nest mate's -/
def zF (own : String) (idx ci j : Nat) (fty : FieldType) (fin : Bool) : Prop := ∃ (C : String) (T : u_T) (N : Nat) (ty : Nat → FieldType), zCK ci C T N ty ∧ j < N ∧ ty j = fty ∧ (T j).2.2.2 = fin ∧ Cond.fieldLink own idx (T j).1 (T j).2.1 (T j).2.2.1 ∈ zTB
def zFN (own : String) (idx ci j : Nat) (fty : FieldType) (fin : Bool) : Prop := ∃ (C : String) (T : u_T) (N : Nat) (ty : Nat → FieldType) (host : String), zCK ci C T N ty ∧ j < N ∧ ty j = fty ∧ (T j).2.2.2 = fin ∧ Cond.fieldLinkNest own idx (T j).1 (T j).2.1 (T j).2.2.1 host ∈ zNW
section ZH
variable {X : zX} {kc ks : Nat} {mem : List zE} {pc n : Nat} {lv : List (Nat × Value)} {st : List Value}
theorem zP1 {D : va_G} {cI cL : ClassId} {ad : Nat → Nat} {A : Nat → Prop} {U : State} {H : Heap} {a ci : Nat} {fs : List Value} (h : zat D cI cL ad A U H a (zO ci fs)) : va_P D zCls [(a, .inr (ci, fs.map (zv ad)))] H := by
  intro k q hk
  have hz : k < 1 := (List.getElem?_eq_some_iff.mp hk).1
  rw [show k = 0 by omega] at hk
  cases hk
  exact h.2
theorem Z_get (k : Nat) {idx ci j : Nat} {fty : FieldType} {fin : Bool} {q : Nat} {fs : List Value} {v : Value} (h : X.I[k]? = some (pc, .getfield idx, 3, n)) (hf : zF X.M.1.cls idx ci j fty fin) (hq : mem[q]? = some (zO ci fs)) (hv : fs[j]? = some v) (kk : Z X kc ks mem n lv (v :: st)) : Z X kc ks mem pc lv (.ref q :: st) := by
  intro D cI cL ad ad0 n0 A p e s m args below meth c H locs ls hd hB hWd hag hn hA hS hl
  obtain ⟨h1, rfl⟩ := zI_dec hd h
  obtain ⟨C, T, N, ty, ⟨c1, c2, c3, c4⟩, hj, rfl, rfl, hlk⟩ := hf
  have hP := zP1 (hWd.1 q _ hq)
  exact va_get hB.1 hB.2.1 hB.2.2.2.2.2.2.2.1 c2 hB.2.2.2.2.2.1 hB.2.2.2.2.2.2.2.2.2 hP 0 rfl c1 j hj (hB.2.2.2.2.2.2.2.1 _ hlk) (fun _ z => z) (by rw [List.getElem?_map, hv]; rfl) h1 (kk D cI cL ad ad0 n0 A p e s m args below meth c H locs ls hd hB hWd hag hn hA hS hl)
theorem Z_getN (k : Nat) {idx ci j : Nat} {fty : FieldType} {fin : Bool} {q : Nat} {fs : List Value} {v : Value} (h : X.I[k]? = some (pc, .getfield idx, 3, n)) (hf : zFN X.M.1.cls idx ci j fty fin) (hq : mem[q]? = some (zO ci fs)) (hv : fs[j]? = some v) (kk : Z X kc ks mem n lv (v :: st)) : Z X kc ks mem pc lv (.ref q :: st) := by
  intro D cI cL ad ad0 n0 A p e s m args below meth c H locs ls hd hB hWd hag hn hA hS hl
  obtain ⟨h1, rfl⟩ := zI_dec hd h
  obtain ⟨C, T, N, ty, host, ⟨c1, c2, c3, c4⟩, hj, rfl, rfl, hlk⟩ := hf
  have hP := zP1 (hWd.1 q _ hq)
  exact va_getN hB.1 hB.2.1 hB.2.2.2.2.2.2.2.1 c2 hB.2.2.2.2.2.1 hB.2.2.2.2.2.2.2.2.2 hP 0 rfl c1 j hj ((hB.2.2.2.2.2.2.2.2.1 _ hlk).use rfl) (fun _ z => z) (by rw [List.getElem?_map, hv]; rfl) h1 (kk D cI cL ad ad0 n0 A p e s m args below meth c H locs ls hd hB hWd hag hn hA hS hl)
theorem Z_put (k : Nat) {idx ci j : Nat} {fty : FieldType} {q : Nat} {fs fs' : List Value} {v : Value} {mem' : List zE} (h : X.I[k]? = some (pc, .putfield idx, 3, n)) (hf : zF X.M.1.cls idx ci j fty false) (hq : mem[q]? = some (zO ci fs)) (hj2 : j < fs.length) (hv : ∀ ad, narrow fty (zv ad v) = zv ad v ∧ fits fty (zv ad v) = true) (hm : mem.set q (zO ci (fs.set j v)) = mem') (kk : Z X kc ks mem' n lv st) : Z X kc ks mem pc lv (v :: .ref q :: st) := by
  intro D cI cL ad ad0 n0 A p e s m args below meth c H locs ls hd hB hWd hag hn hA hS hl
  obtain ⟨h1, rfl⟩ := zI_dec hd h
  subst hm
  obtain ⟨C, T, N, ty, ⟨c1, c2, c3, c4⟩, hj, rfl, hfin, hlk⟩ := hf
  have hts := hB.2.2.2.2.2.2.2.1
  have hK := hB.2.2.2.2.2.2.2.2.2
  have hap := va_apart (own := X.M.1.cls) hts c2 ty c3 c4 hK c1
  obtain ⟨hAa, r, g1, cell, q1, q2, q3, q4⟩ := hWd.1 q _ hq
  have hr : r = (C, T, N) := Option.some.inj (g1.symm.trans c1)
  subst hr
  obtain ⟨hSl, hfc, kC, hkC, hkind⟩ := hK.1 ci _ c1
  obtain ⟨cf, kf, fi, f, hi, hsl⟩ := hSl j hj
  have hlay := hts _ (c2 _ (u_in_lay hj))
  unfold u_lay at hlay
  rw [if_neg (by rw [hfin]; decide)] at hlay
  have hst := (u_facts hfc hkC (u_lays hts c2 hj) hi).1
  have h6 := u_store hfc hkC hkind hlay hi (c3 j hj) (hv ad).1 (hv ad).2
  refine W.putK hB.1 hB.2.1 (f := f) ⟨hB.2.2.2.2.2.1, hts _ hlk, ⟨_, _, _, hi⟩, hst⟩ (by rw [q2]; exact h6) q1 q3 (by rw [hsl]; exact k2_hasslot (q4 j hj)) rfl rfl h1 fun H' e1 e2 e3 => ?_
  rw [hsl] at e1 ⊢
  refine kk D cI cL ad ad0 n0 A p e s m args below meth c H' _ ls hd hB (hWd.set hq rfl ⟨hAa, _, c1, t_OB.to (V := updV (vp_V (fs.map (zv ad))) j (zv ad v)) ⟨_, e1, q2, q3, t_set q4 hap hj _⟩ (fun i _ => ?_)⟩ rfl e2 e3) hag (by simpa using hn) hA (hS.put e2 e3 hAa) hl
  rw [List.map_set]
  exact vp_updV_set (by simpa using hj2) _ i
theorem Z_putN (k : Nat) {idx ci j : Nat} {fty : FieldType} {q : Nat} {fs fs' : List Value} {v : Value} {mem' : List zE} (h : X.I[k]? = some (pc, .putfield idx, 3, n)) (hf : zFN X.M.1.cls idx ci j fty false) (hq : mem[q]? = some (zO ci fs)) (hj2 : j < fs.length) (hv : ∀ ad, narrow fty (zv ad v) = zv ad v ∧ fits fty (zv ad v) = true) (hm : mem.set q (zO ci (fs.set j v)) = mem') (kk : Z X kc ks mem' n lv st) : Z X kc ks mem pc lv (v :: .ref q :: st) := by
  intro D cI cL ad ad0 n0 A p e s m args below meth c H locs ls hd hB hWd hag hn hA hS hl
  obtain ⟨h1, rfl⟩ := zI_dec hd h
  subst hm
  obtain ⟨C, T, N, ty, host, ⟨c1, c2, c3, c4⟩, hj, rfl, hfin, hlk⟩ := hf
  have hts := hB.2.2.2.2.2.2.2.1
  have hK := hB.2.2.2.2.2.2.2.2.2
  have hap := va_apart (own := X.M.1.cls) hts c2 ty c3 c4 hK c1
  obtain ⟨hAa, r, g1, cell, q1, q2, q3, q4⟩ := hWd.1 q _ hq
  have hr : r = (C, T, N) := Option.some.inj (g1.symm.trans c1)
  subst hr
  obtain ⟨hSl, hfc, kC, hkC, hkind⟩ := hK.1 ci _ c1
  obtain ⟨cf, kf, fi, f, hi, hsl⟩ := hSl j hj
  have hlay := hts _ (c2 _ (u_in_lay hj))
  unfold u_lay at hlay
  rw [if_neg (by rw [hfin]; decide)] at hlay
  have hst := (u_facts hfc hkC (u_lays hts c2 hj) hi).1
  have h6 := u_store hfc hkC hkind hlay hi (c3 j hj) (hv ad).1 (hv ad).2
  refine va_WputK hB.1 hB.2.1 (f := f) hB.2.2.2.2.2.1 ((hB.2.2.2.2.2.2.2.2.1 _ hlk).use rfl) hi hst (by rw [q2]; exact h6) q1 q3 (by rw [hsl]; exact k2_hasslot (q4 j hj)) rfl rfl h1 fun H' e1 e2 e3 => ?_
  rw [hsl] at e1 ⊢
  refine kk D cI cL ad ad0 n0 A p e s m args below meth c H' _ ls hd hB (hWd.set hq rfl ⟨hAa, _, c1, t_OB.to (V := updV (vp_V (fs.map (zv ad))) j (zv ad v)) ⟨_, e1, q2, q3, t_set q4 hap hj _⟩ (fun i _ => ?_)⟩ rfl e2 e3) hag (by simpa using hn) hA (hS.put e2 e3 hAa) hl
  rw [List.map_set]
  exact vp_updV_set (by simpa using hj2) _ i
/-- a final field, in its class's constructor -/
theorem Z_putF (k : Nat) {idx ci j : Nat} {fty : FieldType} {q : Nat} {fs fs' : List Value} {v : Value} {mem' : List zE} {C : String} {T : u_T} {N : Nat} {ty : Nat → FieldType} (h : X.I[k]? = some (pc, .putfield idx, 3, n)) (hck : zCK ci C T N ty) (hj : j < N) (hlk : Cond.fieldLink X.M.1.cls idx (T j).1 (T j).2.1 (T j).2.2.1 ∈ zTB) (hfin : (T j).2.2.2 = true) (hdecl : (T j).1 = X.M.1.cls) (hini : X.M.1.name = "<init>") (hq : mem[q]? = some (zO ci fs)) (hj2 : j < fs.length) (hv : ∀ ad, narrow (ty j) (zv ad v) = zv ad v ∧ fits (ty j) (zv ad v) = true) (hm : mem.set q (zO ci (fs.set j v)) = mem') (kk : Z X kc ks mem' n lv st) : Z X kc ks mem pc lv (v :: .ref q :: st) := by
  intro D cI cL ad ad0 n0 A p e s m args below meth c H locs ls hd hB hWd hag hn hA hS hl
  obtain ⟨h1, rfl⟩ := zI_dec hd h
  subst hm
  obtain ⟨c1, c2, c3, c4⟩ := hck
  have hts := hB.2.2.2.2.2.2.2.1
  have hK := hB.2.2.2.2.2.2.2.2.2
  have hown := hB.2.2.2.2.2.1
  have hap := va_apart (own := X.M.1.cls) hts c2 ty c3 c4 hK c1
  obtain ⟨hAa, r, g1, cell, q1, q2, q3, q4⟩ := hWd.1 q _ hq
  have hr : r = (C, T, N) := Option.some.inj (g1.symm.trans c1)
  subst hr
  obtain ⟨hSl, hfc, kC, hkC, hkind⟩ := hK.1 ci _ c1
  obtain ⟨cf, kf, fi, f, hi, hsl⟩ := hSl j hj
  have hlay := hts _ (c2 _ (u_in_lay hj))
  unfold u_lay at hlay
  rw [if_pos hfin] at hlay
  have hst := (u_facts hfc hkC (u_lays hts c2 hj) hi).1
  have hcf : m.cls = cf := by
    obtain ⟨_, _, c', _, _, _, -, -, hf', -, -, -, hown2, -⟩ := Cond.laysFinal_spec hlay
    have e1 : c' = cf := by have := hi.symm.trans hf'; simp at this; exact this.1.symm
    rw [hdecl] at hown2
    rw [← e1]; exact Option.some.inj (hown.symm.trans hown2)
  have h6 := u_fits hfc hkC hkind (Or.inr hlay) hi (c3 j hj) (hv ad).1 (hv ad).2
  refine W.putFinK hB.1 hB.2.1 hown (hts _ hlk) hi hst hcf (hB.2.2.2.2.2.2.1.trans hini) (by rw [q2]; exact h6) q1 q3 (by rw [hsl]; exact k2_hasslot (q4 j hj)) rfl rfl h1 fun H' e1 e2 e3 => ?_
  rw [hsl] at e1 ⊢
  refine kk D cI cL ad ad0 n0 A p e s m args below meth c H' _ ls hd hB (hWd.set hq rfl ⟨hAa, _, c1, t_OB.to (V := updV (vp_V (fs.map (zv ad))) j (zv ad v)) ⟨_, e1, q2, q3, t_set q4 hap hj _⟩ (fun i _ => ?_)⟩ rfl e2 e3) hag (by simpa using hn) hA (hS.put e2 e3 hAa) hl
  rw [List.map_set]
  exact vp_updV_set (by simpa using hj2) _ i
theorem Z_ia (k : Nat) {q N : Nat} {F : Int → Int} {i : Int} (h : X.I[k]? = some (pc, .iaload, 1, n)) (hq : mem[q]? = some (aI N F)) (hi : 0 ≤ i ∧ i < (N : Int)) (hN : N < 2147483648) (kk : Z X kc ks mem n lv (.int (iI (F i)) :: st)) : Z X kc ks mem pc lv (.int (iI i) :: .ref q :: st) := by
  intro D cI cL ad ad0 n0 A p e s m args below meth c H locs ls hd hB hWd hag hn hA hS hl
  obtain ⟨h1, rfl⟩ := zI_dec hd h
  obtain ⟨x1, x2⟩ := iI_ix hi hN
  have hK := hB.2.2.2.2.2.2.2.2.2
  refine W.iald (v := .int (iI (F i))) hB.1 hB.2.1 (hWd.1 q _ hq).2 ((hK.2 0 _ rfl).1 N (fun j => .int (iI (F (j : Int))))) (fun z => by cases z) (by show ¬ (_ < 0 ∨ (arrV _ _ _).slots.size ≤ _); rw [arrV_size]; exact x1) ?_ rfl rfl h1 (kk D cI cL ad ad0 n0 A p e s m args below meth c H locs ls hd hB hWd hag hn hA hS hl)
  show (arrV _ _ _).slots[_]? = _
  rw [x2, arrV_read _ _ (show i.toNat < N by omega)]
  show some (Value.int (iI (F (i.toNat : Int)))) = _
  rw [Int.toNat_of_nonneg hi.1]
theorem Z_iaR (k : Nat) {q N : Nat} {F : Int → Int} {i : Int} (h : X.I[k]? = some (pc, .iaload, 1, n)) (hq : mem[q]? = some (aR N F)) (hi : 0 ≤ i ∧ i < (N : Int)) (hN : N < 2147483648) (kk : Z X kc ks mem n lv (.int (iI (F i)) :: st)) : Z X kc ks mem pc lv (.int (iI i) :: .ref q :: st) := by
  intro D cI cL ad ad0 n0 A p e s m args below meth c H locs ls hd hB hWd hag hn hA hS hl
  obtain ⟨h1, rfl⟩ := zI_dec hd h
  obtain ⟨x1, x2⟩ := iI_ix hi hN
  obtain ⟨cell, g1, g2, g3, g4, g5, g6, g7⟩ := hWd.1 q _ hq
  refine W.iald (v := .int (iI (F i))) hB.1 hB.2.1 g1 g2 g3 (fun z => x1 (z.imp (fun z => z) (fun z => by show N ≤ _; have g4' : N ≤ cell.slots.size := g4; omega))) ?_ rfl rfl h1 (kk D cI cL ad ad0 n0 A p e s m args below meth c H locs ls hd hB hWd hag hn hA hS hl)
  rw [x2, g6 _ (show i.toNat < N by omega)]
  show some (Value.int (iI (F (i.toNat : Int)))) = _
  rw [Int.toNat_of_nonneg hi.1]
theorem Z_baR (k : Nat) {q N : Nat} {F : Int → Int} {i : Int} (h : X.I[k]? = some (pc, .baload, 1, n)) (hq : mem[q]? = some (aB N F)) (hi : 0 ≤ i ∧ i < (N : Int)) (hN : N < 2147483648) (kk : Z X kc ks mem n lv (.int (iI (F i)) :: st)) : Z X kc ks mem pc lv (.int (iI i) :: .ref q :: st) := by
  intro D cI cL ad ad0 n0 A p e s m args below meth c H locs ls hd hB hWd hag hn hA hS hl
  obtain ⟨h1, rfl⟩ := zI_dec hd h
  obtain ⟨x1, x2⟩ := iI_ix hi hN
  obtain ⟨cell, g1, g2, g3, g4, g5, g6, g7⟩ := hWd.1 q _ hq
  refine W.bald (v := .int (iI (F i))) hB.1 hB.2.1 g1 g2 g3 (fun z => x1 (z.imp (fun z => z) (fun z => by show N ≤ _; have g4' : N ≤ cell.slots.size := g4; omega))) ?_ rfl rfl h1 (kk D cI cL ad ad0 n0 A p e s m args below meth c H locs ls hd hB hWd hag hn hA hS hl)
  rw [x2, g6 _ (show i.toNat < N by omega)]
  show some (Value.int (iI (F (i.toNat : Int)))) = _
  rw [Int.toNat_of_nonneg hi.1]
theorem Z_la (k : Nat) {q N : Nat} {F : Int → Int} {i : Int} (h : X.I[k]? = some (pc, .laload, 1, n)) (hq : mem[q]? = some (aL N F)) (hi : 0 ≤ i ∧ i < (N : Int)) (hN : N < 2147483648) (kk : Z X kc ks mem n lv (.long (lI (F i)) :: st)) : Z X kc ks mem pc lv (.int (iI i) :: .ref q :: st) := by
  intro D cI cL ad ad0 n0 A p e s m args below meth c H locs ls hd hB hWd hag hn hA hS hl
  obtain ⟨h1, rfl⟩ := zI_dec hd h
  obtain ⟨x1, x2⟩ := iI_ix hi hN
  have hK := hB.2.2.2.2.2.2.2.2.2
  refine W.lald (v := .long (lI (F i))) hB.1 hB.2.1 (hWd.1 q _ hq).2 ((hK.2 1 _ rfl).1 N (fun j => .long (lI (F (j : Int))))) (fun z => by cases z) (by show ¬ (_ < 0 ∨ (arrV _ _ _).slots.size ≤ _); rw [arrV_size]; exact x1) ?_ rfl rfl h1 (kk D cI cL ad ad0 n0 A p e s m args below meth c H locs ls hd hB hWd hag hn hA hS hl)
  show (arrV _ _ _).slots[_]? = _
  rw [x2, arrV_read _ _ (show i.toNat < N by omega)]
  show some (Value.long (lI (F (i.toNat : Int)))) = _
  rw [Int.toNat_of_nonneg hi.1]
theorem Z_ias (k : Nat) {q N : Nat} {F : Int → Int} {i v : Int} {mem' : List zE} (h : X.I[k]? = some (pc, .iastore, 1, n)) (hq : mem[q]? = some (aI N F)) (hi : 0 ≤ i ∧ i < (N : Int)) (hN : N < 2147483648) (hm : mem.set q (aI N (uI F i v)) = mem') (kk : Z X kc ks mem' n lv st) : Z X kc ks mem pc lv (.int (iI v) :: .int (iI i) :: .ref q :: st) := by
  intro D cI cL ad ad0 n0 A p e s m args below meth c H locs ls hd hB hWd hag hn hA hS hl
  obtain ⟨h1, rfl⟩ := zI_dec hd h
  subst hm
  obtain ⟨x1, x2⟩ := iI_ix hi hN
  have hK := hB.2.2.2.2.2.2.2.2.2
  obtain ⟨hAa, hc⟩ := hWd.1 q _ hq
  refine W.iast hB.1 hB.2.1 hc ((hK.2 0 _ rfl).1 N (fun j => .int (iI (F (j : Int))))) (fun z => by cases z) (by show ¬ (_ < 0 ∨ (arrV _ _ _).slots.size ≤ _); rw [arrV_size]; exact x1) rfl rfl h1 fun H1 e1 z oq => ?_
  refine kk D cI cL ad ad0 n0 A p e s m args below meth c H1 _ ls hd hB (hWd.set hq rfl ⟨hAa, ?_⟩ rfl z oq) hag (by simpa using hn) hA (hS.put z oq hAa) hl
  show H1[ad q]? = some (vp_cell _ _)
  rw [e1, vp_cell_i, vp_cell_i, arrV_store, x2]
  congr 2
  funext j
  show updV _ _ _ j = Value.int (iI (uI F i v (j : Int)))
  by_cases hj : j = i.toNat
  · subst hj
    rw [Int.toNat_of_nonneg hi.1, uI_s]
    simp [updV]
  · rw [uI_n F v (by omega)]
    simp [updV, hj]
theorem Z_las (k : Nat) {q N : Nat} {F : Int → Int} {i v : Int} {mem' : List zE} (h : X.I[k]? = some (pc, .lastore, 1, n)) (hq : mem[q]? = some (aL N F)) (hi : 0 ≤ i ∧ i < (N : Int)) (hN : N < 2147483648) (hm : mem.set q (aL N (uI F i v)) = mem') (kk : Z X kc ks mem' n lv st) : Z X kc ks mem pc lv (.long (lI v) :: .int (iI i) :: .ref q :: st) := by
  intro D cI cL ad ad0 n0 A p e s m args below meth c H locs ls hd hB hWd hag hn hA hS hl
  obtain ⟨h1, rfl⟩ := zI_dec hd h
  subst hm
  obtain ⟨x1, x2⟩ := iI_ix hi hN
  have hK := hB.2.2.2.2.2.2.2.2.2
  obtain ⟨hAa, hc⟩ := hWd.1 q _ hq
  refine W.last hB.1 hB.2.1 hc ((hK.2 1 _ rfl).1 N (fun j => .long (lI (F (j : Int))))) (fun z => by cases z) (by show ¬ (_ < 0 ∨ (arrV _ _ _).slots.size ≤ _); rw [arrV_size]; exact x1) rfl rfl h1 fun H1 e1 z oq => ?_
  refine kk D cI cL ad ad0 n0 A p e s m args below meth c H1 _ ls hd hB (hWd.set hq rfl ⟨hAa, ?_⟩ rfl z oq) hag (by simpa using hn) hA (hS.put z oq hAa) hl
  show H1[ad q]? = some (vp_cell _ _)
  rw [e1, vp_cell_l, vp_cell_l, arrV_store, x2]
  congr 2
  funext j
  show updV _ _ _ j = Value.long (lI (uI F i v (j : Int)))
  by_cases hj : j = i.toNat
  · subst hj
    rw [Int.toNat_of_nonneg hi.1, uI_s]
    simp [updV]
  · rw [uI_n F v (by omega)]
    simp [updV, hj]
theorem Z_alI (k : Nat) {q N : Nat} {F : Int → Int} (h : X.I[k]? = some (pc, .arraylength, 1, n)) (hq : mem[q]? = some (aI N F)) (kk : Z X kc ks mem n lv (.int (iI (N : Int)) :: st)) : Z X kc ks mem pc lv (.ref q :: st) := by
  intro D cI cL ad ad0 n0 A p e s m args below meth c H locs ls hd hB hWd hag hn hA hS hl
  obtain ⟨h1, rfl⟩ := zI_dec hd h
  have hK := hB.2.2.2.2.2.2.2.2.2
  refine W.alen (n := iI (N : Int)) hB.1 hB.2.1 (hWd.1 q _ hq).2 ((hK.2 0 _ rfl).1 N (fun j => .int (iI (F (j : Int))))) (by show (arrV _ _ _).slots.size.toInt32 = _; rw [arrV_size]; rfl) rfl rfl h1 (kk D cI cL ad ad0 n0 A p e s m args below meth c H locs ls hd hB hWd hag hn hA hS hl)
theorem Z_alL (k : Nat) {q N : Nat} {F : Int → Int} (h : X.I[k]? = some (pc, .arraylength, 1, n)) (hq : mem[q]? = some (aL N F)) (kk : Z X kc ks mem n lv (.int (iI (N : Int)) :: st)) : Z X kc ks mem pc lv (.ref q :: st) := by
  intro D cI cL ad ad0 n0 A p e s m args below meth c H locs ls hd hB hWd hag hn hA hS hl
  obtain ⟨h1, rfl⟩ := zI_dec hd h
  have hK := hB.2.2.2.2.2.2.2.2.2
  refine W.alen (n := iI (N : Int)) hB.1 hB.2.1 (hWd.1 q _ hq).2 ((hK.2 1 _ rfl).1 N (fun j => .long (lI (F (j : Int))))) (by show (arrV _ _ _).slots.size.toInt32 = _; rw [arrV_size]; rfl) rfl rfl h1 (kk D cI cL ad ad0 n0 A p e s m args below meth c H locs ls hd hB hWd hag hn hA hS hl)
theorem zlen_i (N : Nat) : Int32.ofNat N = iI (N : Int) := rfl
theorem Z_alR (k : Nat) {q N : Nat} {F : Int → Int} (h : X.I[k]? = some (pc, .arraylength, 1, n)) (hq : mem[q]? = some (aR N F)) (kk : Z X kc ks mem n lv (.int (iI (N : Int)) :: st)) : Z X kc ks mem pc lv (.ref q :: st) := by
  intro D cI cL ad ad0 n0 A p e s m args below meth c H locs ls hd hB hWd hag hn hA hS hl
  obtain ⟨h1, rfl⟩ := zI_dec hd h
  obtain ⟨cell, g1, g2, g3, g4, g5, g6, g7⟩ := hWd.1 q _ hq
  exact W.alen (n := iI (N : Int)) hB.1 hB.2.1 g1 g2 g5 rfl rfl h1 (kk D cI cL ad ad0 n0 A p e s m args below meth c H locs ls hd hB hWd hag hn hA hS hl)
theorem Z_alB (k : Nat) {q N : Nat} {F : Int → Int} (h : X.I[k]? = some (pc, .arraylength, 1, n)) (hq : mem[q]? = some (aB N F)) (kk : Z X kc ks mem n lv (.int (iI (N : Int)) :: st)) : Z X kc ks mem pc lv (.ref q :: st) := by
  intro D cI cL ad ad0 n0 A p e s m args below meth c H locs ls hd hB hWd hag hn hA hS hl
  obtain ⟨h1, rfl⟩ := zI_dec hd h
  obtain ⟨cell, g1, g2, g3, g4, g5, g6, g7⟩ := hWd.1 q _ hq
  exact W.alen (n := iI (N : Int)) hB.1 hB.2.1 g1 g2 g5 rfl rfl h1 (kk D cI cL ad ad0 n0 A p e s m args below meth c H locs ls hd hB hWd hag hn hA hS hl)
/-- a static field, of those that the world tells -/
theorem Z_gets (k : Nat) {idx q : Nat} {l : List (String × String × String × Value)} {C f d : String} {v : Value} (h : X.I[k]? = some (pc, .getstatic idx, 3, n)) (hlk : Cond.fieldLink X.M.1.cls idx C f d ∈ zTB) (hq : mem[q]? = some (zT l)) (hv : (C, f, d, v) ∈ l) (kk : Z X kc ks mem n lv (v :: st)) : Z X kc ks mem pc lv st := by
  intro D cI cL ad ad0 n0 A p e s m args below meth c H locs ls hd hB hWd hag hn hA hS hl
  obtain ⟨h1, rfl⟩ := zI_dec hd h
  obtain ⟨cf, kf, fi, fl, a, cell, g1, g2, g3, g4, g5, g6, g7, g8⟩ := (hWd.1 q _ hq).1 _ hv
  exact W.gets hB.1 hB.2.1 hB.2.2.2.2.2.1 (hB.2.2.2.2.2.2.2.1 _ hlk) g1 g2 g3 g4 g5 (fun z => by rw [z] at g6; cases g6) g7 rfl h1 (kk D cI cL ad ad0 n0 A p e s m args below meth c H locs ls hd hB hWd hag hn hA hS hl)
/-- String constants: ldc, the two fields of a String -/
theorem Z_ldcS (k : Nat) {idx q i j : Nat} {tx : String} (h : X.I[k]? = some (pc, .ldc idx, 2, n)) (hown : X.M.1.cls = "CamPieces$Reader") (hq : mem[q]? = some (zS i j)) (hs : zStr[i]? = some (tx, idx)) (kk : Z X kc ks mem n lv (.ref q :: st)) : Z X kc ks mem pc lv st := by
  intro D cI cL ad ad0 n0 A p e s m args below meth c H locs ls hd hB hWd hag hn hA hS hl
  obtain ⟨h1, rfl⟩ := zI_dec hd h
  have ho := hB.2.2.2.2.2.1
  rw [hown] at ho
  exact va_ldcS hB.1 hB.2.1 ho ((hWd.1 q _ hq).1 _ hs) h1 (kk D cI cL ad ad0 n0 A p e s m args below meth c H locs ls hd hB hWd hag hn hA hS hl)
theorem Z_getSv (k : Nat) {idx q i j : Nat} (h : X.I[k]? = some (pc, .getfield idx, 3, n)) (hlk : Cond.fieldLink X.M.1.cls idx "java/lang/String" "value" "[B" ∈ zTB) (hq : mem[q]? = some (zS i j)) (kk : Z X kc ks mem n lv (.ref j :: st)) : Z X kc ks mem pc lv (.ref q :: st) := by
  intro D cI cL ad ad0 n0 A p e s m args below meth c H locs ls hd hB hWd hag hn hA hS hl
  obtain ⟨h1, rfl⟩ := zI_dec hd h
  obtain ⟨cf, kf, fi, f, cell, g1, g2, g3, g4, g5, g6⟩ := (hWd.1 q _ hq).2.2.2
  exact W.getf hB.1 hB.2.1 hB.2.2.2.2.2.1 (hB.2.2.2.2.2.2.2.1 _ hlk) g1 g2 g3 g4 g5 rfl rfl h1 (kk D cI cL ad ad0 n0 A p e s m args below meth c H locs ls hd hB hWd hag hn hA hS hl)
theorem Z_getSc (k : Nat) {idx q i j : Nat} (h : X.I[k]? = some (pc, .getfield idx, 3, n)) (hlk : Cond.fieldLink X.M.1.cls idx "java/lang/String" "coder" "B" ∈ zTB) (hq : mem[q]? = some (zS i j)) (kk : Z X kc ks mem n lv (.int (iI 0) :: st)) : Z X kc ks mem pc lv (.ref q :: st) := by
  intro D cI cL ad ad0 n0 A p e s m args below meth c H locs ls hd hB hWd hag hn hA hS hl
  obtain ⟨h1, rfl⟩ := zI_dec hd h
  obtain ⟨cf, kf, fi, f, cell, g1, g2, g3, g4, g5, g6⟩ := (hWd.1 q _ hq).2.2.1
  exact W.getf hB.1 hB.2.1 hB.2.2.2.2.2.1 (hB.2.2.2.2.2.2.2.1 _ hlk) g1 g2 g3 g4 g5 rfl rfl h1 (kk D cI cL ad ad0 n0 A p e s m args below meth c H locs ls hd hB hWd hag hn hA hS hl)
/-- switches -/
theorem Z_tabIn (k : Nat) {dflt lo hi off x : Int} {offs : Array Int} {len tgt : Nat} (h : X.I[k]? = some (pc, .tableswitch dflt lo hi offs, len, n)) (hx : inI x) (h1 : ¬ x < lo) (h2 : ¬ hi < x) (ho : offs[(x - lo).toNat]? = some off) (ht : (pc : Int) + off = (tgt : Int)) (kk : Z X kc ks mem tgt lv st) : Z X kc ks mem pc lv (.int (iI x) :: st) := by
  intro D cI cL ad ad0 n0 A p e s m args below meth c H locs ls hd hB hWd hag hn hA hS hl
  obtain ⟨g1, rfl⟩ := zI_dec hd h
  exact lv_tableIn hB.1 hB.2.1 g1 (by rw [iI_t hx]; exact h1) (by rw [iI_t hx]; exact h2) (by rw [iI_t hx]; exact ho) ht (kk D cI cL ad ad0 n0 A p e s m args below meth c H locs ls hd hB hWd hag hn hA hS hl)
theorem Z_tabOut (k : Nat) {dflt lo hi x : Int} {offs : Array Int} {len tgt : Nat} (h : X.I[k]? = some (pc, .tableswitch dflt lo hi offs, len, n)) (hx : inI x) (h1 : x < lo ∨ hi < x) (ht : (pc : Int) + dflt = (tgt : Int)) (kk : Z X kc ks mem tgt lv st) : Z X kc ks mem pc lv (.int (iI x) :: st) := by
  intro D cI cL ad ad0 n0 A p e s m args below meth c H locs ls hd hB hWd hag hn hA hS hl
  obtain ⟨g1, rfl⟩ := zI_dec hd h
  exact lv_tableOut hB.1 hB.2.1 g1 (by rw [iI_t hx]; exact h1) ht (kk D cI cL ad ad0 n0 A p e s m args below meth c H locs ls hd hB hWd hag hn hA hS hl)
/-- a method's end -/
theorem zend {D : va_G} {cI cL : ClassId} {ad ad0 : Nat → Nat} {n0 : Nat} {A : Nat → Prop} {s : State} {args : Array Value} {H : Heap} {locs : List Loc} (hWd : zW D cI cL ad A s H mem) (hag : zAg X.al n0 ad ad0) (hn : n0 ≤ mem.length) (hS : va_S A s.heap H locs) {r : Option Value} (hQ : X.Q r mem) : ∀ t : State, t.heap = H → s.WarmedH t.vm → zQ X.al X.Q D cI cL A ad0 n0 args s (.returned (r.map (zv ad))) t :=
  fun t ht hW => ⟨r, mem, ad, rfl, hQ, hag, hn, by rw [ht]; exact hWd.moved hW, hS.F ht⟩
theorem Z_iret (k : Nat) {v : Int32} (h : X.I[k]? = some (pc, .ireturn, 1, n)) (hr : X.M.2.2.2.1 = some .int) (hm : kc ≤ X.mc ∧ ks ≤ X.ms) (hQ : X.Q (some (.int v)) mem) : Z X kc ks mem pc lv [.int v] := by
  intro D cI cL ad ad0 n0 A p e s m args below meth c H locs ls hd hB hWd hag hn hA hS hl
  obtain ⟨h1, rfl⟩ := zI_dec hd h
  refine W.widen hm.1 hm.2 ?_
  exact W.iret hB.1 hB.2.1 (hB.2.2.2.1.trans hr) (zend hWd hag hn hS hQ) hS.2.2 h1 hB.2.2.2.2.1
theorem Z_zret (k : Nat) {v : Int32} {ty : FieldType} (h : X.I[k]? = some (pc, .ireturn, 1, n)) (hr : X.M.2.2.2.1 = some ty) (hv : narrow ty (.int v) = .int v) (hm : kc ≤ X.mc ∧ ks ≤ X.ms) (hQ : X.Q (some (.int v)) mem) : Z X kc ks mem pc lv [.int v] := by
  intro D cI cL ad ad0 n0 A p e s m args below meth c H locs ls hd hB hWd hag hn hA hS hl
  obtain ⟨h1, rfl⟩ := zI_dec hd h
  refine W.widen hm.1 hm.2 ?_
  exact W.zret hB.1 hB.2.1 (hB.2.2.2.1.trans hr) hv (zend hWd hag hn hS hQ) hS.2.2 h1 hB.2.2.2.2.1
theorem Z_lret (k : Nat) {v : Int64} (h : X.I[k]? = some (pc, .lreturn, 1, n)) (hr : X.M.2.2.2.1 = some .long) (hm : kc ≤ X.mc ∧ ks ≤ X.ms) (hQ : X.Q (some (.long v)) mem) : Z X kc ks mem pc lv [.long v] := by
  intro D cI cL ad ad0 n0 A p e s m args below meth c H locs ls hd hB hWd hag hn hA hS hl
  obtain ⟨h1, rfl⟩ := zI_dec hd h
  refine W.widen hm.1 hm.2 ?_
  exact W.lret hB.1 hB.2.1 (hB.2.2.2.1.trans hr) (zend hWd hag hn hS hQ) hS.2.2 h1 hB.2.2.2.2.1
theorem Z_vret (k : Nat) (h : X.I[k]? = some (pc, .return_, 1, n)) (hr : X.M.2.2.2.1 = none) (hm : kc ≤ X.mc ∧ ks ≤ X.ms) (hQ : X.Q none mem) : Z X kc ks mem pc lv [] := by
  intro D cI cL ad ad0 n0 A p e s m args below meth c H locs ls hd hB hWd hag hn hA hS hl
  obtain ⟨h1, rfl⟩ := zI_dec hd h
  refine W.widen hm.1 hm.2 ?_
  exact W.vret hB.1 hB.2.1 (hB.2.2.2.1.trans hr) (zend (r := none) hWd hag hn hS hQ) hS.2.2 h1 hB.2.2.2.2.1
theorem Z_aret (k : Nat) {q : Nat} {C : String} (h : X.I[k]? = some (pc, .areturn, 1, n)) (hr : X.M.2.2.2.1 = some (.object C)) (hm : kc ≤ X.mc ∧ ks ≤ X.ms) (hQ : X.Q (some (.ref q)) mem) : Z X kc ks mem pc lv [.ref q] := by
  intro D cI cL ad ad0 n0 A p e s m args below meth c H locs ls hd hB hWd hag hn hA hS hl
  obtain ⟨h1, rfl⟩ := zI_dec hd h
  refine W.widen hm.1 hm.2 ?_
  exact W.aret hB.1 hB.2.1 (hB.2.2.2.1.trans hr) (Or.inl ⟨_, rfl⟩) (Or.inr ⟨_, rfl⟩) (zend (r := some (.ref q)) hWd hag hn hS hQ) hS.2.2 h1 hB.2.2.2.2.1
end ZH
/-- a contract from the walk of the method's body -/
theorem Con.of_Z {l : Launch} {M : zM} {rm : Room} {mc ms : Nat} {al : Bool} {av : List Value} {mem : List zE} {Q : Option Value → List zE → Prop} (hy : plainName M.1.cls = true) (hd : zDec M) (hlen : (lg_sl av).length ≤ M.2.2.1) (h : Z (l, M, rm, (mc, ms), al, Q) 0 0 mem 0 (lv_args 0 av) []) : Con l M rm mc ms al av mem Q := by
  intro D cI cL ad0 sz
  refine Met.ofW (cc := M.2.1) (maxL := M.2.2.1) (ret := M.2.2.2.1) hy rfl ?_
  intro p e s m args below meth c s₁ B hml hv
  obtain ⟨rfl, hsz, hWd, hK, hNW⟩ := hv
  have hts := atoms_spec (ws := zws M) B.pre
  have hown : s.vm.findClass M.1.cls = some m.cls := findClass_of_methodNamed B.named
  have hin : meth.name = M.1.name := (name_of_methodNamed B.named B.method).1
  subst hsz
  have hl := lv_entry (av.map (zv ad0)) (n := M.2.2.1) (by rw [lg_sl_zv]; exact hlen)
  rw [lv_args_zv] at hl
  rw [lg_entry_eq]
  exact h D cI cL ad0 ad0 mem.length (zA mem ad0 s.heap.size) p e s m _ below meth c s.heap [] _ hd ⟨B.exec, B.bytes, hml, B.returns, B.notSynchronized, hown, hin, fun w hw => hts w (List.mem_cons_of_mem _ hw), hNW, hK⟩ hWd zAg.rf (Nat.le_refl _) (fun q hq => Or.inr hq) va_S.rf hl
end
section
/-! calls: the callee's world is a part of the caller's, by places -/
def zr (is : List Nat) : Nat → Nat := fun j => is.getD j 0
def renE (f : Nat → Nat) : zE → zE
  | .inl o => .inl (o.1, o.2.map (zv f))
  | .inr (.inl x) => .inr (.inl x)
  | .inr (.inr (.inl x)) => .inr (.inr (.inl x))
  | .inr (.inr (.inr (.inl x))) => .inr (.inr (.inr (.inl x)))
  | .inr (.inr (.inr (.inr (.inl x)))) => .inr (.inr (.inr (.inr (.inl x))))
  | .inr (.inr (.inr (.inr (.inr (.inl x))))) => .inr (.inr (.inr (.inr (.inr (.inl (x.1, f x.2))))))
  | .inr (.inr (.inr (.inr (.inr (.inr (.inl l)))))) => .inr (.inr (.inr (.inr (.inr (.inr (.inl (l.map (fun q => (q.1, q.2.1, q.2.2.1, zv f q.2.2.2)))))))))
  | .inr (.inr (.inr (.inr (.inr (.inr (.inr u)))))) => .inr (.inr (.inr (.inr (.inr (.inr (.inr u))))))
theorem zv_zv (f g : Nat → Nat) (v : Value) : zv f (zv g v) = zv (fun j => f (g j)) v := by cases v <;> rfl
theorem renE_rw (f : Nat → Nat) (e : zE) : zrw (renE f e) = zrw e := by rcases e with o | x | x | x | x | x | x | x <;> rfl
theorem zat_ren {D : va_G} {cI cL : ClassId} {ad : Nat → Nat} {f : Nat → Nat} {A : Nat → Prop} {U : State} {H : Heap} {a : Nat} {e : zE} : zat D cI cL ad A U H a (renE f e) ↔ zat D cI cL (fun j => ad (f j)) A U H a e := by
  rcases e with o | x | x | x | x | x | x | x
  · have e1 : (o.2.map (zv f)).map (zv ad) = o.2.map (zv (fun j => ad (f j))) := by
      rw [List.map_map]
      exact List.map_congr_left (fun v _ => zv_zv ad f v)
    show (A a ∧ ∃ r : vw_C, zCls[o.1]? = some r ∧ t_OB a (D.1 o.1) r.2.2 (D.2 o.1) H (vp_V ((o.2.map (zv f)).map (zv ad)))) ↔ _
    rw [e1]
    exact Iff.rfl
  · exact Iff.rfl
  · exact Iff.rfl
  · exact Iff.rfl
  · exact Iff.rfl
  · exact Iff.rfl
  · constructor
    · intro h
      refine ⟨fun q hq => ?_, h.2⟩
      have := h.1 (q.1, q.2.1, q.2.2.1, zv f q.2.2.2) (List.mem_map.mpr ⟨q, hq, rfl⟩)
      dsimp only at this
      rw [zv_zv] at this
      exact this
    · intro h
      refine ⟨fun q hq => ?_, h.2⟩
      obtain ⟨q0, h1, rfl⟩ := List.mem_map.mp hq
      have := h.1 q0 h1
      dsimp only
      rw [zv_zv]
      exact this
  · exact Iff.rfl
/-- a cell of the callee's world: the same one, or the caller's row read only -/
def zSub (o : Option zE) (e : zE) : Prop := o = some e ∨ ∃ (N : Nat) (F : Int → Int), e = aR N F ∧ o = some (aI N F) ∧ N < 2147483648
def zEL (mem : List zE) (f : Nat → Nat) : List Nat → List zE → Prop
  | i :: is, e :: sub => zSub (mem[i]?) (renE f e) ∧ zEL mem f is sub
  | [], [] => True
  | _, _ => False
def zEmb (is : List Nat) (mem sub : List zE) : Prop := is.Nodup ∧ zEL mem (zr is) is sub
theorem zEL_at {mem : List zE} {f : Nat → Nat} : ∀ {is : List Nat} {sub : List zE}, zEL mem f is sub → is.length = sub.length ∧ ∀ (j : Nat) (e : zE), sub[j]? = some e → ∃ i, is[j]? = some i ∧ zSub (mem[i]?) (renE f e) := by
  intro is
  induction is with
  | nil =>
    intro sub h
    cases sub with
    | nil => exact ⟨rfl, fun j e h => by simp at h⟩
    | cons e sub => exact h.elim
  | cons i is ih =>
    intro sub h
    cases sub with
    | nil => exact h.elim
    | cons e0 sub =>
      obtain ⟨h1, h2⟩ := ih h.2
      refine ⟨by simp [h1], fun j e hj => ?_⟩
      cases j with
      | zero =>
        simp at hj
        subst hj
        exact ⟨i, rfl, h.1⟩
      | succ j =>
        simp at hj
        obtain ⟨i2, g1, g2⟩ := h2 j e hj
        exact ⟨i2, by simpa using g1, g2⟩
theorem zr_at {is : List Nat} {j i : Nat} (h : is[j]? = some i) : zr is j = i := by
  simp [zr, List.getD_eq_getElem?_getD, h]
theorem nodup_at {is : List Nat} (h : is.Nodup) {i j k : Nat} (hi : is[i]? = some k) (hj : is[j]? = some k) : i = j := by
  have h1 := (List.getElem?_eq_some_iff.mp hi).1
  exact (List.getElem?_inj h1 h).mp (hi.trans hj.symm)
theorem aR_of_ren {f : Nat → Nat} {e : zE} {N : Nat} {F : Int → Int} (h : renE f e = aR N F) : e = aR N F := by
  rcases e with o | x | x | x | x | x | x | x <;> first | exact h | cases h
theorem zW.sub {D : va_G} {cI cL : ClassId} {ad : Nat → Nat} {A : Nat → Prop} {s : State} {H : Heap} {mem sub : List zE} {is : List Nat} (hK : va_K D zCls [(cI, .int), (cL, .long)] s) (hWd : zW D cI cL ad A s H mem) (hE : zEmb is mem sub) :
    zW D cI cL (fun j => ad (zr is j)) (zA sub (fun j => ad (zr is j)) H.size) s H sub := by
  obtain ⟨hnd, hel⟩ := hE
  obtain ⟨hlen, hat⟩ := zEL_at hel
  -- a cell of the callee that may be written is one of the caller's
  have hrwc : ∀ (j : Nat) (e : zE), sub[j]? = some e → zrw e = true → ∃ i, is[j]? = some i ∧ mem[i]? = some (renE (zr is) e) ∧ A (ad i) := by
    intro j e hj he
    obtain ⟨i, h1, h2⟩ := hat j e hj
    rcases h2 with h2 | ⟨N, F, h2, -⟩
    · exact ⟨i, h1, h2, zat_in (hWd.1 i _ h2) (by rw [renE_rw]; exact he)⟩
    · rw [aR_of_ren h2] at he
      cases he
  have harea : ∀ q, q < H.size → ¬ A q → ¬ zA sub (fun j => ad (zr is j)) H.size q := by
    intro q hq hA hB
    rcases hB with ⟨j, e, h1, h2, h3⟩ | hB
    · obtain ⟨i, g1, g2, g3⟩ := hrwc j e h1 h2
      dsimp only at h3
      rw [zr_at g1] at h3
      exact hA (h3 ▸ g3)
    · omega
  refine ⟨fun j e hj => ?_, fun i j x y hi hj hx hy hxy => ?_⟩
  · obtain ⟨i, h1, h2⟩ := hat j e hj
    dsimp only
    rw [zr_at h1]
    rcases h2 with h2 | ⟨N, F, h2, h3, h4⟩
    · refine zat_area (zat_ren.mp (hWd.1 i _ h2)) harea (fun he => Or.inl ⟨j, e, hj, he, ?_⟩)
      dsimp only
      rw [zr_at h1]
    · have he := aR_of_ren h2
      subst he
      obtain ⟨g1, g2⟩ := hWd.1 i _ h3
      refine ⟨_, g2, (hK.2 0 _ rfl).1 N (fun j => .int (iI (F (j : Int)))), (fun z => by cases z), ?_, ?_, ?_, ?_⟩
      · show N ≤ (arrV _ _ _).slots.size
        rw [arrV_size]
        exact Nat.le_refl _
      · show (arrV _ _ _).slots.size.toInt32 = _
        rw [arrV_size]
      · intro k hk
        show (arrV _ _ _).slots[k]? = _
        rw [arrV_read _ _ hk]
      · rintro (⟨j2, e2, k1, k2, k3⟩ | hB)
        · obtain ⟨i2, l1, l2, l3⟩ := hrwc j2 e2 k1 k2
          dsimp only at k3
          rw [zr_at l1] at k3
          have := hWd.2 i2 i _ _ l2 h3 (by rw [renE_rw]; exact k2) rfl k3
          subst this
          have := nodup_at hnd l1 h1
          subst this
          rw [k1] at hj
          cases hj
          cases k2
        · have := (Array.getElem?_eq_some_iff.mp g2).1
          omega
  · obtain ⟨i', a1, a2, a3⟩ := hrwc i x hi hx
    obtain ⟨j', b1, b2, b3⟩ := hrwc j y hj hy
    dsimp only at hxy
    rw [zr_at a1, zr_at b1] at hxy
    have := hWd.2 i' j' _ _ a2 b2 (by rw [renE_rw]; exact hx) (by rw [renE_rw]; exact hy) hxy
    subst this
    exact nodup_at hnd a1 b1
/-- the caller's world behind a call -/
def zMg (f : Nat → Nat) : List Nat → List zE → List zE → List zE
  | i :: is, e :: out, mem => zMg f is out (if zrw e = true then mem.set i (renE f e) else mem)
  | _, _, mem => mem
theorem zMg_len (f : Nat → Nat) : ∀ (is : List Nat) (out mem : List zE), (zMg f is out mem).length = mem.length := by
  intro is
  induction is with
  | nil => intro out mem; rfl
  | cons i is ih =>
    intro out mem
    cases out with
    | nil => rfl
    | cons e out =>
      unfold zMg
      rw [ih]
      split <;> simp
theorem zMg_at {f : Nat → Nat} : ∀ {is : List Nat} {out mem : List zE} {k : Nat} {x : zE}, is.Nodup → (zMg f is out mem)[k]? = some x → (∃ (j : Nat) (e : zE), is[j]? = some k ∧ out[j]? = some e ∧ zrw e = true ∧ x = renE f e) ∨ (mem[k]? = some x ∧ ∀ (j : Nat) (e : zE), is[j]? = some k → out[j]? = some e → zrw e = false) := by
  intro is
  induction is with
  | nil =>
    intro out mem k x _ h
    exact Or.inr ⟨h, fun j e h => by simp at h⟩
  | cons i is ih =>
    intro out mem k x hnd h
    cases out with
    | nil => exact Or.inr ⟨h, fun j e _ h => by simp at h⟩
    | cons e out =>
      unfold zMg at h
      have hnd2 := List.nodup_cons.mp hnd
      rcases ih hnd2.2 h with ⟨j, e1, h1, h2, h3, h4⟩ | ⟨h1, h2⟩
      · exact Or.inl ⟨j + 1, e1, by simpa using h1, by simpa using h2, h3, h4⟩
      · by_cases hki : k = i
        · subst hki
          by_cases he : zrw e = true
          · rw [if_pos he] at h1
            have hl := (List.getElem?_eq_some_iff.mp h1).1
            rw [List.length_set] at hl
            rw [List.getElem?_set_self hl] at h1
            cases h1
            exact Or.inl ⟨0, e, rfl, rfl, he, rfl⟩
          · rw [if_neg he] at h1
            refine Or.inr ⟨h1, fun j e1 g1 g2 => ?_⟩
            cases j with
            | zero =>
              simp at g2
              subst g2
              simpa using he
            | succ j => exact h2 j e1 (by simpa using g1) (by simpa using g2)
        · refine Or.inr ⟨?_, fun j e1 g1 g2 => ?_⟩
          · split at h1
            · rw [List.getElem?_set_ne (Ne.symm hki)] at h1
              exact h1
            · exact h1
          · cases j with
            | zero =>
              simp at g1
              exact absurd g1.symm hki
            | succ j => exact h2 j e1 (by simpa using g1) (by simpa using g2)
theorem zat_rwU {D : va_G} {cI cL : ClassId} {ad : Nat → Nat} {A B : Nat → Prop} {u U : State} {H : Heap} {a : Nat} {e : zE} (he : zrw e = true) (hA : A a) (h : zat D cI cL ad B u H a e) : zat D cI cL ad A U H a e := by
  rcases e with o | x | x | x | x | x | x | x
  · exact ⟨hA, h.2⟩
  · exact ⟨hA, h.2⟩
  · exact ⟨hA, h.2⟩
  all_goals (cases he)
theorem zW.back {D : va_G} {cI cL : ClassId} {ad : Nat → Nat} {A : Nat → Prop} {s t : State} {H H1 : Heap} {mem sub out : List zE} {is : List Nat} (hK : va_K D zCls [(cI, .int), (cL, .long)] s) (hWd : zW D cI cL ad A s H mem) (hE : zEmb is mem sub) (hlen : sub.length ≤ out.length)
    (h1 : zW D cI cL (fun j => ad (zr is j)) (zA sub (fun j => ad (zr is j)) H.size) t H1 out) (hz : H.size ≤ H1.size) (hk : ∀ q : Nat, q < H.size → ¬ zA sub (fun j => ad (zr is j)) H.size q → H1[q]? = H[q]?) : zW D cI cL ad A s H1 (zMg (zr is) is out mem) := by
  have hsub := zW.sub hK hWd hE
  obtain ⟨hnd, hel⟩ := hE
  obtain ⟨hlen0, hat⟩ := zEL_at hel
  -- the callee's cells are of one kind before and behind
  have hkind : ∀ (j : Nat) (x y : zE), sub[j]? = some x → out[j]? = some y → zrw x = zrw y := by
    intro j x y hx hy
    have a1 := hsub.1 j x hx
    have a2 := h1.1 j y hy
    cases hx1 : zrw x <;> cases hy1 : zrw y
    · rfl
    · exact absurd (zat_in a2 hy1) (zat_out a1 hx1)
    · exact absurd (zat_in a1 hx1) (zat_out a2 hy1)
    · rfl
  have hmem : ∀ (j k : Nat) (x : zE), is[j]? = some k → sub[j]? = some x → zrw x = true → mem[k]? = some (renE (zr is) x) ∧ A (ad k) := by
    intro j k x hj hx hrw
    obtain ⟨i, g1, g2⟩ := hat j x hx
    rw [hj] at g1
    cases g1
    rcases g2 with g2 | ⟨N, F, g2, -⟩
    · exact ⟨g2, zat_in (hWd.1 k _ g2) (by rw [renE_rw]; exact hrw)⟩
    · rw [aR_of_ren g2] at hrw
      cases hrw
  have hsubat : ∀ (j k : Nat), is[j]? = some k → ∃ x, sub[j]? = some x := by
    intro j k hj
    have := (List.getElem?_eq_some_iff.mp hj).1
    exact ⟨_, List.getElem?_eq_getElem (by omega)⟩
  refine ⟨fun k x hx => ?_, fun i j x y hi hj hxr hyr hxy => ?_⟩
  · rcases zMg_at hnd hx with ⟨j, e, g1, g2, g3, rfl⟩ | ⟨g1, g2⟩
    · obtain ⟨x0, hx0⟩ := hsubat j k g1
      obtain ⟨m1, m2⟩ := hmem j k x0 g1 hx0 (by rw [hkind j x0 e hx0 g2]; exact g3)
      have := h1.1 j e g2
      dsimp only at this
      rw [zr_at g1] at this
      exact zat_rwU (by rw [renE_rw]; exact g3) m2 (zat_ren.mpr this)
    · have hx0 := hWd.1 k x g1
      refine zat_kept hx0 hz (fun q hq hA => hk q hq ?_) (fun hrw => hk _ (zat_lt hx0) ?_)
      · rintro (⟨j, e, k1, k2, k3⟩ | hB)
        · obtain ⟨i, l1⟩ : ∃ i, is[j]? = some i := ⟨_, List.getElem?_eq_getElem (by have := (List.getElem?_eq_some_iff.mp k1).1; omega)⟩
          dsimp only at k3
          rw [zr_at l1] at k3
          exact hA (k3 ▸ (hmem j i e l1 k1 k2).2)
        · omega
      · rintro (⟨j, e, k1, k2, k3⟩ | hB)
        · obtain ⟨i, l1⟩ : ∃ i, is[j]? = some i := ⟨_, List.getElem?_eq_getElem (by have := (List.getElem?_eq_some_iff.mp k1).1; omega)⟩
          dsimp only at k3
          rw [zr_at l1] at k3
          obtain ⟨m1, m2⟩ := hmem j i e l1 k1 k2
          have := hWd.2 i k _ _ m1 g1 (by rw [renE_rw]; exact k2) hrw k3
          subst this
          obtain ⟨y, hy⟩ : ∃ y, out[j]? = some y := ⟨_, List.getElem?_eq_getElem (by have := (List.getElem?_eq_some_iff.mp k1).1; omega)⟩
          have := g2 j y l1 hy
          rw [← hkind j e y k1 hy, k2] at this
          cases this
        · have := zat_lt hx0
          omega
  · have key : ∀ (k : Nat) (x : zE), (zMg (zr is) is out mem)[k]? = some x → zrw x = true → ∃ x0, mem[k]? = some x0 ∧ zrw x0 = true := by
      intro k x hx hr
      rcases zMg_at hnd hx with ⟨j, e, g1, g2, g3, rfl⟩ | ⟨g1, g2⟩
      · obtain ⟨x0, hx0⟩ := hsubat j k g1
        have hr0 : zrw x0 = true := by rw [hkind j x0 e hx0 g2]; exact g3
        exact ⟨_, (hmem j k x0 g1 hx0 hr0).1, by rw [renE_rw]; exact hr0⟩
      · exact ⟨x, g1, hr⟩
    obtain ⟨x0, a1, a2⟩ := key i x hi hxr
    obtain ⟨y0, b1, b2⟩ := key j y hj hyr
    exact hWd.2 i j x0 y0 a1 b1 a2 b2 hxy
/-- a method that may be called: its words -/
def zCb (M : zM) (nargs : Nat) : Prop := Cond.initialized M.1.cls ∈ zTB ∧ Cond.code M.1 M.2.1 M.2.2.1 M.2.2.2.1 ∈ zTB ∧ (M.1.cls ≠ "java/lang/invoke/MethodHandle" ∧ M.1.cls ≠ "java/lang/invoke/VarHandle" ∧ (parseMethodDescriptor M.1.desc).map (fun d => d.parameters.length) = some nargs)
def zCv (M : zM) (nargs : Nat) : Prop := zCb M nargs ∧ Cond.instanceMethod M.1 ∈ zTB ∧ Cond.selects M.1.cls M.1 M.1 ∈ zTB
def zCs (M : zM) (nargs : Nat) : Prop := zCb M nargs ∧ Cond.static M.1 ∈ zTB
def zCi (M : zM) (nargs : Nat) : Prop := zCb M nargs ∧ Cond.instanceMethod M.1 ∈ zTB ∧ M.1.name = "<init>" ∧ M.2.2.2.1 = none
theorem zGood {ws : List Cond} (h : ∀ w ∈ ws, w ∈ zTB) : GoodIn zTB ws := fun w hw => ⟨h w hw, good_of_word (zTB_good (h w hw))⟩
theorem zws_in {M : zM} {n : Nat} (h : zCb M n) : ∀ w ∈ zws M, w ∈ zTB := by
  intro w hw
  rcases List.mem_cons.mp hw with rfl | hw
  · exact h.2.1
  · exact hw
theorem zcat_sum (ad : Nat → Nat) (st : List Value) : ((st.map (zv ad)).map fun v => v.category).sum = (st.map fun v => v.category).sum := by
  rw [List.map_map]
  congr 1
  exact List.map_congr_left (fun v _ => zv_cat ad v)
/-- what a callee's start asks, out of the caller's world -/
theorem zPc_of {l : Launch} {D : va_G} {cI cL : ClassId} {ad : Nat → Nat} {A : Nat → Prop} {s : State} {H : Heap} {mem sub : List zE} {is : List Nat} {av : List Value} (hK : va_K D zCls [(cI, .int), (cL, .long)] s) (hNW : ∀ w ∈ zNW, va_Nw w s) (hWd : zW D cI cL ad A s H mem) (hE : zEmb is mem sub) : ∀ U : State, U.heap = H → s.WarmedH U.vm →
    va_Pc (av.map (zv (fun j => ad (zr is j)))) (fun U => U.heap.size = H.size ∧ zW D cI cL (fun j => ad (zr is j)) (zA sub (fun j => ad (zr is j)) H.size) U U.heap sub ∧ va_K D zCls [(cI, .int), (cL, .long)] U ∧ ∀ w ∈ zNW, va_Nw w U) ((av.map (zv (fun j => ad (zr is j)))).toArray) U := by
  intro U hU hW
  refine ⟨rfl, by rw [hU], ?_, va_K.moved hW.alike hK, fun w hw => ?_⟩
  · rw [hU]
    exact (zW.sub hK hWd hE).moved hW
  · have h1 := zNW_nest hw
    have h2 := hNW w hw
    cases w <;> first | exact va_Nw.warmF hW h2 | exact va_Nw.warmM hW h2 | (exact absurd h1 (by simp [zIsNest]))
theorem zPc_blind {D : va_G} {cI cL : ClassId} {ad0 : Nat → Nat} {A : Nat → Prop} {sz : Nat} {mem : List zE} {av : List Value} : FrameBlind (va_Pc av (fun U => U.heap.size = sz ∧ zW D cI cL ad0 A U U.heap mem ∧ va_K D zCls [(cI, .int), (cL, .long)] U ∧ ∀ w ∈ zNW, va_Nw w U)) := by
  intro a U g mk h
  obtain ⟨h1, h2, h3, h4, h5⟩ := h
  refine ⟨h1, h2, zW.same (u := U) (U := U.calling g mk a) rfl h3, va_K.moved (u := U) (U := U.calling g mk a) (Vm.Alike.refl U.vm) h4, fun w hw => ?_⟩
  have g1 := zNW_nest hw
  have g2 := h5 w hw
  cases w <;> first | exact va_Nw.same (u := U) rfl rfl g2 | (exact absurd g1 (by simp [zIsNest]))
section ZC
variable {p : Program} {l : Launch} {e : Env} {R : Room} {s : State} {m : MethodId} {args : Array Value} {below : List Frame} {meth : Method} {c : Code} {H : Heap} {locs : List Loc} {cells slots : Nat} {Q : State → Prop}
variable {pc : Nat} {ls : Array Slot} {rest st0 : List Value} {a : Array Value} {A B : Nat → Prop} {mc ms n0 : Nat} {al : Bool} {D : va_G} {cI cL : ClassId} {ad0 : Nat → Nat}
theorem zcallW {Q' : Option Value → List zE → Prop} (hr : va_Run p l e R s m args below meth c H locs cells slots mc ms (F0 m pc ls st0) rest (zQ al Q' D cI cL B ad0 n0 a) B) (hS : va_S A s.heap H locs) (hBA : ∀ q, B q → A q)
    (kk : ∀ (r : Option Value) (out : List zE) (ad1 : Nat → Nat) (t : State) (H1 : Heap) (locs1 : List Loc), Q' r out → zAg al n0 ad1 ad0 → n0 ≤ out.length → zW D cI cL ad1 B t H1 out → H.size ≤ H1.size → (∀ q : Nat, q < H.size → ¬ B q → H1[q]? = H[q]?) → va_S A s.heap H1 locs1 → W p l e R s m args below meth c H1 locs1 (cells + mc) (slots + ms) Q (F0 m (pc + 3) ls ((r.map (zv ad1)).toList ++ rest))) : W p l e R s m args below meth c H locs cells slots Q (F0 m pc ls st0) := by
  intro T hT X
  obtain ⟨v, st₀, t, T', L, h0, X', hL, e1, e2, ⟨r, out, ad1, hv, hq, hag, hn, hWd, hz, hk⟩, st⟩ := hr T hT X
  cases hv
  rw [h0] at hz hk
  obtain ⟨t2, a1, b1⟩ := kk r out ad1 t T'.heap (locs ++ L) hq hag hn (by rw [e1]; exact hWd) (by rw [e1]; exact hz) (fun q h1 h2 => by rw [e1]; exact hk q h1 h2)
    ⟨Nat.le_trans hS.1 (by rw [e1]; exact hz), fun q h1 h2 => by rw [e1, hk q (Nat.lt_of_lt_of_le h1 hS.1) (fun z => h2 (hBA q z))]; exact hS.2.1 q h1 h2, fun q hq => by
      rcases List.mem_append.mp hq with h | h
      · exact hS.2.2 q h
      · exact hBA _ (hL q h)⟩ T' rfl X'
  exact ⟨t2, st t2 a1, b1⟩
end ZC
theorem zA_sub {D : va_G} {cI cL : ClassId} {ad : Nat → Nat} {A : Nat → Prop} {s : State} {H : Heap} {mem sub : List zE} {is : List Nat} (hWd : zW D cI cL ad A s H mem) (hE : zEmb is mem sub) (hA : ∀ q, s.heap.size ≤ q → A q) (hz : s.heap.size ≤ H.size) : ∀ q, zA sub (fun j => ad (zr is j)) H.size q → A q := by
  rintro q (⟨j, e, h1, h2, h3⟩ | h)
  · obtain ⟨hlen, hat⟩ := zEL_at hE.2
    obtain ⟨i, g1, g2⟩ := hat j e h1
    dsimp only at h3
    rw [zr_at g1] at h3
    rcases g2 with g2 | ⟨N, F, g2, -⟩
    · exact h3 ▸ zat_in (hWd.1 i _ g2) (by rw [renE_rw]; exact h2)
    · rw [aR_of_ren g2] at h2
      cases h2
  · exact hA q (by omega)
def zRv (mem : List zE) (b : Nat) (C : String) : Prop := (∃ (ci : Nat) (fs : List Value) (T : u_T) (N : Nat), mem[b]? = some (zO ci fs) ∧ zCls[ci]? = some (C, T, N)) ∨ (∃ (i j : Nat), mem[b]? = some (zS i j) ∧ C = "java/lang/String")
theorem zRv_cell {D : va_G} {cI cL : ClassId} {ad : Nat → Nat} {A : Nat → Prop} {s : State} {H : Heap} {mem : List zE} {b : Nat} {C : String} (hK : va_K D zCls [(cI, .int), (cL, .long)] s) (hWd : zW D cI cL ad A s H mem) (h : zRv mem b C) : ∃ cell : Cell, H[ad b]? = some cell ∧ cell.vm.isStatics = false ∧ s.vm.findClass C = some cell.cls := by
  rcases h with ⟨ci, fs, T, N, h1, h2⟩ | ⟨i, j, h1, rfl⟩
  · exact va_recv hK (zP1 (hWd.1 b _ h1)) (ci := ci) (q0 := 0) h2 rfl
  · obtain ⟨cell, g1, g2, g3, g4⟩ := (hWd.1 b _ h1).2.1
    exact ⟨cell, g1, g2, g3⟩
end
section
/-! the rows of Z for calls, for making cells, for the JDK's own -/
section ZK
variable {X : zX} {kc ks : Nat} {mem : List zE} {pc n : Nat} {lv : List (Nat × Value)} {st : List Value}
theorem zlv_size {ls : Array Slot} {nL : Nat} {l : List (Nat × Value)} (h : lv_has ls nL l) : ls.size = nL := h.1
abbrev zRm (rm R : Room) (M : zM) : Prop := rm.cells = 0 ∧ rm.slots = 0 ∧ rm.frames + 1 ≤ R.frames ∧ 8 + (M.2.2.1 + 11) + rm.locals ≤ R.locals
/-- an instance method -/
theorem Z_callV (k : Nat) {idx b nargs : Nat} {M' : zM} {rm : Room} {As : List Value} {sub : List zE} {Q' : Option Value → List zE → Prop} {av : List Value} {st0 : List Value} (is : List Nat) (h : X.I[k]? = some (pc, .invokevirtual idx, 3, n)) (hlk : Cond.methodLink X.M.1.cls idx M'.1 ∈ zTB) (hM : zCv M' nargs) (hc : Con X.1 M' rm 0 0 false av sub Q') (hE : zEmb is mem sub) (hrv : zRv mem b M'.1.cls) (hav : av.map (zv (zr is)) = .ref b :: As) (hna : As.length = nargs) (hst : st0 = As.reverse ++ .ref b :: st) (hcs : (st.map fun v => v.category).sum ≤ 8) (hrm : zRm rm X.R M') (hR : kc ≤ X.R.cells ∧ ks ≤ X.R.slots)
    (kk : ∀ (r : Option Value) (out : List zE), Q' r out → Z X kc ks (zMg (zr is) is out mem) n lv ((r.map (zv (zr is))).toList ++ st)) : Z X kc ks mem pc lv st0 := by
  intro D cI cL ad ad0 n0 A p e s m args below meth c H locs ls hd hB hWd hag hn hA hS hl
  obtain ⟨h1, rfl⟩ := zI_dec hd h
  subst hst
  have hts := hB.2.2.2.2.2.2.2.1
  have hNW := hB.2.2.2.2.2.2.2.2.1
  have hK := hB.2.2.2.2.2.2.2.2.2
  have hav2 : av.map (zv (fun j => ad (zr is j))) = .ref (ad b) :: As.map (zv ad) := by
    have := congrArg (List.map (zv ad)) hav
    rw [List.map_map] at this
    rw [← show (zv ad ∘ zv (zr is)) = zv (fun j => ad (zr is j)) from funext fun v => zv_zv ad (zr is) v]
    exact this
  have hcw : CallW X.R s args X.M.1.cls M'.1.cls idx M'.1 M'.2.1 M'.2.2.1 M'.2.2.2.1 (zws M') rm 0 0 nargs := by
    refine cwV nargs hts (zGood (fun w hw => ?_)) rfl hrm.1 hrm.2.1 ⟨rfl, hM.1.2.2⟩ hrm.2.2
    rcases List.mem_append.mp hw with hw | hw
    · simp only [List.mem_cons, List.not_mem_nil, or_false] at hw
      rcases hw with rfl | rfl | rfl | rfl
      · exact hlk
      · exact hM.2.1
      · exact hM.2.2
      · exact hM.1.1
    · exact zws_in hM.1 w hw
  have hpre := zPc_of (l := X.1) (av := av) hK hNW hWd hE
  rw [hav2] at hpre
  have hcon := hc D cI cL (fun j => ad (zr is j)) H.size
  rw [hav2] at hcon
  have e0 : (As.reverse ++ Value.ref b :: st).map (zv ad) = (As.map (zv ad)).reverse ++ .ref (ad b) :: st.map (zv ad) := by simp [zv]
  rw [e0]
  refine zcallW (va_runV (rest := st.map (zv ad)) ⟨hB.1, hB.2.1, hB.2.2.1, hB.2.2.2.2.2.1, hts⟩ hcon hcw ⟨zPc_blind, zRv_cell hK hWd hrv, hpre⟩ rfl (by simpa using hna) (zlv_size hl) rfl (lv_room (by rw [zcat_sum]; exact hcs)) h1 ⟨hR.1, hR.2⟩) hS (zA_sub hWd hE hA hS.1) (fun r out ad1 t H1 locs1 hq hag1 hn1 hW1 hz1 hk1 hS1 => ?_)
  have had : ad1 = fun j => ad (zr is j) := by
    unfold zAg at hag1
    simpa using hag1
  subst had
  have e1 : (r.map (zv (fun j => ad (zr is j)))).toList ++ st.map (zv ad) = ((r.map (zv (zr is))).toList ++ st).map (zv ad) := by
    cases r with
    | none => rfl
    | some v => simp [zv_zv]
  rw [e1]
  exact kk r out hq D cI cL ad ad0 n0 A p e s m args below meth c H1 locs1 ls hd hB (zW.back hK hWd hE hn1 hW1 hz1 hk1) hag (by rw [zMg_len]; exact hn) hA hS1 hl
/-- a nest mate's private instance method -/
theorem Z_callVN (k : Nat) {idx b nargs : Nat} {host : String} {M' : zM} {rm : Room} {As : List Value} {sub : List zE} {Q' : Option Value → List zE → Prop} {av : List Value} {st0 : List Value} (is : List Nat) (h : X.I[k]? = some (pc, .invokevirtual idx, 3, n)) (hlk : Cond.methodLinkNest X.M.1.cls idx M'.1 host ∈ zNW) (hM : zCv M' nargs) (hc : Con X.1 M' rm 0 0 false av sub Q') (hE : zEmb is mem sub) (hrv : zRv mem b M'.1.cls) (hav : av.map (zv (zr is)) = .ref b :: As) (hna : As.length = nargs) (hst : st0 = As.reverse ++ .ref b :: st) (hcs : (st.map fun v => v.category).sum ≤ 8) (hrm : zRm rm X.R M') (hR : kc ≤ X.R.cells ∧ ks ≤ X.R.slots)
    (kk : ∀ (r : Option Value) (out : List zE), Q' r out → Z X kc ks (zMg (zr is) is out mem) n lv ((r.map (zv (zr is))).toList ++ st)) : Z X kc ks mem pc lv st0 := by
  intro D cI cL ad ad0 n0 A p e s m args below meth c H locs ls hd hB hWd hag hn hA hS hl
  obtain ⟨h1, rfl⟩ := zI_dec hd h
  subst hst
  have hts := hB.2.2.2.2.2.2.2.1
  have hNW := hB.2.2.2.2.2.2.2.2.1
  have hK := hB.2.2.2.2.2.2.2.2.2
  have hav2 : av.map (zv (fun j => ad (zr is j))) = .ref (ad b) :: As.map (zv ad) := by
    have := congrArg (List.map (zv ad)) hav
    rw [List.map_map] at this
    rw [← show (zv ad ∘ zv (zr is)) = zv (fun j => ad (zr is j)) from funext fun v => zv_zv ad (zr is) v]
    exact this
  have hcw := va_cnB (R := X.R) (mc := 0) (ms := 0) (rm := rm) (ws' := zTB) (ws := zws M') nargs hts (zGood (zws_in hM.1)) rfl hrm.1 hrm.2.1 (hNW _ hlk) (hts _ hM.1.1) hM.1.2.2 hrm.2.2
  have hpre := zPc_of (l := X.1) (av := av) hK hNW hWd hE
  rw [hav2] at hpre
  have hcon := hc D cI cL (fun j => ad (zr is j)) H.size
  rw [hav2] at hcon
  have e0 : (As.reverse ++ Value.ref b :: st).map (zv ad) = (As.map (zv ad)).reverse ++ .ref (ad b) :: st.map (zv ad) := by simp [zv]
  rw [e0]
  refine zcallW (va_runVN (rest := st.map (zv ad)) ⟨hB.1, hB.2.1, hB.2.2.1, hB.2.2.2.2.2.1, hts⟩ hcon ⟨hcw, hts _ hM.2.1, hts _ hM.2.2⟩ ⟨zPc_blind, zRv_cell hK hWd hrv, hpre⟩ rfl (by simpa using hna) (zlv_size hl) rfl (lv_room (by rw [zcat_sum]; exact hcs)) h1 ⟨hR.1, hR.2⟩) hS (zA_sub hWd hE hA hS.1) (fun r out ad1 t H1 locs1 hq hag1 hn1 hW1 hz1 hk1 hS1 => ?_)
  have had : ad1 = fun j => ad (zr is j) := by
    unfold zAg at hag1
    simpa using hag1
  subst had
  have e1 : (r.map (zv (fun j => ad (zr is j)))).toList ++ st.map (zv ad) = ((r.map (zv (zr is))).toList ++ st).map (zv ad) := by
    cases r with
    | none => rfl
    | some v => simp [zv_zv]
  rw [e1]
  exact kk r out hq D cI cL ad ad0 n0 A p e s m args below meth c H1 locs1 ls hd hB (zW.back hK hWd hE hn1 hW1 hz1 hk1) hag (by rw [zMg_len]; exact hn) hA hS1 hl
/-- a static method -/
theorem Z_callS (k : Nat) {idx nargs : Nat} {M' : zM} {rm : Room} {As : List Value} {sub : List zE} {Q' : Option Value → List zE → Prop} {av : List Value} {st0 : List Value} (is : List Nat) (h : X.I[k]? = some (pc, .invokestatic idx, 3, n)) (hlk : Cond.methodLink X.M.1.cls idx M'.1 ∈ zTB) (hM : zCs M' nargs) (hc : Con X.1 M' rm 0 0 false av sub Q') (hE : zEmb is mem sub) (hav : av.map (zv (zr is)) = As) (hna : As.length = nargs) (hst : st0 = As.reverse ++ st) (hcs : (st.map fun v => v.category).sum ≤ 8) (hrm : zRm rm X.R M') (hR : kc ≤ X.R.cells ∧ ks ≤ X.R.slots)
    (kk : ∀ (r : Option Value) (out : List zE), Q' r out → Z X kc ks (zMg (zr is) is out mem) n lv ((r.map (zv (zr is))).toList ++ st)) : Z X kc ks mem pc lv st0 := by
  intro D cI cL ad ad0 n0 A p e s m args below meth c H locs ls hd hB hWd hag hn hA hS hl
  obtain ⟨h1, rfl⟩ := zI_dec hd h
  subst hst
  have hts := hB.2.2.2.2.2.2.2.1
  have hNW := hB.2.2.2.2.2.2.2.2.1
  have hK := hB.2.2.2.2.2.2.2.2.2
  have hav2 : av.map (zv (fun j => ad (zr is j))) = As.map (zv ad) := by
    have := congrArg (List.map (zv ad)) hav
    rw [List.map_map] at this
    rw [← show (zv ad ∘ zv (zr is)) = zv (fun j => ad (zr is j)) from funext fun v => zv_zv ad (zr is) v]
    exact this
  have hcw := va_cwS (R := X.R) (own := X.M.1.cls) (index := idx) (y := M'.1) (bytes := M'.2.1) (maxL := M'.2.2.1) (ret := M'.2.2.2.1) (ws := zws M') (ws' := zTB) (rm := rm) (mc := 0) (ms := 0) nargs hts (zGood (fun w hw => by
    rcases List.mem_append.mp hw with hw | hw
    · simp only [List.mem_cons, List.not_mem_nil, or_false] at hw
      rcases hw with rfl | rfl | rfl
      · exact hlk
      · exact hM.2
      · exact hM.1.1
    · exact zws_in hM.1 w hw)) rfl hrm.1 hrm.2.1 hM.1.2.2 hrm.2.2
  have hpre := zPc_of (l := X.1) (av := av) hK hNW hWd hE
  rw [hav2] at hpre
  have hcon := hc D cI cL (fun j => ad (zr is j)) H.size
  rw [hav2] at hcon
  have e0 : (As.reverse ++ st).map (zv ad) = (As.map (zv ad)).reverse ++ st.map (zv ad) := by simp
  rw [e0]
  refine zcallW (va_runS (rest := st.map (zv ad)) ⟨hB.1, hB.2.1, hB.2.2.1, hB.2.2.2.2.2.1, hts⟩ hcon hcw ⟨zPc_blind, hpre⟩ rfl (by simpa using hna) (zlv_size hl) rfl (lv_room (by rw [zcat_sum]; exact hcs)) h1 ⟨hR.1, hR.2⟩) hS (zA_sub hWd hE hA hS.1) (fun r out ad1 t H1 locs1 hq hag1 hn1 hW1 hz1 hk1 hS1 => ?_)
  have had : ad1 = fun j => ad (zr is j) := by
    unfold zAg at hag1
    simpa using hag1
  subst had
  have e1 : (r.map (zv (fun j => ad (zr is j)))).toList ++ st.map (zv ad) = ((r.map (zv (zr is))).toList ++ st).map (zv ad) := by
    cases r with
    | none => rfl
    | some v => simp [zv_zv]
  rw [e1]
  exact kk r out hq D cI cL ad ad0 n0 A p e s m args below meth c H1 locs1 ls hd hB (zW.back hK hWd hE hn1 hW1 hz1 hk1) hag (by rw [zMg_len]; exact hn) hA hS1 hl
/-- a nest mate's private static method -/
theorem Z_callSN (k : Nat) {idx nargs : Nat} {host : String} {M' : zM} {rm : Room} {As : List Value} {sub : List zE} {Q' : Option Value → List zE → Prop} {av : List Value} {st0 : List Value} (is : List Nat) (h : X.I[k]? = some (pc, .invokestatic idx, 3, n)) (hlk : Cond.methodLinkNest X.M.1.cls idx M'.1 host ∈ zNW) (hM : zCs M' nargs) (hc : Con X.1 M' rm 0 0 false av sub Q') (hE : zEmb is mem sub) (hav : av.map (zv (zr is)) = As) (hna : As.length = nargs) (hst : st0 = As.reverse ++ st) (hcs : (st.map fun v => v.category).sum ≤ 8) (hrm : zRm rm X.R M') (hR : kc ≤ X.R.cells ∧ ks ≤ X.R.slots)
    (kk : ∀ (r : Option Value) (out : List zE), Q' r out → Z X kc ks (zMg (zr is) is out mem) n lv ((r.map (zv (zr is))).toList ++ st)) : Z X kc ks mem pc lv st0 := by
  intro D cI cL ad ad0 n0 A p e s m args below meth c H locs ls hd hB hWd hag hn hA hS hl
  obtain ⟨h1, rfl⟩ := zI_dec hd h
  subst hst
  have hts := hB.2.2.2.2.2.2.2.1
  have hNW := hB.2.2.2.2.2.2.2.2.1
  have hK := hB.2.2.2.2.2.2.2.2.2
  have hav2 : av.map (zv (fun j => ad (zr is j))) = As.map (zv ad) := by
    have := congrArg (List.map (zv ad)) hav
    rw [List.map_map] at this
    rw [← show (zv ad ∘ zv (zr is)) = zv (fun j => ad (zr is j)) from funext fun v => zv_zv ad (zr is) v]
    exact this
  have hcw := va_cnB (R := X.R) (mc := 0) (ms := 0) (rm := rm) (ws' := zTB) (ws := zws M') nargs hts (zGood (zws_in hM.1)) rfl hrm.1 hrm.2.1 (hNW _ hlk) (hts _ hM.1.1) hM.1.2.2 hrm.2.2
  have hpre := zPc_of (l := X.1) (av := av) hK hNW hWd hE
  rw [hav2] at hpre
  have hcon := hc D cI cL (fun j => ad (zr is j)) H.size
  rw [hav2] at hcon
  have e0 : (As.reverse ++ st).map (zv ad) = (As.map (zv ad)).reverse ++ st.map (zv ad) := by simp
  rw [e0]
  refine zcallW (va_runSN (rest := st.map (zv ad)) ⟨hB.1, hB.2.1, hB.2.2.1, hB.2.2.2.2.2.1, hts⟩ hcon ⟨hcw, hts _ hM.2, trivial⟩ ⟨zPc_blind, hpre⟩ rfl (by simpa using hna) (zlv_size hl) rfl (lv_room (by rw [zcat_sum]; exact hcs)) h1 ⟨hR.1, hR.2⟩) hS (zA_sub hWd hE hA hS.1) (fun r out ad1 t H1 locs1 hq hag1 hn1 hW1 hz1 hk1 hS1 => ?_)
  have had : ad1 = fun j => ad (zr is j) := by
    unfold zAg at hag1
    simpa using hag1
  subst had
  have e1 : (r.map (zv (fun j => ad (zr is j)))).toList ++ st.map (zv ad) = ((r.map (zv (zr is))).toList ++ st).map (zv ad) := by
    cases r with
    | none => rfl
    | some v => simp [zv_zv]
  rw [e1]
  exact kk r out hq D cI cL ad ad0 n0 A p e s m args below meth c H1 locs1 ls hd hB (zW.back hK hWd hE hn1 hW1 hz1 hk1) hag (by rw [zMg_len]; exact hn) hA hS1 hl
/-- Math's own -/
theorem Z_absI (k : Nat) {idx : Nat} {x : Int} (h : X.I[k]? = some (pc, .invokestatic idx, 3, n)) (hlk : Cond.methodLink X.M.1.cls idx Lib.Math.abs.name ∈ zTB) (hs : Cond.static Lib.Math.abs.name ∈ zTB) (hi : Cond.initialized "java/lang/Math" ∈ zTB) (hcd : Cond.code Lib.Math.abs.name Lib.Math.abs.code 1 (some .int) ∈ zTB) (hx : -2147483648 < x ∧ x ≤ 2147483647) (hcs : (st.map fun v => v.category).sum + 13 ≤ X.R.locals) (hR : 1 ≤ X.R.frames ∧ kc ≤ X.R.cells ∧ ks ≤ X.R.slots) (kk : Z X kc ks mem n lv (.int (iI (if 0 ≤ x then x else -x)) :: st)) : Z X kc ks mem pc lv (.int (iI x) :: st) := by
  intro D cI cL ad ad0 n0 A p e s m args below meth c H locs ls hd hB hWd hag hn hA hS hl
  obtain ⟨h1, rfl⟩ := zI_dec hd h
  have hts := hB.2.2.2.2.2.2.2.1
  refine va_mabs hB.1 hB.2.1 (hB.2.2.1.trans (zlv_size hl).symm) hB.2.2.2.2.2.1 (hts _ hlk) (hts _ hs) (hts _ hi) (hts _ hcd) hR.1 (by rw [zcat_sum]; exact hcs) hR.2.1 hR.2.2 h1 ?_
  have e1 : (if 0 ≤ iI x then iI x else 0 - iI x) = iI (if 0 ≤ x then x else -x) := by
    have h2 : (0 ≤ iI x) ↔ 0 ≤ x := iI_le (a := 0) (by omega) (by omega)
    by_cases h3 : 0 ≤ x
    · rw [if_pos (h2.mpr h3), if_pos h3]
    · rw [if_neg (fun z => h3 (h2.mp z)), if_neg h3, show (0 : Int32) = iI 0 from rfl, iI_sub, Int.zero_sub]
  rw [e1]
  exact kk D cI cL ad ad0 n0 A p e s m args below meth c H locs ls hd hB hWd hag hn hA hS hl
theorem Z_absL (k : Nat) {idx : Nat} {x : Int} (h : X.I[k]? = some (pc, .invokestatic idx, 3, n)) (hlk : Cond.methodLink X.M.1.cls idx Lib.MathLoose.abs_long.x ∈ zTB) (hs : Cond.static Lib.MathLoose.abs_long.x ∈ zTB) (hi : Cond.initialized "java/lang/Math" ∈ zTB) (hcd : Cond.code Lib.MathLoose.abs_long.x Lib.MathLoose.abs_long.code 2 (some .long) ∈ zTB) (hx : -9223372036854775808 < x ∧ x ≤ 9223372036854775807) (hcs : (st.map fun v => v.category).sum + 13 ≤ X.R.locals) (hR : 1 ≤ X.R.frames ∧ kc ≤ X.R.cells ∧ ks ≤ X.R.slots) (kk : Z X kc ks mem n lv (.long (lI (if 0 ≤ x then x else -x)) :: st)) : Z X kc ks mem pc lv (.long (lI x) :: st) := by
  intro D cI cL ad ad0 n0 A p e s m args below meth c H locs ls hd hB hWd hag hn hA hS hl
  obtain ⟨h1, rfl⟩ := zI_dec hd h
  have hts := hB.2.2.2.2.2.2.2.1
  refine va_mabs_long hB.1 hB.2.1 (hB.2.2.1.trans (zlv_size hl).symm) hB.2.2.2.2.2.1 (hts _ hlk) (hts _ hs) (hts _ hi) (hts _ hcd) hR.1 (by rw [zcat_sum]; exact hcs) hR.2.1 hR.2.2 h1 ?_
  have e1 : (if 0 < lI x then lI x else -lI x) = lI (if 0 ≤ x then x else -x) := by
    have h2 : (0 < lI x) ↔ 0 < x := lI_lt (a := 0) (by omega) (by omega)
    by_cases h3 : 0 < x
    · rw [if_pos (h2.mpr h3), if_pos (by omega)]
    · rw [if_neg (fun z => h3 (h2.mp z)), lI_neg]
      split
      · congr 1
        omega
      · rfl
  rw [e1]
  exact kk D cI cL ad ad0 n0 A p e s m args below meth c H locs ls hd hB hWd hag hn hA hS hl
theorem Z_maxI (k : Nat) {idx : Nat} {x y : Int} (h : X.I[k]? = some (pc, .invokestatic idx, 3, n)) (hlk : Cond.methodLink X.M.1.cls idx Lib.Math.max.name ∈ zTB) (hs : Cond.static Lib.Math.max.name ∈ zTB) (hi : Cond.initialized "java/lang/Math" ∈ zTB) (hcd : Cond.code Lib.Math.max.name Lib.Math.max.code 2 (some .int) ∈ zTB) (hx : inI x) (hy : inI y) (hcs : (st.map fun v => v.category).sum + 13 ≤ X.R.locals) (hR : 1 ≤ X.R.frames ∧ kc ≤ X.R.cells ∧ ks ≤ X.R.slots) (kk : Z X kc ks mem n lv (.int (iI (if x < y then y else x)) :: st)) : Z X kc ks mem pc lv (.int (iI y) :: .int (iI x) :: st) := by
  intro D cI cL ad ad0 n0 A p e s m args below meth c H locs ls hd hB hWd hag hn hA hS hl
  obtain ⟨h1, rfl⟩ := zI_dec hd h
  have hts := hB.2.2.2.2.2.2.2.1
  refine va_mmax hB.1 hB.2.1 (hB.2.2.1.trans (zlv_size hl).symm) hB.2.2.2.2.2.1 (hts _ hlk) (hts _ hs) (hts _ hi) (hts _ hcd) hR.1 (by rw [zcat_sum]; exact hcs) hR.2.1 hR.2.2 h1 ?_
  have e1 : (if iI x < iI y then iI y else iI x) = iI (if x < y then y else x) := by
    simp only [iI_lt hx hy]
    split <;> rfl
  rw [e1]
  exact kk D cI cL ad ad0 n0 A p e s m args below meth c H locs ls hd hB hWd hag hn hA hS hl
theorem Z_minI (k : Nat) {idx : Nat} {x y : Int} (h : X.I[k]? = some (pc, .invokestatic idx, 3, n)) (hlk : Cond.methodLink X.M.1.cls idx Lib.Math.min.name ∈ zTB) (hs : Cond.static Lib.Math.min.name ∈ zTB) (hi : Cond.initialized "java/lang/Math" ∈ zTB) (hcd : Cond.code Lib.Math.min.name Lib.Math.min.code 2 (some .int) ∈ zTB) (hx : inI x) (hy : inI y) (hcs : (st.map fun v => v.category).sum + 13 ≤ X.R.locals) (hR : 1 ≤ X.R.frames ∧ kc ≤ X.R.cells ∧ ks ≤ X.R.slots) (kk : Z X kc ks mem n lv (.int (iI (if y < x then y else x)) :: st)) : Z X kc ks mem pc lv (.int (iI y) :: .int (iI x) :: st) := by
  intro D cI cL ad ad0 n0 A p e s m args below meth c H locs ls hd hB hWd hag hn hA hS hl
  obtain ⟨h1, rfl⟩ := zI_dec hd h
  have hts := hB.2.2.2.2.2.2.2.1
  refine va_mmin hB.1 hB.2.1 (hB.2.2.1.trans (zlv_size hl).symm) hB.2.2.2.2.2.1 (hts _ hlk) (hts _ hs) (hts _ hi) (hts _ hcd) hR.1 (by rw [zcat_sum]; exact hcs) hR.2.1 hR.2.2 h1 ?_
  have e1 : (if iI y < iI x then iI y else iI x) = iI (if y < x then y else x) := by
    simp only [iI_lt hy hx]
    split <;> rfl
  rw [e1]
  exact kk D cI cL ad ad0 n0 A p e s m args below meth c H locs ls hd hB hWd hag hn hA hS hl
end ZK
end
section
/-! Math over longs, System.arraycopy, Object's constructor, new cells -/
section ZN
variable {X : zX} {kc ks : Nat} {mem : List zE} {pc n : Nat} {lv : List (Nat × Value)} {st : List Value}
theorem Z_maxL (k : Nat) {idx : Nat} {x y : Int} (h : X.I[k]? = some (pc, .invokestatic idx, 3, n)) (hlk : Cond.methodLink X.M.1.cls idx Lib.MathLoose.max_long.x ∈ zTB) (hs : Cond.static Lib.MathLoose.max_long.x ∈ zTB) (hi : Cond.initialized "java/lang/Math" ∈ zTB) (hcd : Cond.code Lib.MathLoose.max_long.x Lib.MathLoose.max_long.code 4 (some .long) ∈ zTB) (hx : inL x) (hy : inL y) (hcs : (st.map fun v => v.category).sum + 15 ≤ X.R.locals) (hR : 1 ≤ X.R.frames ∧ kc ≤ X.R.cells ∧ ks ≤ X.R.slots) (kk : Z X kc ks mem n lv (.long (lI (if x < y then y else x)) :: st)) : Z X kc ks mem pc lv (.long (lI y) :: .long (lI x) :: st) := by
  intro D cI cL ad ad0 n0 A p e s m args below meth c H locs ls hd hB hWd hag hn hA hS hl
  obtain ⟨h1, rfl⟩ := zI_dec hd h
  have hts := hB.2.2.2.2.2.2.2.1
  refine va_mmax_long hB.1 hB.2.1 (hB.2.2.1.trans (zlv_size hl).symm) hB.2.2.2.2.2.1 (hts _ hlk) (hts _ hs) (hts _ hi) (hts _ hcd) hR.1 (by rw [zcat_sum]; exact hcs) hR.2.1 hR.2.2 h1 ?_
  have e1 : (if lI y < lI x then lI x else lI y) = lI (if x < y then y else x) := by
    simp only [lI_lt hy hx]
    split <;> split <;> first | rfl | (congr 1; omega)
  rw [e1]
  exact kk D cI cL ad ad0 n0 A p e s m args below meth c H locs ls hd hB hWd hag hn hA hS hl
theorem Z_minL (k : Nat) {idx : Nat} {x y : Int} (h : X.I[k]? = some (pc, .invokestatic idx, 3, n)) (hlk : Cond.methodLink X.M.1.cls idx Lib.MathLoose.min_long.x ∈ zTB) (hs : Cond.static Lib.MathLoose.min_long.x ∈ zTB) (hi : Cond.initialized "java/lang/Math" ∈ zTB) (hcd : Cond.code Lib.MathLoose.min_long.x Lib.MathLoose.min_long.code 4 (some .long) ∈ zTB) (hx : inL x) (hy : inL y) (hcs : (st.map fun v => v.category).sum + 15 ≤ X.R.locals) (hR : 1 ≤ X.R.frames ∧ kc ≤ X.R.cells ∧ ks ≤ X.R.slots) (kk : Z X kc ks mem n lv (.long (lI (if y < x then y else x)) :: st)) : Z X kc ks mem pc lv (.long (lI y) :: .long (lI x) :: st) := by
  intro D cI cL ad ad0 n0 A p e s m args below meth c H locs ls hd hB hWd hag hn hA hS hl
  obtain ⟨h1, rfl⟩ := zI_dec hd h
  have hts := hB.2.2.2.2.2.2.2.1
  refine va_mmin_long hB.1 hB.2.1 (hB.2.2.1.trans (zlv_size hl).symm) hB.2.2.2.2.2.1 (hts _ hlk) (hts _ hs) (hts _ hi) (hts _ hcd) hR.1 (by rw [zcat_sum]; exact hcs) hR.2.1 hR.2.2 h1 ?_
  have e1 : (if lI y < lI x then lI y else lI x) = lI (if y < x then y else x) := by
    simp only [lI_lt hy hx]
    split <;> rfl
  rw [e1]
  exact kk D cI cL ad ad0 n0 A p e s m args below meth c H locs ls hd hB hWd hag hn hA hS hl
/-- the first L entries of one row into another -/
def cpI (F G : Int → Int) (L : Int) : Int → Int := fun j => if 0 ≤ j ∧ j < L then F j else G j
theorem Z_copy (k : Nat) {idx q0 q1 N0 N1 : Nat} {F G : Int → Int} {L : Int} {mem' : List zE} (h : X.I[k]? = some (pc, .invokestatic idx, 3, n)) (hlk : Cond.methodLink X.M.1.cls idx arraycopyName ∈ zTB) (hnt : Cond.native arraycopyName ∈ zTB) (hs : Cond.static arraycopyName ∈ zTB) (hi : Cond.initialized "java/lang/System" ∈ zTB) (h0 : mem[q0]? = some (aI N0 F)) (h1 : mem[q1]? = some (aI N1 G)) (hL : 0 ≤ L ∧ L ≤ N0 ∧ L ≤ N1 ∧ L < 2147483648) (hfr : 1 ≤ X.R.frames) (hlo : (st.map fun v => v.category).sum + (nativeFrameWords "java/lang/System" "arraycopy" 5 + 11) ≤ X.R.locals) (hm : mem.set q1 (aI N1 (cpI F G L)) = mem') (kk : Z X kc ks mem' n lv st) : Z X kc ks mem pc lv (.int (iI L) :: .int (iI 0) :: .ref q1 :: .int (iI 0) :: .ref q0 :: st) := by
  intro D cI cL ad ad0 n0 A p e s m args below meth c H locs ls hd hB hWd hag hn hA hS hl
  obtain ⟨hdg, rfl⟩ := zI_dec hd h
  subst hm
  have hts := hB.2.2.2.2.2.2.2.1
  have hK := hB.2.2.2.2.2.2.2.2.2
  intro T hT XX
  obtain ⟨-, hc0⟩ := hWd.1 q0 _ h0
  obtain ⟨hAa, hc1⟩ := hWd.1 q1 _ h1
  have hc0 : H[ad q0]? = some (vp_cell cI (N0, .inl (fun j => iI (F (j : Int))))) := hc0
  have hc1 : H[ad q1]? = some (vp_cell cI (N1, .inl (fun j => iI (G (j : Int))))) := hc1
  obtain ⟨-, k0, hk0, cm0, hkk0⟩ := (hK.2 0 _ rfl).1 N0 (fun j => .int (iI (F (j : Int))))
  obtain ⟨-, k1, hk1, cm1, hkk1⟩ := (hK.2 0 _ rfl).1 N1 (fun j => .int (iI (G (j : Int))))
  have hLn : (iI L).toNatClampNeg = L.toNat := by
    show (iI L).toInt.toNat = _
    rw [iI_t (by omega)]
  have hLt : (iI L).toInt = L := iI_t (by omega)
  have h0n : (iI 0).toNatClampNeg = 0 := rfl
  have h0t : (iI 0).toInt = 0 := rfl
  have hnn : ¬ iI L < 0 := fun z => by have := (iI_lt (b := 0) (by omega) (by omega)).mp z; omega
  have h00 : ¬ iI 0 < 0 := by decide
  obtain ⟨vm', X', step⟩ := XX.arraycopy hB.1 hB.2.2.2.2.2.1 (hts _ hlk) (hts _ hnt) (hts _ hs) (hts _ hi) (src := ad q0) (dst := ad q1) (cs := vp_cell cI (N0, .inl (fun j => iI (F (j : Int))))) (cd := vp_cell cI (N1, .inl (fun j => iI (G (j : Int))))) (srcPos := iI 0) (destPos := iI 0) (n := iI L) (by rw [hT]; exact hc0) (by rw [hT]; exact hc1)
    (fun _ h => by cases h) (fun _ h => by cases h) (fun h => by cases h) (fun h => by cases h) hk0 hk1 hkk0 hkk1 (by simp [refKind]) h00 h00 hnn
    (by rw [hLt, h0t]; show ¬ _ > ((arrV cI N0 (fun j => .int (iI (F (j : Int))))).slots.size : Int); rw [arrV_size]; omega)
    (by rw [hLt, h0t]; show ¬ _ > ((arrV cI N1 (fun j => .int (iI (G (j : Int))))).slots.size : Int); rw [arrV_size]; omega)
    (fun vm₁ _ i hi => by
      have e : (vp_cell cI (N0, .inl (fun j => iI (F (j : Int))))).slots.getD ((iI 0).toNatClampNeg + i) .null = .int (iI (F (i : Int))) := by
        show (arrV cI N0 (fun j => .int (iI (F (j : Int))))).slots.getD _ _ = _
        rw [Array.getD_eq_getD_getElem?, h0n, Nat.zero_add, arrV_read _ _ (by rw [hLn] at hi; omega)]
        rfl
      refine ⟨?_, ?_⟩
      · rw [e]
        rfl
      · rw [e]
        exact trivial)
    (g := F0 m pc ls (.int (iI L) :: .int (iI 0) :: .ref (ad q1) :: .int (iI 0) :: .ref (ad q0) :: st.map (zv ad))) rfl (by rw [hB.2.2.1]; exact zlv_size hl) (rest := st.map (zv ad)) rfl (by rw [hB.2.1]; exact hdg) hfr (by show 2 * 0 + _ + _ ≤ _; rw [zcat_sum]; omega)
  have e1 : copied (vp_cell cI (N0, .inl (fun j => iI (F (j : Int))))) (vp_cell cI (N1, .inl (fun j => iI (G (j : Int))))) (iI 0) (iI 0) (iI L) = vp_cell cI (N1, .inl (fun j => iI (cpI F G L (j : Int)))) := by
    refine (va_copied (fun z => .int z) cI cI (fun j => iI (F (j : Int))) (fun j => iI (G (j : Int))) (n0 := N0) (by rw [h0n, hLn]; omega)).trans ?_
    rw [h0n, hLn, vp_cell_i]
    congr 1
    funext j
    show Value.int (va_cpy _ _ 0 0 L.toNat j) = Value.int (iI (cpI F G L (j : Int)))
    unfold va_cpy cpI
    by_cases hj : j < L.toNat
    · rw [if_pos ⟨Nat.zero_le _, by omega⟩, if_pos ⟨by omega, by omega⟩, Nat.sub_zero, Nat.zero_add]
    · rw [if_neg (fun z => hj (by omega)), if_neg (fun z => hj (by omega))]
  rw [e1] at X' step
  have hlt : ad q1 < H.size := (Array.getElem?_eq_some_iff.mp hc1).1
  have hheap : ((T.setVm vm').setCell (ad q1) (vp_cell cI (N1, .inl (fun j => iI (cpI F G L (j : Int)))))).heap = H.setIfInBounds (ad q1) (vp_cell cI (N1, .inl (fun j => iI (cpI F G L (j : Int))))) := by rw [← hT]; rfl
  have oq : ∀ q : Nat, q ≠ ad q1 → (H.setIfInBounds (ad q1) (vp_cell cI (N1, .inl (fun j => iI (cpI F G L (j : Int))))))[q]? = H[q]? := fun q hq => by simp [Array.getElem?_setIfInBounds, Ne.symm hq]
  obtain ⟨t, a1, b1⟩ := kk D cI cL ad ad0 n0 A p e s m args below meth c _ _ ls hd hB (hWd.set h1 rfl ⟨hAa, (show (H.setIfInBounds (ad q1) _)[ad q1]? = some _ by simp [Array.getElem?_setIfInBounds, hlt])⟩ rfl (by simp) oq) hag (by simpa using hn) hA ⟨by simp; exact hS.1, fun q g1 g2 => by
      rw [oq q (fun e => g2 (by rw [e]; exact hAa))]
      exact hS.2.1 q g1 g2, fun q hq => by
      rcases List.mem_append.mp hq with h | h
      · exact hS.2.2 q h
      · obtain ⟨z, -, hz⟩ := List.mem_map.mp h
        rw [← hz]
        exact hAa⟩ hl _ hheap X'
  exact ⟨t, step t a1, b1⟩
theorem Z_objI (k : Nat) {idx q : Nat} (h : X.I[k]? = some (pc, .invokespecial idx, 3, n)) (hlk : Cond.methodLink X.M.1.cls idx Lib.objectInit ∈ zTB) (hi : Cond.instanceMethod Lib.objectInit ∈ zTB) (hcd : Cond.code Lib.objectInit ⟨#[0xb1]⟩ 1 none ∈ zTB) (hfr : 1 ≤ X.R.frames) (hlo : (st.map fun v => v.category).sum + 12 ≤ X.R.locals) (kk : Z X kc ks mem n lv st) : Z X kc ks mem pc lv (.ref q :: st) := by
  intro D cI cL ad ad0 n0 A p e s m args below meth c H locs ls hd hB hWd hag hn hA hS hl
  obtain ⟨h1, rfl⟩ := zI_dec hd h
  have hts := hB.2.2.2.2.2.2.2.1
  exact W.objInit hB.1 hB.2.1 hB.2.2.2.2.2.1 (hts _ hlk) (hts _ hi) (hts _ hcd) rfl ((zlv_size hl).trans hB.2.2.1.symm) rfl h1 hfr (by show 2 * 0 + _ + 12 ≤ _; rw [zcat_sum]; omega) (kk D cI cL ad ad0 n0 A p e s m args below meth c H locs ls hd hB hWd hag hn hA hS hl)
/-- references that are known -/
def zsv (n : Nat) : Value → Bool
  | .ref i => Nat.blt i n
  | _ => true
def zsE (n : Nat) : zE → Bool
  | .inl o => o.2.all (zsv n)
  | .inr (.inl _) => true
  | .inr (.inr (.inl _)) => true
  | .inr (.inr (.inr (.inl _))) => true
  | .inr (.inr (.inr (.inr (.inl _)))) => true
  | .inr (.inr (.inr (.inr (.inr (.inl x))))) => Nat.blt x.2 n
  | .inr (.inr (.inr (.inr (.inr (.inr (.inl l)))))) => l.all (fun q => zsv n q.2.2.2)
  | .inr (.inr (.inr (.inr (.inr (.inr (.inr _)))))) => true
theorem zv_agree {f g : Nat → Nat} {n : Nat} (hfg : ∀ i, i < n → f i = g i) {v : Value} (h : zsv n v = true) : zv f v = zv g v := by
  cases v with
  | ref i => exact congrArg Value.ref (hfg i (Nat.blt_eq.mp h))
  | _ => rfl
theorem zmap_agree {f g : Nat → Nat} {n : Nat} (hfg : ∀ i, i < n → f i = g i) {l : List Value} (h : l.all (zsv n) = true) : l.map (zv f) = l.map (zv g) :=
  List.map_congr_left (fun v hv => zv_agree hfg (List.all_eq_true.mp h v hv))
theorem zat_agree {D : va_G} {cI cL : ClassId} {f g : Nat → Nat} {n : Nat} (hfg : ∀ i, i < n → f i = g i) {A : Nat → Prop} {U : State} {H : Heap} {a : Nat} {e : zE} (h : zsE n e = true) (hz : zat D cI cL f A U H a e) : zat D cI cL g A U H a e := by
  rcases e with o | x | x | x | x | x | x | x
  · obtain ⟨h0, r, h1, h2⟩ := hz
    exact ⟨h0, r, h1, by rw [← zmap_agree hfg h]; exact h2⟩
  · exact hz
  · exact hz
  · exact hz
  · exact hz
  · exact ⟨hz.1, hz.2.1, hz.2.2.1, by have := hfg x.2 (Nat.blt_eq.mp h); rw [← this]; exact hz.2.2.2⟩
  · exact ⟨fun q hq => by rw [← zv_agree hfg (List.all_eq_true.mp h q hq)]; exact hz.1 q hq, hz.2⟩
  · exact hz
/-- a cell more -/
theorem zW.push {D : va_G} {cI cL : ClassId} {ad : Nat → Nat} {A : Nat → Prop} {U : State} {H H1 : Heap} {mem : List zE} {e1 : zE} (h : zW D cI cL ad A U H mem) (hsc : mem.all (zsE mem.length) = true) (hz : H.size ≤ H1.size) (oq : ∀ q : Nat, q < H.size → H1[q]? = H[q]?) {a : Nat} (ha : a = H.size) (he : zat D cI cL (fun i => if i = mem.length then a else ad i) A U H1 a e1) : zW D cI cL (fun i => if i = mem.length then a else ad i) A U H1 (mem ++ [e1]) := by
  have key : ∀ (k : Nat) (x : zE), (mem ++ [e1])[k]? = some x → (k < mem.length ∧ mem[k]? = some x) ∨ (k = mem.length ∧ x = e1) := by
    intro k x hk
    by_cases hl : k < mem.length
    · rw [List.getElem?_append_left hl] at hk
      exact Or.inl ⟨hl, hk⟩
    · rw [List.getElem?_append_right (by omega)] at hk
      have hz : k - mem.length < 1 := (List.getElem?_eq_some_iff.mp hk).1
      have hk0 : k = mem.length := by omega
      subst hk0
      rw [Nat.sub_self] at hk
      cases hk
      exact Or.inr ⟨rfl, rfl⟩
  have hag : ∀ i, i < mem.length → ad i = (fun i => if i = mem.length then a else ad i) i := fun i hi => by
    show ad i = if i = mem.length then a else ad i
    rw [if_neg (by omega)]
  refine ⟨fun k x hx => ?_, fun i j x y hi hj hxr hyr hxy => ?_⟩
  · rcases key k x hx with ⟨hl, hx0⟩ | ⟨rfl, rfl⟩
    · have h0 := h.1 k x hx0
      rw [← hag k hl]
      exact zat_agree hag (List.all_eq_true.mp hsc x (List.mem_of_getElem? hx0)) (zat_kept h0 hz (fun q hq _ => oq q hq) (fun _ => oq _ (zat_lt h0)))
    · show zat _ _ _ _ _ _ _ (if mem.length = mem.length then a else _) _
      rw [if_pos rfl]
      exact he
  · rcases key i x hi with ⟨hl, hx0⟩ | ⟨rfl, rfl⟩ <;> rcases key j y hj with ⟨hl2, hy0⟩ | ⟨rfl, rfl⟩
    · rw [← hag i hl, ← hag j hl2] at hxy
      exact h.2 i j x y hx0 hy0 hxr hyr hxy
    · exfalso
      rw [← hag i hl] at hxy
      have hxy : ad i = if mem.length = mem.length then a else ad mem.length := hxy
      rw [if_pos rfl, ha] at hxy
      have := zat_lt (h.1 i x hx0)
      omega
    · exfalso
      rw [← hag j hl2] at hxy
      have hxy : (if mem.length = mem.length then a else ad mem.length) = ad j := hxy
      rw [if_pos rfl, ha] at hxy
      have := zat_lt (h.1 j y hy0)
      omega
    · rfl
theorem zAg.push {n0 : Nat} {ad ad0 : Nat → Nat} {L a : Nat} (h : zAg true n0 ad ad0) (hn : n0 ≤ L) : zAg true n0 (fun i => if i = L then a else ad i) ad0 := by
  show ∀ i, i < n0 → (if i = L then a else ad i) = ad0 i
  intro i hi
  rw [if_neg (by omega)]
  exact h.at i hi
/-- a new object -/
theorem Z_new (k : Nat) {idx ci : Nat} {C : String} {T : u_T} {N : Nat} {ty : Nat → FieldType} {fs : List Value} (h : X.I[k]? = some (pc, .new idx, 3, n)) (hal : X.al = true) (hck : zCK ci C T N ty) (hcl : Cond.classLink X.M.1.cls idx C ∈ zTB) (hin : Cond.instantiable C N ∈ zTB) (hii : Cond.initialized C ∈ zTB) (hfs : ∀ j, j < N → defaultValue (ty j) = vp_V fs j) (hfs2 : ∀ ad, fs.map (zv ad) = fs) (hsm : mem.all (zsE mem.length) = true) (hsl : lv.all (fun q => zsv mem.length q.2) = true) (hss : st.all (zsv mem.length) = true) (hR : kc + 1 ≤ X.R.cells ∧ ks + N ≤ X.R.slots) (kk : Z X (kc + 1) (ks + N) (mem ++ [zO ci fs]) n lv (.ref mem.length :: st)) : Z X kc ks mem pc lv st := by
  intro D cI cL ad ad0 n0 A p e s m args below meth c H locs ls hd hB hWd hag hn hA hS hl
  obtain ⟨h1, rfl⟩ := zI_dec hd h
  have hts := hB.2.2.2.2.2.2.2.1
  have hK := hB.2.2.2.2.2.2.2.2.2
  obtain ⟨c1, c2, c3, c4⟩ := hck
  have hKn := hK.1 ci _ c1
  refine W.newcK hB.1 hB.2.1 hB.2.2.2.2.2.1 (hts _ hcl) (hts _ hin) (hts _ hii) rfl h1 hR.1 hR.2 hKn.2.1 rfl fun H1 kC hkC e1 z1 o1 => ?_
  have hgo : ∀ i, i < mem.length → ad i = (fun i => if i = mem.length then H.size else ad i) i := fun i hi => by
    show ad i = if i = mem.length then H.size else ad i
    rw [if_neg (by omega)]
  have hl2 : lv.map (zq ad) = lv.map (zq (fun i => if i = mem.length then H.size else ad i)) := List.map_congr_left (fun q hq => by
    show (q.1, _) = (q.1, _)
    rw [zv_agree hgo (List.all_eq_true.mp hsl q hq)])
  have hag2 : zAg X.al n0 (fun i => if i = mem.length then H.size else ad i) ad0 := by rw [hal] at hag ⊢; exact zAg.push hag hn
  have hgoal := kk D cI cL (fun i => if i = mem.length then H.size else ad i) ad0 n0 A p e s m args below meth c H1 locs ls hd hB (zW.push hWd hsm (by omega) o1 rfl ⟨hA _ hS.1, _, c1, by rw [hfs2]; exact (u_born ty hts c2 hKn hkC e1 c3).to hfs⟩) hag2 (by simp; omega) hA ⟨Nat.le_trans hS.1 (by omega), fun x g1 g2 => (o1 x (Nat.lt_of_lt_of_le g1 hS.1)).trans (hS.2.1 x g1 g2), hS.2.2⟩ (by rw [← hl2]; exact hl)
  rw [List.map_cons, ← zmap_agree hgo hss] at hgoal
  have e9 : zv (fun i => if i = mem.length then H.size else ad i) (.ref mem.length) = .ref H.size := congrArg Value.ref (if_pos rfl)
  rw [e9] at hgoal
  exact hgoal
/-- a new row of ints, of longs -/
theorem Z_newI (k : Nat) {N : Nat} (h : X.I[k]? = some (pc, .newarray .int, 2, n)) (hal : X.al = true) (hcl : Cond.arrayClass .int ∈ zTB) (hN : N ≤ 1000) (hsm : mem.all (zsE mem.length) = true) (hsl : lv.all (fun q => zsv mem.length q.2) = true) (hss : st.all (zsv mem.length) = true) (hR : kc + 1 ≤ X.R.cells ∧ ks + N ≤ X.R.slots) (kk : Z X (kc + 1) (ks + N) (mem ++ [aI N (fun _ => 0)]) n lv (.ref mem.length :: st)) : Z X kc ks mem pc lv (.int (iI (N : Int)) :: st) := by
  intro D cI cL ad ad0 n0 A p e s m args below meth c H locs ls hd hB hWd hag hn hA hS hl
  obtain ⟨h1, rfl⟩ := zI_dec hd h
  have hts := hB.2.2.2.2.2.2.2.1
  have hK := hB.2.2.2.2.2.2.2.2.2
  refine va_newaK (atype := .int) hB.1 hB.2.1 (hts _ hcl) rfl h1 rfl (N := N) (fun z => by have := (iI_lt (a := (N : Int)) (b := 0) (by omega) (by omega)).mp z; omega) (by show (iI (N : Int)).toInt.toNat = N; rw [iI_t (by omega)]; omega) (by show N * 4 ≤ _; omega) hR.1 hR.2 rfl fun H1 cA e1 z1 o1 hAr hNm => ?_
  have hcA : cA = cI := Option.some.inj (hNm.symm.trans (hK.2 0 _ rfl).2)
  subst hcA
  have hgo : ∀ i, i < mem.length → ad i = (fun i => if i = mem.length then H.size else ad i) i := fun i hi => by
    show ad i = if i = mem.length then H.size else ad i
    rw [if_neg (by omega)]
  have hl2 : lv.map (zq ad) = lv.map (zq (fun i => if i = mem.length then H.size else ad i)) := List.map_congr_left (fun q hq => by
    show (q.1, _) = (q.1, _)
    rw [zv_agree hgo (List.all_eq_true.mp hsl q hq)])
  have hag2 : zAg X.al n0 (fun i => if i = mem.length then H.size else ad i) ad0 := by rw [hal] at hag ⊢; exact zAg.push hag hn
  have hgoal := kk D cA cL (fun i => if i = mem.length then H.size else ad i) ad0 n0 A p e s m args below meth c H1 locs ls hd hB (zW.push hWd hsm (by omega) o1 rfl ⟨hA _ hS.1, e1⟩) hag2 (by simp; omega) hA ⟨Nat.le_trans hS.1 (by omega), fun x g1 g2 => (o1 x (Nat.lt_of_lt_of_le g1 hS.1)).trans (hS.2.1 x g1 g2), hS.2.2⟩ (by rw [← hl2]; exact hl)
  rw [List.map_cons, ← zmap_agree hgo hss] at hgoal
  have e9 : zv (fun i => if i = mem.length then H.size else ad i) (.ref mem.length) = .ref H.size := congrArg Value.ref (if_pos rfl)
  rw [e9] at hgoal
  exact hgoal
theorem Z_newL (k : Nat) {N : Nat} (h : X.I[k]? = some (pc, .newarray .long, 2, n)) (hal : X.al = true) (hcl : Cond.arrayClass .long ∈ zTB) (hN : N ≤ 1000) (hsm : mem.all (zsE mem.length) = true) (hsl : lv.all (fun q => zsv mem.length q.2) = true) (hss : st.all (zsv mem.length) = true) (hR : kc + 1 ≤ X.R.cells ∧ ks + N ≤ X.R.slots) (kk : Z X (kc + 1) (ks + N) (mem ++ [aL N (fun _ => 0)]) n lv (.ref mem.length :: st)) : Z X kc ks mem pc lv (.int (iI (N : Int)) :: st) := by
  intro D cI cL ad ad0 n0 A p e s m args below meth c H locs ls hd hB hWd hag hn hA hS hl
  obtain ⟨h1, rfl⟩ := zI_dec hd h
  have hts := hB.2.2.2.2.2.2.2.1
  have hK := hB.2.2.2.2.2.2.2.2.2
  refine va_newaK (atype := .long) hB.1 hB.2.1 (hts _ hcl) rfl h1 rfl (N := N) (fun z => by have := (iI_lt (a := (N : Int)) (b := 0) (by omega) (by omega)).mp z; omega) (by show (iI (N : Int)).toInt.toNat = N; rw [iI_t (by omega)]; omega) (by show N * 8 ≤ _; omega) hR.1 hR.2 rfl fun H1 cA e1 z1 o1 hAr hNm => ?_
  have hcA : cA = cL := Option.some.inj (hNm.symm.trans (hK.2 1 _ rfl).2)
  subst hcA
  have hgo : ∀ i, i < mem.length → ad i = (fun i => if i = mem.length then H.size else ad i) i := fun i hi => by
    show ad i = if i = mem.length then H.size else ad i
    rw [if_neg (by omega)]
  have hl2 : lv.map (zq ad) = lv.map (zq (fun i => if i = mem.length then H.size else ad i)) := List.map_congr_left (fun q hq => by
    show (q.1, _) = (q.1, _)
    rw [zv_agree hgo (List.all_eq_true.mp hsl q hq)])
  have hag2 : zAg X.al n0 (fun i => if i = mem.length then H.size else ad i) ad0 := by rw [hal] at hag ⊢; exact zAg.push hag hn
  have hgoal := kk D cI cA (fun i => if i = mem.length then H.size else ad i) ad0 n0 A p e s m args below meth c H1 locs ls hd hB (zW.push hWd hsm (by omega) o1 rfl ⟨hA _ hS.1, e1⟩) hag2 (by simp; omega) hA ⟨Nat.le_trans hS.1 (by omega), fun x g1 g2 => (o1 x (Nat.lt_of_lt_of_le g1 hS.1)).trans (hS.2.1 x g1 g2), hS.2.2⟩ (by rw [← hl2]; exact hl)
  rw [List.map_cons, ← zmap_agree hgo hss] at hgoal
  have e9 : zv (fun i => if i = mem.length then H.size else ad i) (.ref mem.length) = .ref H.size := congrArg Value.ref (if_pos rfl)
  rw [e9] at hgoal
  exact hgoal
end ZN
end
section
/-! calls of constructors: the callee makes cells, they come behind the caller's -/
def zfr (is : List Nat) (n L : Nat) : Nat → Nat := fun j => if j < n then zr is j else L + (j - n)
theorem zW.backA {D : va_G} {cI cL : ClassId} {ad ad1 : Nat → Nat} {A : Nat → Prop} {s t : State} {H H1 : Heap} {mem sub out : List zE} {is : List Nat} (hK : va_K D zCls [(cI, .int), (cL, .long)] s) (hWd : zW D cI cL ad A s H mem) (hE : zEmb is mem sub) (hlen : sub.length ≤ out.length) (hag : ∀ j, j < sub.length → ad1 j = ad (zr is j)) (hsc : mem.all (zsE mem.length) = true) (hrw : (out.drop sub.length).all zrw = true) (hBA : ∀ q, zA sub (fun j => ad (zr is j)) H.size q → A q)
    (h1 : zW D cI cL ad1 (zA sub (fun j => ad (zr is j)) H.size) t H1 out) (hz : H.size ≤ H1.size) (hk : ∀ q : Nat, q < H.size → ¬ zA sub (fun j => ad (zr is j)) H.size q → H1[q]? = H[q]?) :
    zW D cI cL (fun k => if k < mem.length then ad k else ad1 (sub.length + (k - mem.length))) A s H1 (zMg (zfr is sub.length mem.length) is out mem ++ (out.drop sub.length).map (renE (zfr is sub.length mem.length))) := by
  have hsub := zW.sub hK hWd hE
  obtain ⟨hnd, hel⟩ := hE
  obtain ⟨hlen0, hat⟩ := zEL_at hel
  have hkind : ∀ (j : Nat) (x y : zE), sub[j]? = some x → out[j]? = some y → zrw x = zrw y := by
    intro j x y hx hy
    have a1 := hsub.1 j x hx
    have a2 := h1.1 j y hy
    rw [hag j (List.getElem?_eq_some_iff.mp hx).1] at a2
    cases hx1 : zrw x <;> cases hy1 : zrw y
    · rfl
    · exact absurd (zat_in a2 hy1) (zat_out a1 hx1)
    · exact absurd (zat_in a1 hx1) (zat_out a2 hy1)
    · rfl
  have hmem : ∀ (j k : Nat) (x : zE), is[j]? = some k → sub[j]? = some x → zrw x = true → mem[k]? = some (renE (zr is) x) ∧ A (ad k) := by
    intro j k x hj hx hrw
    obtain ⟨i, g1, g2⟩ := hat j x hx
    rw [hj] at g1
    cases g1
    rcases g2 with g2 | ⟨N, F, g2, -⟩
    · exact ⟨g2, zat_in (hWd.1 k _ g2) (by rw [renE_rw]; exact hrw)⟩
    · rw [aR_of_ren g2] at hrw
      cases hrw
  have hisl : ∀ (j k : Nat), is[j]? = some k → k < mem.length := by
    intro j k hj
    have hj1 := (List.getElem?_eq_some_iff.mp hj).1
    obtain ⟨i, g1, g2⟩ := hat j _ (List.getElem?_eq_getElem (by omega))
    rw [hj] at g1
    cases g1
    rcases g2 with g2 | ⟨N, F, -, g2, -⟩
    · exact (List.getElem?_eq_some_iff.mp g2).1
    · exact (List.getElem?_eq_some_iff.mp g2).1
  have hsubat : ∀ (j k : Nat), is[j]? = some k → ∃ x, sub[j]? = some x := by
    intro j k hj
    have := (List.getElem?_eq_some_iff.mp hj).1
    exact ⟨_, List.getElem?_eq_getElem (by omega)⟩
  generalize hf : zfr is sub.length mem.length = f
  generalize had : (fun k => if k < mem.length then ad k else ad1 (sub.length + (k - mem.length))) = ad2
  have had_lo : ∀ k, k < mem.length → ad k = ad2 k := fun k hk => by
    rw [← had]
    show ad k = if k < mem.length then ad k else _
    rw [if_pos hk]
  have had_hi : ∀ k, ¬ k < mem.length → ad2 k = ad1 (sub.length + (k - mem.length)) := fun k hk => by
    rw [← had]
    show (if k < mem.length then ad k else _) = _
    rw [if_neg hk]
  have hcomp : (fun j => ad2 (f j)) = ad1 := by
    funext j
    rw [← hf]
    show ad2 (if j < sub.length then zr is j else mem.length + (j - sub.length)) = ad1 j
    by_cases hj : j < sub.length
    · rw [if_pos hj, hag j hj]
      obtain ⟨i, g1⟩ : ∃ i, is[j]? = some i := ⟨_, List.getElem?_eq_getElem (by omega)⟩
      rw [zr_at g1]
      exact (had_lo i (hisl j i g1)).symm
    · rw [if_neg hj, had_hi _ (by omega)]
      congr 1
      omega
  have hnew : ∀ (j : Nat) (y : zE), sub.length ≤ j → out[j]? = some y → zrw y = true → H.size ≤ ad1 j := by
    intro j y hj hy hr
    rcases zat_in (h1.1 j y hy) hr with ⟨i0, e0, k1, k2, k3⟩ | hB
    · exfalso
      have hi0 := (List.getElem?_eq_some_iff.mp k1).1
      obtain ⟨y0, hy0⟩ : ∃ y0, out[i0]? = some y0 := ⟨_, List.getElem?_eq_getElem (by omega)⟩
      have := h1.2 i0 j y0 y hy0 hy (by rw [← hkind i0 e0 y0 k1 hy0]; exact k2) hr ((hag i0 hi0).trans k3)
      omega
    · exact hB
  have hlm : (zMg f is out mem).length = mem.length := zMg_len f is out mem
  have hcell : ∀ (k : Nat) (x : zE), (zMg f is out mem ++ (out.drop sub.length).map (renE f))[k]? = some x → (k < mem.length ∧ (zMg f is out mem)[k]? = some x) ∨ (mem.length ≤ k ∧ ∃ y, out[sub.length + (k - mem.length)]? = some y ∧ x = renE f y ∧ zrw y = true) := by
    intro k x hx
    by_cases hkl : k < mem.length
    · rw [List.getElem?_append_left (by omega)] at hx
      exact Or.inl ⟨hkl, hx⟩
    · rw [List.getElem?_append_right (by omega), hlm, List.getElem?_map] at hx
      cases hy : (out.drop sub.length)[k - mem.length]? with
      | none => rw [hy] at hx; cases hx
      | some y =>
        rw [hy] at hx
        refine Or.inr ⟨by omega, y, ?_, (Option.some.inj hx).symm, List.all_eq_true.mp hrw y (List.mem_of_getElem? hy)⟩
        rw [List.getElem?_drop] at hy
        exact hy
  refine ⟨fun k x hx => ?_, fun i j x y hi hj hxr hyr hxy => ?_⟩
  · rcases hcell k x hx with ⟨hkl, hx1⟩ | ⟨hkl, y, hy, rfl, hr⟩
    · rcases zMg_at hnd hx1 with ⟨j, e, g1, g2, g3, rfl⟩ | ⟨g1, g2⟩
      · obtain ⟨x0, hx0⟩ := hsubat j k g1
        have hjl := (List.getElem?_eq_some_iff.mp hx0).1
        obtain ⟨m1, m2⟩ := hmem j k x0 g1 hx0 (by rw [hkind j x0 e hx0 g2]; exact g3)
        have := h1.1 j e g2
        rw [hag j hjl, zr_at g1, ← hcomp] at this
        rw [← had_lo k hkl]
        exact zat_rwU (by rw [renE_rw]; exact g3) m2 (zat_ren.mpr this)
      · have hx0 := hWd.1 k x g1
        rw [← had_lo k hkl]
        refine zat_agree had_lo (List.all_eq_true.mp hsc x (List.mem_of_getElem? g1)) ?_
        refine zat_kept hx0 hz (fun q hq hA => hk q hq (fun z => hA (hBA q z))) (fun hrw => hk _ (zat_lt hx0) ?_)
        rintro (⟨j, e, k1, k2, k3⟩ | hB)
        · obtain ⟨i, l1⟩ : ∃ i, is[j]? = some i := ⟨_, List.getElem?_eq_getElem (by have := (List.getElem?_eq_some_iff.mp k1).1; omega)⟩
          dsimp only at k3
          rw [zr_at l1] at k3
          obtain ⟨m1, m2⟩ := hmem j i e l1 k1 k2
          have := hWd.2 i k _ _ m1 g1 (by rw [renE_rw]; exact k2) hrw k3
          subst this
          obtain ⟨y, hy⟩ : ∃ y, out[j]? = some y := ⟨_, List.getElem?_eq_getElem (by have := (List.getElem?_eq_some_iff.mp k1).1; omega)⟩
          have := g2 j y l1 hy
          rw [← hkind j e y k1 hy, k2] at this
          cases this
        · have := zat_lt hx0
          omega
    · have := h1.1 _ y hy
      rw [had_hi k (by omega)]
      rw [← hcomp] at this
      rw [← hcomp]
      exact zat_rwU (by rw [renE_rw]; exact hr) (hBA _ (zat_in this hr)) (zat_ren.mpr this)
  · have key : ∀ (k : Nat) (x : zE), k < mem.length → (zMg f is out mem)[k]? = some x → zrw x = true → ∃ x0, mem[k]? = some x0 ∧ zrw x0 = true := by
      intro k x _ hx hr
      rcases zMg_at hnd hx with ⟨j, e, g1, g2, g3, rfl⟩ | ⟨g1, g2⟩
      · obtain ⟨x0, hx0⟩ := hsubat j k g1
        have hr0 : zrw x0 = true := by rw [hkind j x0 e hx0 g2]; exact g3
        exact ⟨_, (hmem j k x0 g1 hx0 hr0).1, by rw [renE_rw]; exact hr0⟩
      · exact ⟨x, g1, hr⟩
    rcases hcell i x hi with ⟨hil, hx1⟩ | ⟨hil, x', hx', rfl, hrx⟩ <;> rcases hcell j y hj with ⟨hjl, hy1⟩ | ⟨hjl, y', hy', rfl, hry⟩
    · obtain ⟨x0, a1, a2⟩ := key i x hil hx1 hxr
      obtain ⟨y0, b1, b2⟩ := key j y hjl hy1 hyr
      rw [← had_lo i hil, ← had_lo j hjl] at hxy
      exact hWd.2 i j x0 y0 a1 b1 a2 b2 hxy
    · exfalso
      obtain ⟨x0, a1, a2⟩ := key i x hil hx1 hxr
      have h5 := zat_lt (hWd.1 i x0 a1)
      have h6 := hnew _ y' (by omega) hy' hry
      rw [← had_lo i hil, had_hi j (by omega)] at hxy
      omega
    · exfalso
      obtain ⟨y0, b1, b2⟩ := key j y hjl hy1 hyr
      have h5 := zat_lt (hWd.1 j y0 b1)
      have h6 := hnew _ x' (by omega) hx' hrx
      rw [← had_lo j hjl, had_hi i (by omega)] at hxy
      omega
    · rw [had_hi i (by omega), had_hi j (by omega)] at hxy
      have := h1.2 _ _ x' y' hx' hy' hrx hry hxy
      omega
section ZNI
variable {X : zX} {kc ks : Nat} {mem : List zE} {pc n : Nat} {lv : List (Nat × Value)} {st : List Value}
abbrev zRmA (rm R : Room) (M : zM) (mc ms : Nat) : Prop := rm.cells = mc ∧ rm.slots = ms ∧ rm.frames + 1 ≤ R.frames ∧ 8 + (M.2.2.1 + 11) + rm.locals ≤ R.locals
/-- a constructor: by the link (normal or a nest mate's), of no arguments -/
theorem Z_callI (k : Nat) {idx b mc ms : Nat} {M' : zM} {rm : Room} {sub : List zE} {Q' : Option Value → List zE → Prop} (is : List Nat) (h : X.I[k]? = some (pc, .invokespecial idx, 3, n)) (hal : X.al = true) (hlk : Cond.methodLink X.M.1.cls idx M'.1 ∈ zTB ∨ ∃ host, Cond.methodLinkNest X.M.1.cls idx M'.1 host ∈ zNW) (hM : zCi M' 0) (hc : Con X.1 M' rm mc ms true [.ref 0] sub Q') (hE : zEmb is mem sub) (hb : zr is 0 = b) (hcs : (st.map fun v => v.category).sum ≤ 8) (hrm : zRmA rm X.R M' mc ms) (hR : kc + mc ≤ X.R.cells ∧ ks + ms ≤ X.R.slots)
    (hsm : mem.all (zsE mem.length) = true) (hsl : lv.all (fun q => zsv mem.length q.2) = true) (hss : st.all (zsv mem.length) = true)
    (kk : ∀ (r : Option Value) (out : List zE), Q' r out → r = none ∧ (out.drop sub.length).all zrw = true ∧ Z X (kc + mc) (ks + ms) (zMg (zfr is sub.length mem.length) is out mem ++ (out.drop sub.length).map (renE (zfr is sub.length mem.length))) n lv st) : Z X kc ks mem pc lv (.ref b :: st) := by
  intro D cI cL ad ad0 n0 A p e s m args below meth c H locs ls hd hB hWd hag hn hA hS hl
  obtain ⟨h1, rfl⟩ := zI_dec hd h
  have hts := hB.2.2.2.2.2.2.2.1
  have hNW := hB.2.2.2.2.2.2.2.2.1
  have hK := hB.2.2.2.2.2.2.2.2.2
  have hcon := hc D cI cL (fun j => ad (zr is j)) H.size
  have hpre := zPc_of (l := X.1) (av := [.ref 0]) hK hNW hWd hE
  have e3 : ([Value.ref 0].map (zv (fun j => ad (zr is j)))) = [Value.ref (ad b)] := by
    show [Value.ref (ad (zr is 0))] = _
    rw [hb]
  rw [e3] at hcon hpre
  have hrun : va_Run p X.1 e X.R s m args below meth c H locs kc ks mc ms (F0 m pc ls (.ref (ad b) :: st.map (zv ad))) (st.map (zv ad)) (zQ true Q' D cI cL (zA sub (fun j => ad (zr is j)) H.size) (fun j => ad (zr is j)) sub.length #[.ref (ad b)]) (zA sub (fun j => ad (zr is j)) H.size) := by
    have hret := hM.2.2.2
    rcases hlk with hlk | ⟨host, hlk⟩
    · have hcw := callB_of (R := X.R) (own := X.M.1.cls) (index := idx) (y := M'.1) (bytes := M'.2.1) (maxL := M'.2.2.1) (ret := M'.2.2.2.1) (ws := zws M') (ws' := zTB) (rm := rm) (mc := mc) (ms := ms) 0 hts (zGood (zws_in hM.1)) rfl hrm.1 hrm.2.1 (hts _ hM.1.1) (hts _ hlk) hM.1.2.2 hrm.2.2
      rw [hret] at hcw
      exact va_runI (As := []) (b := ad b) (rest := st.map (zv ad)) ⟨hB.1, hB.2.1, hB.2.2.1, hB.2.2.2.2.2.1, hts⟩ hcon ⟨hcw, hM.2.2.1, hts _ hM.2.1⟩ ⟨zPc_blind, hpre⟩ rfl rfl (zlv_size hl) rfl (lv_room (by rw [zcat_sum]; exact hcs)) h1 ⟨hR.1, hR.2⟩
    · have hcw := va_cnB (R := X.R) (ret := M'.2.2.2.1) (mc := mc) (ms := ms) (rm := rm) (ws' := zTB) (ws := zws M') 0 hts (zGood (zws_in hM.1)) rfl hrm.1 hrm.2.1 (hNW _ hlk) (hts _ hM.1.1) hM.1.2.2 hrm.2.2
      rw [hret] at hcw
      exact va_runIN (As := []) (b := ad b) (rest := st.map (zv ad)) ⟨hB.1, hB.2.1, hB.2.2.1, hB.2.2.2.2.2.1, hts⟩ hcon ⟨hcw, hM.2.2.1, hts _ hM.2.1⟩ ⟨zPc_blind, hpre⟩ rfl rfl (zlv_size hl) rfl (lv_room (by rw [zcat_sum]; exact hcs)) h1 ⟨hR.1, hR.2⟩
  refine zcallW hrun hS (zA_sub hWd hE hA hS.1) (fun r out ad1 t H1 locs1 hq hag1 hn1 hW1 hz1 hk1 hS1 => ?_)
  obtain ⟨rfl, hrw, hZ⟩ := kk r out hq
  have hgo : ∀ i, i < mem.length → ad i = (fun k => if k < mem.length then ad k else ad1 (sub.length + (k - mem.length))) i := fun i hi => by
    show ad i = if i < mem.length then ad i else _
    rw [if_pos hi]
  have hl2 : lv.map (zq ad) = lv.map (zq (fun k => if k < mem.length then ad k else ad1 (sub.length + (k - mem.length)))) := List.map_congr_left (fun q hq => by
    show (q.1, _) = (q.1, _)
    rw [zv_agree hgo (List.all_eq_true.mp hsl q hq)])
  have hag2 : zAg X.al n0 (fun k => if k < mem.length then ad k else ad1 (sub.length + (k - mem.length))) ad0 := by
    rw [hal] at hag ⊢
    show ∀ i, i < n0 → (if i < mem.length then ad i else _) = ad0 i
    intro i hi
    rw [if_pos (by omega)]
    exact hag.at i hi
  have := hZ D cI cL _ ad0 n0 A p e s m args below meth c H1 locs1 ls hd hB (zW.backA hK hWd hE hn1 (fun j hj => hag1.at j hj) hsm hrw (zA_sub hWd hE hA hS.1) hW1 hz1 hk1) hag2 (by rw [List.length_append, zMg_len]; omega) hA hS1 (by rw [← hl2]; exact hl)
  rw [← zmap_agree hgo hss] at this
  exact this
end ZNI
end
section
/-! the code of the methods, the entries of the classes' files (by program) -/
theorem b_ini_Math : Cond.initialized "java/lang/Math" ∈ zTB := zTB_of 10 (by decide +kernel) rfl
theorem b_st_absI : Cond.static Lib.Math.abs.name ∈ zTB := zTB_of 372 (by decide +kernel) rfl
theorem b_cd_absI : Cond.code Lib.Math.abs.name Lib.Math.abs.code 1 (some .int) ∈ zTB := zTB_of 373 (by decide +kernel) rfl
theorem b_st_absL : Cond.static Lib.MathLoose.abs_long.x ∈ zTB := zTB_of 425 (by decide +kernel) rfl
theorem b_cd_absL : Cond.code Lib.MathLoose.abs_long.x Lib.MathLoose.abs_long.code 2 (some .long) ∈ zTB := zTB_of 426 (by decide +kernel) rfl
theorem b_st_maxI : Cond.static Lib.Math.max.name ∈ zTB := zTB_of 647 (by decide +kernel) rfl
theorem b_cd_maxI : Cond.code Lib.Math.max.name Lib.Math.max.code 2 (some .int) ∈ zTB := zTB_of 648 (by decide +kernel) rfl
theorem b_st_minI : Cond.static Lib.Math.min.name ∈ zTB := zTB_of 644 (by decide +kernel) rfl
theorem b_cd_minI : Cond.code Lib.Math.min.name Lib.Math.min.code 2 (some .int) ∈ zTB := zTB_of 645 (by decide +kernel) rfl
theorem b_st_maxL : Cond.static Lib.MathLoose.max_long.x ∈ zTB := zTB_of 555 (by decide +kernel) rfl
theorem b_cd_maxL : Cond.code Lib.MathLoose.max_long.x Lib.MathLoose.max_long.code 4 (some .long) ∈ zTB := zTB_of 556 (by decide +kernel) rfl
theorem b_st_minL : Cond.static Lib.MathLoose.min_long.x ∈ zTB := zTB_of 558 (by decide +kernel) rfl
theorem b_cd_minL : Cond.code Lib.MathLoose.min_long.x Lib.MathLoose.min_long.code 4 (some .long) ∈ zTB := zTB_of 559 (by decide +kernel) rfl
theorem b_ini_Sys : Cond.initialized "java/lang/System" ∈ zTB := zTB_of 12 (by decide +kernel) rfl
theorem b_st_copy : Cond.static arraycopyName ∈ zTB := zTB_of 1228 (by decide +kernel) rfl
theorem b_nt_copy : Cond.native arraycopyName ∈ zTB := zTB_of 1229 (by decide +kernel) rfl
theorem b_im_obj : Cond.instanceMethod Lib.objectInit ∈ zTB := zTB_of 23 (by decide +kernel) rfl
theorem b_cd_obj : Cond.code Lib.objectInit ⟨#[0xb1]⟩ 1 none ∈ zTB := zTB_of 24 (by decide +kernel) rfl
theorem b_arI : Cond.arrayClass .int ∈ zTB := zTB_of 44 (by decide +kernel) rfl
theorem b_arL : Cond.arrayClass .long ∈ zTB := zTB_of 95 (by decide +kernel) rfl
theorem b_ins_0 : Cond.instantiable RX0 3 ∈ zTB := zTB_of 148 (by decide +kernel) rfl
theorem b_ini_0 : Cond.initialized RX0 ∈ zTB := zTB_of 7 (by decide +kernel) rfl
theorem b_ins_1 : Cond.instantiable RX1 2 ∈ zTB := zTB_of 164 (by decide +kernel) rfl
theorem b_ini_1 : Cond.initialized RX1 ∈ zTB := zTB_of 8 (by decide +kernel) rfl
theorem b_ins_2 : Cond.instantiable RX2 8 ∈ zTB := zTB_of 46 (by decide +kernel) rfl
theorem b_ini_2 : Cond.initialized RX2 ∈ zTB := zTB_of 3 (by decide +kernel) rfl
theorem b_ins_3 : Cond.instantiable RX3 2 ∈ zTB := zTB_of 83 (by decide +kernel) rfl
theorem b_ini_3 : Cond.initialized RX3 ∈ zTB := zTB_of 4 (by decide +kernel) rfl
theorem b_ins_4 : Cond.instantiable RX4 5 ∈ zTB := zTB_of 97 (by decide +kernel) rfl
theorem b_ini_4 : Cond.initialized RX4 ∈ zTB := zTB_of 5 (by decide +kernel) rfl
theorem b_ins_5 : Cond.instantiable RX5 4 ∈ zTB := zTB_of 26 (by decide +kernel) rfl
theorem b_ini_5 : Cond.initialized RX5 ∈ zTB := zTB_of 2 (by decide +kernel) rfl
theorem b_ins_6 : Cond.instantiable RX6 6 ∈ zTB := zTB_of 122 (by decide +kernel) rfl
theorem b_ini_6 : Cond.initialized RX6 ∈ zTB := zTB_of 6 (by decide +kernel) rfl
theorem b_ins_7 : Cond.instantiable RX7 15 ∈ zTB := zTB_of 18 (by decide +kernel) rfl
theorem b_ini_7 : Cond.initialized RX7 ∈ zTB := zTB_of 1 (by decide +kernel) rfl
theorem b_ins_8 : Cond.instantiable RX8 35 ∈ zTB := zTB_of 871 (by decide +kernel) rfl
theorem b_ini_8 : Cond.initialized RX8 ∈ zTB := zTB_of 9 (by decide +kernel) rfl
def I_R_init : List (Nat × Instr × Nat × Nat) := [(0, .aload_n 0, 1, 1), (1, .invokespecial 3, 3, 4), (4, .aload_n 0, 1, 5), (5, .lconst 0, 1, 6), (6, .putfield 9, 3, 9), (9, .aload_n 0, 1, 10), (10, .lconst 0, 1, 11), (11, .putfield 15, 3, 14), (14, .aload_n 0, 1, 15), (15, .iconst 0, 1, 16), (16, .putfield 18, 3, 19), (19, .return_, 1, 20)]
def M_R_init : zM := (⟨"CamPieces$Range", "<init>", "()V"⟩, prog_2_method_1_code, 1, none, I_R_init)
def R_R_init : Room := { frames := 1, cells := 0, slots := 0, locals := 24 }
theorem D_R_init : zDec M_R_init := (by decide +kernel : ∀ q ∈ I_R_init, decode prog_2_method_1_code q.1 = .ok (q.2.1, q.2.2.1) ∧ q.1 + q.2.2.1 = q.2.2.2)
theorem C_R_init : zCi M_R_init 0 := ⟨⟨zTB_of 7 (by decide +kernel) rfl, zTB_of 151 (by decide +kernel) rfl, by decide, by decide, by decide +kernel⟩, zTB_of 150 (by decide +kernel) rfl, rfl, rfl⟩
def I_R_open : List (Nat × Instr × Nat × Nat) := [(0, .aload_n 0, 1, 1), (1, .lload_n 1, 1, 2), (2, .putfield 9, 3, 5), (5, .aload_n 0, 1, 6), (6, .lload_n 3, 1, 7), (7, .putfield 15, 3, 10), (10, .aload_n 0, 1, 11), (11, .iconst 0, 1, 12), (12, .putfield 18, 3, 15), (15, .return_, 1, 16)]
def M_R_open : zM := (⟨"CamPieces$Range", "open", "(JJ)V"⟩, prog_2_method_2_code, 5, none, I_R_open)
def R_R_open : Room := { frames := 0, cells := 0, slots := 0, locals := 0 }
theorem D_R_open : zDec M_R_open := (by decide +kernel : ∀ q ∈ I_R_open, decode prog_2_method_2_code q.1 = .ok (q.2.1, q.2.2.1) ∧ q.1 + q.2.2.1 = q.2.2.2)
theorem C_R_open : zCv M_R_open 2 := ⟨⟨zTB_of 7 (by decide +kernel) rfl, zTB_of 546 (by decide +kernel) rfl, by decide, by decide, by decide +kernel⟩, zTB_of 544 (by decide +kernel) rfl, zTB_of 545 (by decide +kernel) rfl⟩
def I_R_keepAboveZero : List (Nat × Instr × Nat × Nat) := [(0, .lload_n 3, 1, 1), (1, .lconst 0, 1, 2), (2, .lcmp, 1, 3), (3, .ifCond .le 25, 3, 6), (6, .aload_n 0, 1, 7), (7, .aload_n 0, 1, 8), (8, .getfield 9, 3, 11), (11, .lload_n 1, 1, 12), (12, .lneg, 1, 13), (13, .lload_n 3, 1, 14), (14, .invokestatic 22, 3, 17), (17, .lconst 1, 1, 18), (18, .ladd, 1, 19), (19, .invokestatic 28, 3, 22), (22, .putfield 9, 3, 25), (25, .goto 44, 3, 28), (28, .lload_n 3, 1, 29), (29, .lconst 0, 1, 30), (30, .lcmp, 1, 31), (31, .ifCond .ge 27, 3, 34), (34, .aload_n 0, 1, 35), (35, .aload_n 0, 1, 36), (36, .getfield 15, 3, 39), (39, .lload_n 1, 1, 40), (40, .lneg, 1, 41), (41, .lload_n 3, 1, 42), (42, .lneg, 1, 43), (43, .invokestatic 22, 3, 46), (46, .lneg, 1, 47), (47, .lconst 1, 1, 48), (48, .lsub, 1, 49), (49, .invokestatic 31, 3, 52), (52, .putfield 15, 3, 55), (55, .goto 14, 3, 58), (58, .lload_n 1, 1, 59), (59, .lconst 0, 1, 60), (60, .lcmp, 1, 61), (61, .ifCond .gt 8, 3, 64), (64, .aload_n 0, 1, 65), (65, .iconst 1, 1, 66), (66, .putfield 18, 3, 69), (69, .return_, 1, 70)]
def M_R_keepAboveZero : zM := (⟨"CamPieces$Range", "keepAboveZero", "(JJ)V"⟩, prog_2_method_3_code, 5, none, I_R_keepAboveZero)
def R_R_keepAboveZero : Room := { frames := 1, cells := 0, slots := 0, locals := 25 }
theorem D_R_keepAboveZero : zDec M_R_keepAboveZero := (by decide +kernel : ∀ q ∈ I_R_keepAboveZero, decode prog_2_method_3_code q.1 = .ok (q.2.1, q.2.2.1) ∧ q.1 + q.2.2.1 = q.2.2.2)
theorem C_R_keepAboveZero : zCv M_R_keepAboveZero 2 := ⟨⟨zTB_of 7 (by decide +kernel) rfl, zTB_of 550 (by decide +kernel) rfl, by decide, by decide, by decide +kernel⟩, zTB_of 548 (by decide +kernel) rfl, zTB_of 549 (by decide +kernel) rfl⟩
def I_R_holds : List (Nat × Instr × Nat × Nat) := [(0, .aload_n 0, 1, 1), (1, .getfield 18, 3, 4), (4, .ifCond .ne 25, 3, 7), (7, .lload_n 1, 1, 8), (8, .aload_n 0, 1, 9), (9, .getfield 9, 3, 12), (12, .lcmp, 1, 13), (13, .ifCond .lt 16, 3, 16), (16, .lload_n 1, 1, 17), (17, .aload_n 0, 1, 18), (18, .getfield 15, 3, 21), (21, .lcmp, 1, 22), (22, .ifCond .gt 7, 3, 25), (25, .iconst 1, 1, 26), (26, .goto 4, 3, 29), (29, .iconst 0, 1, 30), (30, .ireturn, 1, 31)]
def M_R_holds : zM := (⟨"CamPieces$Range", "holds", "(J)Z"⟩, prog_2_method_4_code, 3, some .boolean, I_R_holds)
def R_R_holds : Room := { frames := 0, cells := 0, slots := 0, locals := 0 }
theorem D_R_holds : zDec M_R_holds := (by decide +kernel : ∀ q ∈ I_R_holds, decode prog_2_method_4_code q.1 = .ok (q.2.1, q.2.2.1) ∧ q.1 + q.2.2.1 = q.2.2.2)
theorem C_R_holds : zCv M_R_holds 1 := ⟨⟨zTB_of 7 (by decide +kernel) rfl, zTB_of 567 (by decide +kernel) rfl, by decide, by decide, by decide +kernel⟩, zTB_of 565 (by decide +kernel) rfl, zTB_of 566 (by decide +kernel) rfl⟩
def I_R_leastOne : List (Nat × Instr × Nat × Nat) := [(0, .aload_n 0, 1, 1), (1, .aload_n 0, 1, 2), (2, .getfield 9, 3, 5), (5, .invokevirtual 34, 3, 8), (8, .ifCond .eq 11, 3, 11), (11, .aload_n 0, 1, 12), (12, .getfield 9, 3, 15), (15, .l2i, 1, 16), (16, .goto 5, 3, 19), (19, .bipush (-5), 2, 21), (21, .ireturn, 1, 22)]
def M_R_leastOne : zM := (⟨"CamPieces$Range", "leastOne", "()I"⟩, prog_2_method_5_code, 1, some .int, I_R_leastOne)
def R_R_leastOne : Room := { frames := 1, cells := 0, slots := 0, locals := 22 }
theorem D_R_leastOne : zDec M_R_leastOne := (by decide +kernel : ∀ q ∈ I_R_leastOne, decode prog_2_method_5_code q.1 = .ok (q.2.1, q.2.2.1) ∧ q.1 + q.2.2.1 = q.2.2.2)
theorem C_R_leastOne : zCv M_R_leastOne 0 := ⟨⟨zTB_of 7 (by decide +kernel) rfl, zTB_of 563 (by decide +kernel) rfl, by decide, by decide, by decide +kernel⟩, zTB_of 561 (by decide +kernel) rfl, zTB_of 562 (by decide +kernel) rfl⟩
theorem l_R_3 : Cond.methodLink "CamPieces$Range" 3 ⟨"java/lang/Object", "<init>", "()V"⟩ ∈ zTB := zTB_of 152 (by decide +kernel) rfl
theorem f_R_9 : zF "CamPieces$Range" 9 0 0 (tyX0 0) false := ⟨_, _, _, _, zck_0, by decide, rfl, rfl, zTB_of 153 (by decide +kernel) rfl⟩
theorem f_R_15 : zF "CamPieces$Range" 15 0 1 (tyX0 1) false := ⟨_, _, _, _, zck_0, by decide, rfl, rfl, zTB_of 154 (by decide +kernel) rfl⟩
theorem f_R_18 : zF "CamPieces$Range" 18 0 2 (tyX0 2) false := ⟨_, _, _, _, zck_0, by decide, rfl, rfl, zTB_of 155 (by decide +kernel) rfl⟩
theorem l_R_22 : Cond.methodLink "CamPieces$Range" 22 ⟨"java/lang/Math", "floorDiv", "(JJ)J"⟩ ∈ zTB := zTB_of 551 (by decide +kernel) rfl
theorem l_R_28 : Cond.methodLink "CamPieces$Range" 28 ⟨"java/lang/Math", "max", "(JJ)J"⟩ ∈ zTB := zTB_of 554 (by decide +kernel) rfl
theorem l_R_31 : Cond.methodLink "CamPieces$Range" 31 ⟨"java/lang/Math", "min", "(JJ)J"⟩ ∈ zTB := zTB_of 557 (by decide +kernel) rfl
theorem l_R_34 : Cond.methodLink "CamPieces$Range" 34 ⟨"CamPieces$Range", "holds", "(J)Z"⟩ ∈ zTB := zTB_of 564 (by decide +kernel) rfl
def I_Q_init : List (Nat × Instr × Nat × Nat) := [(0, .aload_n 0, 1, 1), (1, .invokespecial 1, 3, 4), (4, .aload_n 0, 1, 5), (5, .lconst 0, 1, 6), (6, .putfield 7, 3, 9), (9, .aload_n 0, 1, 10), (10, .lconst 1, 1, 11), (11, .putfield 13, 3, 14), (14, .return_, 1, 15)]
def M_Q_init : zM := (⟨"CamPieces$Ratio", "<init>", "()V"⟩, prog_3_method_1_code, 1, none, I_Q_init)
def R_Q_init : Room := { frames := 1, cells := 0, slots := 0, locals := 24 }
theorem D_Q_init : zDec M_Q_init := (by decide +kernel : ∀ q ∈ I_Q_init, decode prog_3_method_1_code q.1 = .ok (q.2.1, q.2.2.1) ∧ q.1 + q.2.2.1 = q.2.2.2)
theorem C_Q_init : zCi M_Q_init 0 := ⟨⟨zTB_of 8 (by decide +kernel) rfl, zTB_of 167 (by decide +kernel) rfl, by decide, by decide, by decide +kernel⟩, zTB_of 166 (by decide +kernel) rfl, rfl, rfl⟩
def I_Q_become : List (Nat × Instr × Nat × Nat) := [(0, .aload_n 0, 1, 1), (1, .lload_n 1, 1, 2), (2, .putfield 7, 3, 5), (5, .aload_n 0, 1, 6), (6, .lload_n 3, 1, 7), (7, .putfield 13, 3, 10), (10, .return_, 1, 11)]
def M_Q_become : zM := (⟨"CamPieces$Ratio", "become", "(JJ)V"⟩, prog_3_method_2_code, 5, none, I_Q_become)
def R_Q_become : Room := { frames := 0, cells := 0, slots := 0, locals := 0 }
theorem D_Q_become : zDec M_Q_become := (by decide +kernel : ∀ q ∈ I_Q_become, decode prog_3_method_2_code q.1 = .ok (q.2.1, q.2.2.1) ∧ q.1 + q.2.2.1 = q.2.2.2)
theorem C_Q_become : zCv M_Q_become 2 := ⟨⟨zTB_of 8 (by decide +kernel) rfl, zTB_of 446 (by decide +kernel) rfl, by decide, by decide, by decide +kernel⟩, zTB_of 444 (by decide +kernel) rfl, zTB_of 445 (by decide +kernel) rfl⟩
def I_Q_lower : List (Nat × Instr × Nat × Nat) := [(0, .aload_n 0, 1, 1), (1, .getfield 7, 3, 4), (4, .aload_n 0, 1, 5), (5, .getfield 13, 3, 8), (8, .invokestatic 16, 3, 11), (11, .lstore_n 1, 1, 12), (12, .lload_n 1, 1, 13), (13, .lconst 0, 1, 14), (14, .lcmp, 1, 15), (15, .ifCond .ne 4, 3, 18), (18, .return_, 1, 19), (19, .aload_n 0, 1, 20), (20, .dup, 1, 21), (21, .getfield 7, 3, 24), (24, .lload_n 1, 1, 25), (25, .ldiv, 1, 26), (26, .putfield 7, 3, 29), (29, .aload_n 0, 1, 30), (30, .dup, 1, 31), (31, .getfield 13, 3, 34), (34, .lload_n 1, 1, 35), (35, .ldiv, 1, 36), (36, .putfield 13, 3, 39), (39, .return_, 1, 40)]
def M_Q_lower : zM := (⟨"CamPieces$Ratio", "lower", "()V"⟩, prog_3_method_3_code, 3, none, I_Q_lower)
def R_Q_lower : Room := { frames := 2, cells := 0, slots := 0, locals := 54 }
theorem D_Q_lower : zDec M_Q_lower := (by decide +kernel : ∀ q ∈ I_Q_lower, decode prog_3_method_3_code q.1 = .ok (q.2.1, q.2.2.1) ∧ q.1 + q.2.2.1 = q.2.2.2)
theorem C_Q_lower : zCv M_Q_lower 0 := ⟨⟨zTB_of 8 (by decide +kernel) rfl, zTB_of 450 (by decide +kernel) rfl, by decide, by decide, by decide +kernel⟩, zTB_of 448 (by decide +kernel) rfl, zTB_of 449 (by decide +kernel) rfl⟩
def I_Q_take : List (Nat × Instr × Nat × Nat) := [(0, .aload_n 0, 1, 1), (1, .aload_n 0, 1, 2), (2, .getfield 7, 3, 5), (5, .aload_n 1, 1, 6), (6, .getfield 13, 3, 9), (9, .lmul, 1, 10), (10, .aload_n 1, 1, 11), (11, .getfield 7, 3, 14), (14, .aload_n 0, 1, 15), (15, .getfield 13, 3, 18), (18, .lmul, 1, 19), (19, .lsub, 1, 20), (20, .putfield 7, 3, 23), (23, .aload_n 0, 1, 24), (24, .aload_n 0, 1, 25), (25, .getfield 13, 3, 28), (28, .aload_n 1, 1, 29), (29, .getfield 13, 3, 32), (32, .lmul, 1, 33), (33, .putfield 13, 3, 36), (36, .return_, 1, 37)]
def M_Q_take : zM := (⟨"CamPieces$Ratio", "take", "(LCamPieces$Ratio;)V"⟩, prog_3_method_4_code, 2, none, I_Q_take)
def R_Q_take : Room := { frames := 0, cells := 0, slots := 0, locals := 0 }
theorem D_Q_take : zDec M_Q_take := (by decide +kernel : ∀ q ∈ I_Q_take, decode prog_3_method_4_code q.1 = .ok (q.2.1, q.2.2.1) ∧ q.1 + q.2.2.1 = q.2.2.2)
theorem C_Q_take : zCv M_Q_take 1 := ⟨⟨zTB_of 8 (by decide +kernel) rfl, zTB_of 455 (by decide +kernel) rfl, by decide, by decide, by decide +kernel⟩, zTB_of 453 (by decide +kernel) rfl, zTB_of 454 (by decide +kernel) rfl⟩
theorem l_Q_1 : Cond.methodLink "CamPieces$Ratio" 1 ⟨"java/lang/Object", "<init>", "()V"⟩ ∈ zTB := zTB_of 168 (by decide +kernel) rfl
theorem f_Q_7 : zF "CamPieces$Ratio" 7 1 0 (tyX1 0) false := ⟨_, _, _, _, zck_1, by decide, rfl, rfl, zTB_of 169 (by decide +kernel) rfl⟩
theorem f_Q_13 : zF "CamPieces$Ratio" 13 1 1 (tyX1 1) false := ⟨_, _, _, _, zck_1, by decide, rfl, rfl, zTB_of 171 (by decide +kernel) rfl⟩
theorem l_Q_16 : Cond.methodLinkNest "CamPieces$Ratio" 16 ⟨"CamPieces", "commonDivisor", "(JJ)J"⟩ "CamPieces" ∈ zNW := zNW_of 451 (by decide +kernel) rfl
def I_D_init : List (Nat × Instr × Nat × Nat) := [(0, .aload_n 0, 1, 1), (1, .invokespecial 3, 3, 4), (4, .aload_n 0, 1, 5), (5, .bipush 120, 2, 7), (7, .newarray .int, 2, 9), (9, .putfield 9, 3, 12), (12, .aload_n 0, 1, 13), (13, .iconst 0, 1, 14), (14, .putfield 15, 3, 17), (17, .aload_n 0, 1, 18), (18, .new 19, 3, 21), (21, .dup, 1, 22), (22, .invokespecial 21, 3, 25), (25, .putfield 22, 3, 28), (28, .aload_n 0, 1, 29), (29, .iconst 0, 1, 30), (30, .putfield 26, 3, 33), (33, .aload_n 0, 1, 34), (34, .iconst 0, 1, 35), (35, .putfield 29, 3, 38), (38, .aload_n 0, 1, 39), (39, .iconst (-1), 1, 40), (40, .putfield 32, 3, 43), (43, .aload_n 0, 1, 44), (44, .iconst (-1), 1, 45), (45, .putfield 35, 3, 48), (48, .aload_n 0, 1, 49), (49, .bipush (-5), 2, 51), (51, .putfield 38, 3, 54), (54, .return_, 1, 55)]
def M_D_init : zM := (⟨"CamPieces$Reader", "<init>", "()V"⟩, prog_4_method_1_code, 1, none, I_D_init)
def R_D_init : Room := { frames := 2, cells := 5, slots := 160, locals := 44 }
theorem D_D_init : zDec M_D_init := (by decide +kernel : ∀ q ∈ I_D_init, decode prog_4_method_1_code q.1 = .ok (q.2.1, q.2.2.1) ∧ q.1 + q.2.2.1 = q.2.2.2)
theorem C_D_init : zCi M_D_init 0 := ⟨⟨zTB_of 3 (by decide +kernel) rfl, zTB_of 49 (by decide +kernel) rfl, by decide, by decide, by decide +kernel⟩, zTB_of 48 (by decide +kernel) rfl, rfl, rfl⟩
def I_D_size : List (Nat × Instr × Nat × Nat) := [(0, .aload_n 0, 1, 1), (1, .getfield 15, 3, 4), (4, .ireturn, 1, 5)]
def M_D_size : zM := (⟨"CamPieces$Reader", "size", "()I"⟩, prog_4_method_2_code, 1, some .int, I_D_size)
def R_D_size : Room := { frames := 0, cells := 0, slots := 0, locals := 0 }
theorem D_D_size : zDec M_D_size := (by decide +kernel : ∀ q ∈ I_D_size, decode prog_4_method_2_code q.1 = .ok (q.2.1, q.2.2.1) ∧ q.1 + q.2.2.1 = q.2.2.2)
theorem C_D_size : zCv M_D_size 0 := ⟨⟨zTB_of 3 (by decide +kernel) rfl, zTB_of 334 (by decide +kernel) rfl, by decide, by decide, by decide +kernel⟩, zTB_of 332 (by decide +kernel) rfl, zTB_of 333 (by decide +kernel) rfl⟩
def I_D_append : List (Nat × Instr × Nat × Nat) := [(0, .aload_n 0, 1, 1), (1, .getfield 15, 3, 4), (4, .bipush 120, 2, 6), (6, .if_icmp .lt 4, 3, 9), (9, .return_, 1, 10), (10, .aload_n 0, 1, 11), (11, .getfield 9, 3, 14), (14, .aload_n 0, 1, 15), (15, .getfield 15, 3, 18), (18, .iload_n 1, 1, 19), (19, .invokestatic 41, 3, 22), (22, .aload_n 0, 1, 23), (23, .dup, 1, 24), (24, .getfield 15, 3, 27), (27, .iconst 1, 1, 28), (28, .iadd, 1, 29), (29, .putfield 15, 3, 32), (32, .return_, 1, 33)]
def M_D_append : zM := (⟨"CamPieces$Reader", "append", "(I)V"⟩, prog_4_method_3_code, 2, none, I_D_append)
def R_D_append : Room := { frames := 1, cells := 0, slots := 0, locals := 22 }
theorem D_D_append : zDec M_D_append := (by decide +kernel : ∀ q ∈ I_D_append, decode prog_4_method_3_code q.1 = .ok (q.2.1, q.2.2.1) ∧ q.1 + q.2.2.1 = q.2.2.2)
theorem C_D_append : zCv M_D_append 1 := ⟨⟨zTB_of 3 (by decide +kernel) rfl, zTB_of 715 (by decide +kernel) rfl, by decide, by decide, by decide +kernel⟩, zTB_of 713 (by decide +kernel) rfl, zTB_of 714 (by decide +kernel) rfl⟩
def I_D_empty : List (Nat × Instr × Nat × Nat) := [(0, .aload_n 0, 1, 1), (1, .iconst 0, 1, 2), (2, .putfield 15, 3, 5), (5, .return_, 1, 6)]
def M_D_empty : zM := (⟨"CamPieces$Reader", "empty", "()V"⟩, prog_4_method_4_code, 1, none, I_D_empty)
def R_D_empty : Room := { frames := 0, cells := 0, slots := 0, locals := 0 }
theorem D_D_empty : zDec M_D_empty := (by decide +kernel : ∀ q ∈ I_D_empty, decode prog_4_method_4_code q.1 = .ok (q.2.1, q.2.2.1) ∧ q.1 + q.2.2.1 = q.2.2.2)
theorem C_D_empty : zCv M_D_empty 0 := ⟨⟨zTB_of 3 (by decide +kernel) rfl, zTB_of 724 (by decide +kernel) rfl, by decide, by decide, by decide +kernel⟩, zTB_of 722 (by decide +kernel) rfl, zTB_of 723 (by decide +kernel) rfl⟩
def I_D_readTape : List (Nat × Instr × Nat × Nat) := [(0, .aload_n 0, 1, 1), (1, .iconst 0, 1, 2), (2, .putfield 26, 3, 5), (5, .aload_n 0, 1, 6), (6, .iconst 0, 1, 7), (7, .putfield 29, 3, 10), (10, .aload_n 0, 1, 11), (11, .iconst (-1), 1, 12), (12, .putfield 32, 3, 15), (15, .aload_n 0, 1, 16), (16, .iconst (-1), 1, 17), (17, .putfield 35, 3, 20), (20, .aload_n 0, 1, 21), (21, .getfield 22, 3, 24), (24, .invokevirtual 45, 3, 27), (27, .iconst 0, 1, 28), (28, .istore_n 1, 1, 29), (29, .iload_n 1, 1, 30), (30, .bipush 120, 2, 32), (32, .if_icmp .gt 58, 3, 35), (35, .aload_n 0, 1, 36), (36, .invokevirtual 48, 3, 39), (39, .ifCond .eq 51, 3, 42), (42, .aload_n 0, 1, 43), (43, .getfield 26, 3, 46), (46, .aload_n 0, 1, 47), (47, .getfield 15, 3, 50), (50, .if_icmp .ne 5, 3, 53), (53, .iconst 1, 1, 54), (54, .ireturn, 1, 55), (55, .aload_n 0, 1, 56), (56, .invokevirtual 52, 3, 59), (59, .bipush 59, 2, 61), (61, .if_icmp .eq 13, 3, 64), (64, .aload_n 0, 1, 65), (65, .aload_n 0, 1, 66), (66, .getfield 26, 3, 69), (69, .iconst 4, 1, 70), (70, .invokevirtual 56, 3, 73), (73, .ireturn, 1, 74), (74, .aload_n 0, 1, 75), (75, .dup, 1, 76), (76, .getfield 26, 3, 79), (79, .iconst 1, 1, 80), (80, .iadd, 1, 81), (81, .putfield 26, 3, 84), (84, .iinc 1 1, 3, 87), (87, .goto (-58), 3, 90), (90, .iconst 0, 1, 91), (91, .ireturn, 1, 92)]
def M_D_readTape : zM := (⟨"CamPieces$Reader", "readTape", "()Z"⟩, prog_4_method_5_code, 2, some .boolean, I_D_readTape)
def R_D_readTape : Room := { frames := 8, cells := 0, slots := 0, locals := 178 }
theorem D_D_readTape : zDec M_D_readTape := (by decide +kernel : ∀ q ∈ I_D_readTape, decode prog_4_method_5_code q.1 = .ok (q.2.1, q.2.2.1) ∧ q.1 + q.2.2.1 = q.2.2.2)
theorem C_D_readTape : zCv M_D_readTape 0 := ⟨⟨zTB_of 3 (by decide +kernel) rfl, zTB_of 732 (by decide +kernel) rfl, by decide, by decide, by decide +kernel⟩, zTB_of 730 (by decide +kernel) rfl, zTB_of 731 (by decide +kernel) rfl⟩
def I_D_readPiece : List (Nat × Instr × Nat × Nat) := [(0, .aload_n 0, 1, 1), (1, .getfield 26, 3, 4), (4, .istore_n 1, 1, 5), (5, .aload_n 0, 1, 6), (6, .invokevirtual 60, 3, 9), (9, .istore_n 2, 1, 10), (10, .iload_n 2, 1, 11), (11, .ifCond .ge 10, 3, 14), (14, .aload_n 0, 1, 15), (15, .iload_n 1, 1, 16), (16, .iconst 1, 1, 17), (17, .invokevirtual 56, 3, 20), (20, .ireturn, 1, 21), (21, .aload_n 0, 1, 22), (22, .invokevirtual 63, 3, 25), (25, .ifCond .ne 5, 3, 28), (28, .iconst 0, 1, 29), (29, .ireturn, 1, 30), (30, .aload_n 0, 1, 31), (31, .getfield 26, 3, 34), (34, .istore_n 3, 1, 35), (35, .aload_n 0, 1, 36), (36, .iconst 3, 1, 37), (37, .invokevirtual 66, 3, 40), (40, .istore 4, 2, 42), (42, .iload 4, 2, 44), (44, .iconst 1, 1, 45), (45, .if_icmp .lt 11, 3, 48), (48, .iload 4, 2, 50), (50, .sipush 360, 3, 53), (53, .if_icmp .le 10, 3, 56), (56, .aload_n 0, 1, 57), (57, .iload_n 3, 1, 58), (58, .iconst 2, 1, 59), (59, .invokevirtual 56, 3, 62), (62, .ireturn, 1, 63), (63, .iconst 0, 1, 64), (64, .istore 5, 2, 66), (66, .iload_n 2, 1, 67), (67, .ifCond .eq 37, 3, 70), (70, .aload_n 0, 1, 71), (71, .invokevirtual 63, 3, 74), (74, .ifCond .ne 5, 3, 77), (77, .iconst 0, 1, 78), (78, .ireturn, 1, 79), (79, .aload_n 0, 1, 80), (80, .getfield 26, 3, 83), (83, .istore 6, 2, 85), (85, .aload_n 0, 1, 86), (86, .invokevirtual 70, 3, 89), (89, .istore 5, 2, 91), (91, .iload 5, 2, 93), (93, .ifCond .ne 11, 3, 96), (96, .aload_n 0, 1, 97), (97, .iload 6, 2, 99), (99, .iconst 3, 1, 100), (100, .invokevirtual 56, 3, 103), (103, .ireturn, 1, 104), (104, .aload_n 0, 1, 105), (105, .iload_n 2, 1, 106), (106, .iload 4, 2, 108), (108, .iload 5, 2, 110), (110, .invokevirtual 73, 3, 113), (113, .iconst 1, 1, 114), (114, .ireturn, 1, 115)]
def M_D_readPiece : zM := (⟨"CamPieces$Reader", "readPiece", "()Z"⟩, prog_4_method_6_code, 7, some .boolean, I_D_readPiece)
def R_D_readPiece : Room := { frames := 7, cells := 0, slots := 0, locals := 152 }
theorem D_D_readPiece : zDec M_D_readPiece := (by decide +kernel : ∀ q ∈ I_D_readPiece, decode prog_4_method_6_code q.1 = .ok (q.2.1, q.2.2.1) ∧ q.1 + q.2.2.1 = q.2.2.2)
theorem C_D_readPiece : zCv M_D_readPiece 0 := ⟨⟨zTB_of 3 (by decide +kernel) rfl, zTB_of 740 (by decide +kernel) rfl, by decide, by decide, by decide +kernel⟩, zTB_of 739 (by decide +kernel) rfl, zTB_ofS 26 (by decide +kernel) rfl⟩
def I_D_byteHere : List (Nat × Instr × Nat × Nat) := [(0, .aload_n 0, 1, 1), (1, .getfield 26, 3, 4), (4, .aload_n 0, 1, 5), (5, .getfield 15, 3, 8), (8, .if_icmp .ge 17, 3, 11), (11, .aload_n 0, 1, 12), (12, .getfield 9, 3, 15), (15, .aload_n 0, 1, 16), (16, .getfield 26, 3, 19), (19, .invokestatic 77, 3, 22), (22, .goto 4, 3, 25), (25, .iconst (-1), 1, 26), (26, .ireturn, 1, 27)]
def M_D_byteHere : zM := (⟨"CamPieces$Reader", "byteHere", "()I"⟩, prog_4_method_7_code, 1, some .int, I_D_byteHere)
def R_D_byteHere : Room := { frames := 1, cells := 0, slots := 0, locals := 21 }
theorem D_D_byteHere : zDec M_D_byteHere := (by decide +kernel : ∀ q ∈ I_D_byteHere, decode prog_4_method_7_code q.1 = .ok (q.2.1, q.2.2.1) ∧ q.1 + q.2.2.1 = q.2.2.2)
theorem C_D_byteHere : zCv M_D_byteHere 0 := ⟨⟨zTB_of 3 (by decide +kernel) rfl, zTB_of 748 (by decide +kernel) rfl, by decide, by decide, by decide +kernel⟩, zTB_of 747 (by decide +kernel) rfl, zTB_ofS 28 (by decide +kernel) rfl⟩
def I_D_fail : List (Nat × Instr × Nat × Nat) := [(0, .aload_n 0, 1, 1), (1, .iload_n 1, 1, 2), (2, .putfield 32, 3, 5), (5, .aload_n 0, 1, 6), (6, .iload_n 1, 1, 7), (7, .aload_n 0, 1, 8), (8, .getfield 15, 3, 11), (11, .if_icmp .ne 7, 3, 14), (14, .iconst 5, 1, 15), (15, .goto 4, 3, 18), (18, .iload_n 2, 1, 19), (19, .putfield 38, 3, 22), (22, .iconst 0, 1, 23), (23, .ireturn, 1, 24)]
def M_D_fail : zM := (⟨"CamPieces$Reader", "fail", "(II)Z"⟩, prog_4_method_8_code, 3, some .boolean, I_D_fail)
def R_D_fail : Room := { frames := 0, cells := 0, slots := 0, locals := 0 }
theorem D_D_fail : zDec M_D_fail := (by decide +kernel : ∀ q ∈ I_D_fail, decode prog_4_method_8_code q.1 = .ok (q.2.1, q.2.2.1) ∧ q.1 + q.2.2.1 = q.2.2.2)
theorem C_D_fail : zCv M_D_fail 2 := ⟨⟨zTB_of 3 (by decide +kernel) rfl, zTB_of 814 (by decide +kernel) rfl, by decide, by decide, by decide +kernel⟩, zTB_of 813 (by decide +kernel) rfl, zTB_ofS 30 (by decide +kernel) rfl⟩
def I_D_readKind : List (Nat × Instr × Nat × Nat) := [(0, .aload_n 0, 1, 1), (1, .getfield 26, 3, 4), (4, .istore_n 1, 1, 5), (5, .iconst 0, 1, 6), (6, .istore_n 2, 1, 7), (7, .iload_n 2, 1, 8), (8, .bipush 120, 2, 10), (10, .if_icmp .ge 37, 3, 13), (13, .aload_n 0, 1, 14), (14, .invokevirtual 52, 3, 17), (17, .bipush 97, 2, 19), (19, .if_icmp .lt 28, 3, 22), (22, .aload_n 0, 1, 23), (23, .invokevirtual 52, 3, 26), (26, .bipush 122, 2, 28), (28, .if_icmp .gt 19, 3, 31), (31, .aload_n 0, 1, 32), (32, .dup, 1, 33), (33, .getfield 26, 3, 36), (36, .iconst 1, 1, 37), (37, .iadd, 1, 38), (38, .putfield 26, 3, 41), (41, .iinc 2 1, 3, 44), (44, .goto (-37), 3, 47), (47, .iconst 0, 1, 48), (48, .istore_n 2, 1, 49), (49, .iload_n 2, 1, 50), (50, .bipush 6, 2, 52), (52, .if_icmp .ge 29, 3, 55), (55, .aload_n 0, 1, 56), (56, .iload_n 1, 1, 57), (57, .aload_n 0, 1, 58), (58, .getfield 26, 3, 61), (61, .iload_n 1, 1, 62), (62, .isub, 1, 63), (63, .iload_n 2, 1, 64), (64, .invokestatic 81, 3, 67), (67, .invokevirtual 85, 3, 70), (70, .ifCond .eq 5, 3, 73), (73, .iload_n 2, 1, 74), (74, .ireturn, 1, 75), (75, .iinc 2 1, 3, 78), (78, .goto (-29), 3, 81), (81, .iconst (-1), 1, 82), (82, .ireturn, 1, 83)]
def M_D_readKind : zM := (⟨"CamPieces$Reader", "readKind", "()I"⟩, prog_4_method_9_code, 3, some .int, I_D_readKind)
def R_D_readKind : Room := { frames := 6, cells := 0, slots := 0, locals := 130 }
theorem D_D_readKind : zDec M_D_readKind := (by decide +kernel : ∀ q ∈ I_D_readKind, decode prog_4_method_9_code q.1 = .ok (q.2.1, q.2.2.1) ∧ q.1 + q.2.2.1 = q.2.2.2)
theorem C_D_readKind : zCv M_D_readKind 0 := ⟨⟨zTB_of 3 (by decide +kernel) rfl, zTB_of 744 (by decide +kernel) rfl, by decide, by decide, by decide +kernel⟩, zTB_of 743 (by decide +kernel) rfl, zTB_ofS 27 (by decide +kernel) rfl⟩
def I_D_isWord : List (Nat × Instr × Nat × Nat) := [(0, .iload_n 2, 1, 1), (1, .aload_n 3, 1, 2), (2, .invokevirtual 89, 3, 5), (5, .if_icmp .eq 5, 3, 8), (8, .iconst 0, 1, 9), (9, .ireturn, 1, 10), (10, .iconst 0, 1, 11), (11, .istore 4, 2, 13), (13, .iload 4, 2, 15), (15, .iload_n 2, 1, 16), (16, .if_icmp .ge 40, 3, 19), (19, .iload 4, 2, 21), (21, .aload_n 3, 1, 22), (22, .invokevirtual 89, 3, 25), (25, .if_icmp .ge 31, 3, 28), (28, .aload_n 0, 1, 29), (29, .getfield 9, 3, 32), (32, .iload_n 1, 1, 33), (33, .iload 4, 2, 35), (35, .iadd, 1, 36), (36, .invokestatic 77, 3, 39), (39, .aload_n 3, 1, 40), (40, .iload 4, 2, 42), (42, .invokevirtual 94, 3, 45), (45, .if_icmp .eq 5, 3, 48), (48, .iconst 0, 1, 49), (49, .ireturn, 1, 50), (50, .iinc 4 1, 3, 53), (53, .goto (-40), 3, 56), (56, .iconst 1, 1, 57), (57, .ireturn, 1, 58)]
def M_D_isWord : zM := (⟨"CamPieces$Reader", "isWord", "(IILjava/lang/String;)Z"⟩, prog_4_method_10_code, 5, some .boolean, I_D_isWord)
def R_D_isWord : Room := { frames := 5, cells := 0, slots := 0, locals := 106 }
theorem D_D_isWord : zDec M_D_isWord := (by decide +kernel : ∀ q ∈ I_D_isWord, decode prog_4_method_10_code q.1 = .ok (q.2.1, q.2.2.1) ∧ q.1 + q.2.2.1 = q.2.2.2)
theorem C_D_isWord : zCv M_D_isWord 3 := ⟨⟨zTB_of 3 (by decide +kernel) rfl, zTB_of 762 (by decide +kernel) rfl, by decide, by decide, by decide +kernel⟩, zTB_of 761 (by decide +kernel) rfl, zTB_ofS 29 (by decide +kernel) rfl⟩
def I_D_wordOf : List (Nat × Instr × Nat × Nat) := [(0, .iload_n 0, 1, 1), (1, .tableswitch 50 0 4 #[35, 38, 41, 44, 47], 35, 36), (36, .ldc 98, 2, 38), (38, .areturn, 1, 39), (39, .ldc 100, 2, 41), (41, .areturn, 1, 42), (42, .ldc 102, 2, 44), (44, .areturn, 1, 45), (45, .ldc 104, 2, 47), (47, .areturn, 1, 48), (48, .ldc 106, 2, 50), (50, .areturn, 1, 51), (51, .ldc 108, 2, 53), (53, .areturn, 1, 54)]
def M_D_wordOf : zM := (⟨"CamPieces$Reader", "wordOf", "(I)Ljava/lang/String;"⟩, prog_4_method_11_code, 1, some (.object "java/lang/String"), I_D_wordOf)
def R_D_wordOf : Room := { frames := 0, cells := 0, slots := 0, locals := 0 }
theorem D_D_wordOf : zDec M_D_wordOf := (by decide +kernel : ∀ q ∈ I_D_wordOf, decode prog_4_method_11_code q.1 = .ok (q.2.1, q.2.2.1) ∧ q.1 + q.2.2.1 = q.2.2.2)
theorem C_D_wordOf : zCs M_D_wordOf 1 := ⟨⟨zTB_of 3 (by decide +kernel) rfl, zTB_of 752 (by decide +kernel) rfl, by decide, by decide, by decide +kernel⟩, zTB_of 751 (by decide +kernel) rfl⟩
def I_D_readBlank : List (Nat × Instr × Nat × Nat) := [(0, .aload_n 0, 1, 1), (1, .invokevirtual 52, 3, 4), (4, .bipush 32, 2, 6), (6, .if_icmp .eq 13, 3, 9), (9, .aload_n 0, 1, 10), (10, .aload_n 0, 1, 11), (11, .getfield 26, 3, 14), (14, .iconst 4, 1, 15), (15, .invokevirtual 56, 3, 18), (18, .ireturn, 1, 19), (19, .aload_n 0, 1, 20), (20, .dup, 1, 21), (21, .getfield 26, 3, 24), (24, .iconst 1, 1, 25), (25, .iadd, 1, 26), (26, .putfield 26, 3, 29), (29, .iconst 1, 1, 30), (30, .ireturn, 1, 31)]
def M_D_readBlank : zM := (⟨"CamPieces$Reader", "readBlank", "()Z"⟩, prog_4_method_12_code, 1, some .boolean, I_D_readBlank)
def R_D_readBlank : Room := { frames := 2, cells := 0, slots := 0, locals := 41 }
theorem D_D_readBlank : zDec M_D_readBlank := (by decide +kernel : ∀ q ∈ I_D_readBlank, decode prog_4_method_12_code q.1 = .ok (q.2.1, q.2.2.1) ∧ q.1 + q.2.2.1 = q.2.2.2)
theorem C_D_readBlank : zCv M_D_readBlank 0 := ⟨⟨zTB_of 3 (by decide +kernel) rfl, zTB_of 818 (by decide +kernel) rfl, by decide, by decide, by decide +kernel⟩, zTB_of 817 (by decide +kernel) rfl, zTB_ofS 31 (by decide +kernel) rfl⟩
def I_D_readFigures : List (Nat × Instr × Nat × Nat) := [(0, .iconst 0, 1, 1), (1, .istore_n 2, 1, 2), (2, .iconst 0, 1, 3), (3, .istore_n 3, 1, 4), (4, .iload_n 3, 1, 5), (5, .iload_n 1, 1, 6), (6, .if_icmp .ge 50, 3, 9), (9, .aload_n 0, 1, 10), (10, .invokevirtual 52, 3, 13), (13, .bipush 48, 2, 15), (15, .if_icmp .lt 41, 3, 18), (18, .aload_n 0, 1, 19), (19, .invokevirtual 52, 3, 22), (22, .bipush 57, 2, 24), (24, .if_icmp .gt 32, 3, 27), (27, .iload_n 2, 1, 28), (28, .bipush 10, 2, 30), (30, .imul, 1, 31), (31, .aload_n 0, 1, 32), (32, .invokevirtual 52, 3, 35), (35, .iadd, 1, 36), (36, .bipush 48, 2, 38), (38, .isub, 1, 39), (39, .istore_n 2, 1, 40), (40, .aload_n 0, 1, 41), (41, .dup, 1, 42), (42, .getfield 26, 3, 45), (45, .iconst 1, 1, 46), (46, .iadd, 1, 47), (47, .putfield 26, 3, 50), (50, .iinc 3 1, 3, 53), (53, .goto (-49), 3, 56), (56, .iload_n 2, 1, 57), (57, .ireturn, 1, 58)]
def M_D_readFigures : zM := (⟨"CamPieces$Reader", "readFigures", "(I)I"⟩, prog_4_method_13_code, 4, some .int, I_D_readFigures)
def R_D_readFigures : Room := { frames := 2, cells := 0, slots := 0, locals := 41 }
theorem D_D_readFigures : zDec M_D_readFigures := (by decide +kernel : ∀ q ∈ I_D_readFigures, decode prog_4_method_13_code q.1 = .ok (q.2.1, q.2.2.1) ∧ q.1 + q.2.2.1 = q.2.2.2)
theorem C_D_readFigures : zCv M_D_readFigures 1 := ⟨⟨zTB_of 3 (by decide +kernel) rfl, zTB_of 822 (by decide +kernel) rfl, by decide, by decide, by decide +kernel⟩, zTB_of 821 (by decide +kernel) rfl, zTB_ofS 32 (by decide +kernel) rfl⟩
def I_D_readRise : List (Nat × Instr × Nat × Nat) := [(0, .aload_n 0, 1, 1), (1, .invokevirtual 52, 3, 4), (4, .bipush 45, 2, 6), (6, .if_icmp .ne 7, 3, 9), (9, .iconst 1, 1, 10), (10, .goto 4, 3, 13), (13, .iconst 0, 1, 14), (14, .istore_n 1, 1, 15), (15, .iload_n 1, 1, 16), (16, .ifCond .eq 13, 3, 19), (19, .aload_n 0, 1, 20), (20, .dup, 1, 21), (21, .getfield 26, 3, 24), (24, .iconst 1, 1, 25), (25, .iadd, 1, 26), (26, .putfield 26, 3, 29), (29, .aload_n 0, 1, 30), (30, .iconst 2, 1, 31), (31, .invokevirtual 66, 3, 34), (34, .istore_n 2, 1, 35), (35, .iload_n 1, 1, 36), (36, .ifCond .eq 8, 3, 39), (39, .iload_n 2, 1, 40), (40, .ineg, 1, 41), (41, .goto 4, 3, 44), (44, .iload_n 2, 1, 45), (45, .ireturn, 1, 46)]
def M_D_readRise : zM := (⟨"CamPieces$Reader", "readRise", "()I"⟩, prog_4_method_14_code, 3, some .int, I_D_readRise)
def R_D_readRise : Room := { frames := 3, cells := 0, slots := 0, locals := 64 }
theorem D_D_readRise : zDec M_D_readRise := (by decide +kernel : ∀ q ∈ I_D_readRise, decode prog_4_method_14_code q.1 = .ok (q.2.1, q.2.2.1) ∧ q.1 + q.2.2.1 = q.2.2.2)
theorem C_D_readRise : zCv M_D_readRise 0 := ⟨⟨zTB_of 3 (by decide +kernel) rfl, zTB_of 826 (by decide +kernel) rfl, by decide, by decide, by decide +kernel⟩, zTB_of 825 (by decide +kernel) rfl, zTB_ofS 33 (by decide +kernel) rfl⟩
def I_D_keep : List (Nat × Instr × Nat × Nat) := [(0, .aload_n 0, 1, 1), (1, .getfield 35, 3, 4), (4, .ifCond .ge 30, 3, 7), (7, .aload_n 0, 1, 8), (8, .getfield 22, 3, 11), (11, .invokevirtual 110, 3, 14), (14, .ifCond .eq 20, 3, 17), (17, .aload_n 0, 1, 18), (18, .aload_n 0, 1, 19), (19, .getfield 29, 3, 22), (22, .putfield 35, 3, 25), (25, .aload_n 0, 1, 26), (26, .bipush 6, 2, 28), (28, .putfield 38, 3, 31), (31, .goto 39, 3, 34), (34, .aload_n 0, 1, 35), (35, .getfield 35, 3, 38), (38, .ifCond .ge 32, 3, 41), (41, .aload_n 0, 1, 42), (42, .getfield 22, 3, 45), (45, .invokevirtual 113, 3, 48), (48, .iload_n 2, 1, 49), (49, .iadd, 1, 50), (50, .sipush 360, 3, 53), (53, .if_icmp .le 17, 3, 56), (56, .aload_n 0, 1, 57), (57, .aload_n 0, 1, 58), (58, .getfield 29, 3, 61), (61, .putfield 35, 3, 64), (64, .aload_n 0, 1, 65), (65, .bipush 7, 2, 67), (67, .putfield 38, 3, 70), (70, .aload_n 0, 1, 71), (71, .getfield 35, 3, 74), (74, .ifCond .ge 13, 3, 77), (77, .aload_n 0, 1, 78), (78, .getfield 22, 3, 81), (81, .iload_n 1, 1, 82), (82, .iload_n 2, 1, 83), (83, .iload_n 3, 1, 84), (84, .invokevirtual 116, 3, 87), (87, .aload_n 0, 1, 88), (88, .dup, 1, 89), (89, .getfield 29, 3, 92), (92, .iconst 1, 1, 93), (93, .iadd, 1, 94), (94, .putfield 29, 3, 97), (97, .return_, 1, 98)]
def M_D_keep : zM := (⟨"CamPieces$Reader", "keep", "(III)V"⟩, prog_4_method_15_code, 4, none, I_D_keep)
def R_D_keep : Room := { frames := 3, cells := 0, slots := 0, locals := 69 }
theorem D_D_keep : zDec M_D_keep := (by decide +kernel : ∀ q ∈ I_D_keep, decode prog_4_method_15_code q.1 = .ok (q.2.1, q.2.2.1) ∧ q.1 + q.2.2.1 = q.2.2.2)
theorem C_D_keep : zCv M_D_keep 3 := ⟨⟨zTB_of 3 (by decide +kernel) rfl, zTB_of 830 (by decide +kernel) rfl, by decide, by decide, by decide +kernel⟩, zTB_of 829 (by decide +kernel) rfl, zTB_ofS 34 (by decide +kernel) rfl⟩
theorem l_D_3 : Cond.methodLink "CamPieces$Reader" 3 ⟨"java/lang/Object", "<init>", "()V"⟩ ∈ zTB := zTB_of 50 (by decide +kernel) rfl
theorem f_D_9 : zF "CamPieces$Reader" 9 2 0 (tyX2 0) true := ⟨_, _, _, _, zck_2, by decide, rfl, rfl, zTB_of 53 (by decide +kernel) rfl⟩
theorem fl_D_9 : Cond.fieldLink "CamPieces$Reader" 9 (TX2 0).1 (TX2 0).2.1 (TX2 0).2.2.1 ∈ zTB := zTB_of 53 (by decide +kernel) rfl
theorem f_D_15 : zF "CamPieces$Reader" 15 2 1 (tyX2 1) false := ⟨_, _, _, _, zck_2, by decide, rfl, rfl, zTB_of 54 (by decide +kernel) rfl⟩
theorem n_D_19 : Cond.classLink "CamPieces$Reader" 19 "CamPieces$Train" ∈ zTB := zTB_of 51 (by decide +kernel) rfl
theorem l_D_21 : Cond.methodLinkNest "CamPieces$Reader" 21 ⟨"CamPieces$Train", "<init>", "()V"⟩ "CamPieces" ∈ zNW := zNW_of 52 (by decide +kernel) rfl
theorem f_D_22 : zF "CamPieces$Reader" 22 2 2 (tyX2 2) true := ⟨_, _, _, _, zck_2, by decide, rfl, rfl, zTB_of 55 (by decide +kernel) rfl⟩
theorem fl_D_22 : Cond.fieldLink "CamPieces$Reader" 22 (TX2 2).1 (TX2 2).2.1 (TX2 2).2.2.1 ∈ zTB := zTB_of 55 (by decide +kernel) rfl
theorem f_D_26 : zF "CamPieces$Reader" 26 2 3 (tyX2 3) false := ⟨_, _, _, _, zck_2, by decide, rfl, rfl, zTB_of 57 (by decide +kernel) rfl⟩
theorem f_D_29 : zF "CamPieces$Reader" 29 2 4 (tyX2 4) false := ⟨_, _, _, _, zck_2, by decide, rfl, rfl, zTB_of 58 (by decide +kernel) rfl⟩
theorem f_D_32 : zF "CamPieces$Reader" 32 2 5 (tyX2 5) false := ⟨_, _, _, _, zck_2, by decide, rfl, rfl, zTB_of 59 (by decide +kernel) rfl⟩
theorem f_D_35 : zF "CamPieces$Reader" 35 2 6 (tyX2 6) false := ⟨_, _, _, _, zck_2, by decide, rfl, rfl, zTB_of 61 (by decide +kernel) rfl⟩
theorem f_D_38 : zF "CamPieces$Reader" 38 2 7 (tyX2 7) false := ⟨_, _, _, _, zck_2, by decide, rfl, rfl, zTB_of 63 (by decide +kernel) rfl⟩
theorem l_D_41 : Cond.methodLinkNest "CamPieces$Reader" 41 ⟨"CamPieces", "store", "([III)V"⟩ "CamPieces" ∈ zNW := zNW_of 716 (by decide +kernel) rfl
theorem l_D_45 : Cond.methodLink "CamPieces$Reader" 45 ⟨"CamPieces$Train", "empty", "()V"⟩ ∈ zTB := zTB_of 733 (by decide +kernel) rfl
theorem l_D_48 : Cond.methodLink "CamPieces$Reader" 48 ⟨"CamPieces$Reader", "readPiece", "()Z"⟩ ∈ zTB := zTB_of 737 (by decide +kernel) rfl
theorem l_D_52 : Cond.methodLink "CamPieces$Reader" 52 ⟨"CamPieces$Reader", "byteHere", "()I"⟩ ∈ zTB := zTB_of 745 (by decide +kernel) rfl
theorem l_D_56 : Cond.methodLink "CamPieces$Reader" 56 ⟨"CamPieces$Reader", "fail", "(II)Z"⟩ ∈ zTB := zTB_of 811 (by decide +kernel) rfl
theorem l_D_60 : Cond.methodLink "CamPieces$Reader" 60 ⟨"CamPieces$Reader", "readKind", "()I"⟩ ∈ zTB := zTB_of 741 (by decide +kernel) rfl
theorem l_D_63 : Cond.methodLink "CamPieces$Reader" 63 ⟨"CamPieces$Reader", "readBlank", "()Z"⟩ ∈ zTB := zTB_of 815 (by decide +kernel) rfl
theorem l_D_66 : Cond.methodLink "CamPieces$Reader" 66 ⟨"CamPieces$Reader", "readFigures", "(I)I"⟩ ∈ zTB := zTB_of 819 (by decide +kernel) rfl
theorem l_D_70 : Cond.methodLink "CamPieces$Reader" 70 ⟨"CamPieces$Reader", "readRise", "()I"⟩ ∈ zTB := zTB_of 823 (by decide +kernel) rfl
theorem l_D_73 : Cond.methodLink "CamPieces$Reader" 73 ⟨"CamPieces$Reader", "keep", "(III)V"⟩ ∈ zTB := zTB_of 827 (by decide +kernel) rfl
theorem l_D_77 : Cond.methodLinkNest "CamPieces$Reader" 77 ⟨"CamPieces", "pick", "([II)I"⟩ "CamPieces" ∈ zNW := zNW_of 749 (by decide +kernel) rfl
theorem l_D_81 : Cond.methodLink "CamPieces$Reader" 81 ⟨"CamPieces$Reader", "wordOf", "(I)Ljava/lang/String;"⟩ ∈ zTB := zTB_of 750 (by decide +kernel) rfl
theorem l_D_85 : Cond.methodLink "CamPieces$Reader" 85 ⟨"CamPieces$Reader", "isWord", "(IILjava/lang/String;)Z"⟩ ∈ zTB := zTB_of 759 (by decide +kernel) rfl
theorem l_D_89 : Cond.methodLink "CamPieces$Reader" 89 ⟨"java/lang/String", "length", "()I"⟩ ∈ zTB := zTB_of 763 (by decide +kernel) rfl
theorem l_D_94 : Cond.methodLink "CamPieces$Reader" 94 ⟨"java/lang/String", "charAt", "(I)C"⟩ ∈ zTB := zTB_of 773 (by decide +kernel) rfl
theorem l_D_110 : Cond.methodLink "CamPieces$Reader" 110 ⟨"CamPieces$Train", "isFull", "()Z"⟩ ∈ zTB := zTB_of 831 (by decide +kernel) rfl
theorem l_D_113 : Cond.methodLink "CamPieces$Reader" 113 ⟨"CamPieces$Train", "total", "()I"⟩ ∈ zTB := zTB_of 832 (by decide +kernel) rfl
theorem l_D_116 : Cond.methodLink "CamPieces$Reader" 116 ⟨"CamPieces$Train", "append", "(III)V"⟩ ∈ zTB := zTB_of 833 (by decide +kernel) rfl
def I_W_init : List (Nat × Instr × Nat × Nat) := [(0, .aload_n 0, 1, 1), (1, .invokespecial 3, 3, 4), (4, .aload_n 0, 1, 5), (5, .bipush 120, 2, 7), (7, .newarray .long, 2, 9), (9, .putfield 9, 3, 12), (12, .aload_n 0, 1, 13), (13, .iconst 4, 1, 14), (14, .newarray .int, 2, 16), (16, .dup, 1, 17), (17, .iconst 0, 1, 18), (18, .iconst (-1), 1, 19), (19, .iastore, 1, 20), (20, .dup, 1, 21), (21, .iconst 1, 1, 22), (22, .iconst (-1), 1, 23), (23, .iastore, 1, 24), (24, .dup, 1, 25), (25, .iconst 2, 1, 26), (26, .iconst (-1), 1, 27), (27, .iastore, 1, 28), (28, .dup, 1, 29), (29, .iconst 3, 1, 30), (30, .iconst (-1), 1, 31), (31, .iastore, 1, 32), (32, .putfield 15, 3, 35), (35, .return_, 1, 36)]
def M_W_init : zM := (⟨"CamPieces$Rows", "<init>", "()V"⟩, prog_5_method_1_code, 1, none, I_W_init)
def R_W_init : Room := { frames := 1, cells := 2, slots := 124, locals := 24 }
theorem D_W_init : zDec M_W_init := (by decide +kernel : ∀ q ∈ I_W_init, decode prog_5_method_1_code q.1 = .ok (q.2.1, q.2.2.1) ∧ q.1 + q.2.2.1 = q.2.2.2)
theorem C_W_init : zCi M_W_init 0 := ⟨⟨zTB_of 4 (by decide +kernel) rfl, zTB_of 86 (by decide +kernel) rfl, by decide, by decide, by decide +kernel⟩, zTB_of 85 (by decide +kernel) rfl, rfl, rfl⟩
def I_W_mayHave : List (Nat × Instr × Nat × Nat) := [(0, .iload_n 1, 1, 1), (1, .ifCond .lt 12, 3, 4), (4, .iload_n 1, 1, 5), (5, .iconst 4, 1, 6), (6, .if_icmp .ge 7, 3, 9), (9, .iconst 1, 1, 10), (10, .goto 4, 3, 13), (13, .iconst 0, 1, 14), (14, .ireturn, 1, 15)]
def M_W_mayHave : zM := (⟨"CamPieces$Rows", "mayHave", "(I)Z"⟩, prog_5_method_2_code, 2, some .boolean, I_W_mayHave)
def R_W_mayHave : Room := { frames := 0, cells := 0, slots := 0, locals := 0 }
theorem D_W_mayHave : zDec M_W_mayHave := (by decide +kernel : ∀ q ∈ I_W_mayHave, decode prog_5_method_2_code q.1 = .ok (q.2.1, q.2.2.1) ∧ q.1 + q.2.2.1 = q.2.2.2)
theorem C_W_mayHave : zCv M_W_mayHave 1 := ⟨⟨zTB_of 4 (by decide +kernel) rfl, zTB_of 669 (by decide +kernel) rfl, by decide, by decide, by decide +kernel⟩, zTB_of 667 (by decide +kernel) rfl, zTB_of 668 (by decide +kernel) rfl⟩
def I_W_has : List (Nat × Instr × Nat × Nat) := [(0, .aload_n 0, 1, 1), (1, .iload_n 1, 1, 2), (2, .invokevirtual 19, 3, 5), (5, .ifCond .eq 18, 3, 8), (8, .aload_n 0, 1, 9), (9, .getfield 15, 3, 12), (12, .iload_n 1, 1, 13), (13, .invokestatic 23, 3, 16), (16, .ifCond .lt 7, 3, 19), (19, .iconst 1, 1, 20), (20, .goto 4, 3, 23), (23, .iconst 0, 1, 24), (24, .ireturn, 1, 25)]
def M_W_has : zM := (⟨"CamPieces$Rows", "has", "(I)Z"⟩, prog_5_method_3_code, 2, some .boolean, I_W_has)
def R_W_has : Room := { frames := 1, cells := 0, slots := 0, locals := 21 }
theorem D_W_has : zDec M_W_has := (by decide +kernel : ∀ q ∈ I_W_has, decode prog_5_method_3_code q.1 = .ok (q.2.1, q.2.2.1) ∧ q.1 + q.2.2.1 = q.2.2.2)
theorem C_W_has : zCv M_W_has 1 := ⟨⟨zTB_of 4 (by decide +kernel) rfl, zTB_of 673 (by decide +kernel) rfl, by decide, by decide, by decide +kernel⟩, zTB_of 671 (by decide +kernel) rfl, zTB_of 672 (by decide +kernel) rfl⟩
def I_W_hasPlace : List (Nat × Instr × Nat × Nat) := [(0, .aload_n 0, 1, 1), (1, .iload_n 1, 1, 2), (2, .invokevirtual 27, 3, 5), (5, .ifCond .eq 23, 3, 8), (8, .iload_n 2, 1, 9), (9, .ifCond .lt 19, 3, 12), (12, .iload_n 2, 1, 13), (13, .aload_n 0, 1, 14), (14, .getfield 15, 3, 17), (17, .iload_n 1, 1, 18), (18, .invokestatic 23, 3, 21), (21, .if_icmp .ge 7, 3, 24), (24, .iconst 1, 1, 25), (25, .goto 4, 3, 28), (28, .iconst 0, 1, 29), (29, .ireturn, 1, 30)]
def M_W_hasPlace : zM := (⟨"CamPieces$Rows", "hasPlace", "(II)Z"⟩, prog_5_method_4_code, 3, some .boolean, I_W_hasPlace)
def R_W_hasPlace : Room := { frames := 2, cells := 0, slots := 0, locals := 42 }
theorem D_W_hasPlace : zDec M_W_hasPlace := (by decide +kernel : ∀ q ∈ I_W_hasPlace, decode prog_5_method_4_code q.1 = .ok (q.2.1, q.2.2.1) ∧ q.1 + q.2.2.1 = q.2.2.2)
theorem C_W_hasPlace : zCv M_W_hasPlace 2 := ⟨⟨zTB_of 4 (by decide +kernel) rfl, zTB_of 683 (by decide +kernel) rfl, by decide, by decide, by decide +kernel⟩, zTB_of 681 (by decide +kernel) rfl, zTB_of 682 (by decide +kernel) rfl⟩
def I_W_hasPlaces : List (Nat × Instr × Nat × Nat) := [(0, .iload_n 3, 1, 1), (1, .ifCond .eq 21, 3, 4), (4, .iload_n 2, 1, 5), (5, .ifCond .lt 21, 3, 8), (8, .iload_n 2, 1, 9), (9, .aload_n 0, 1, 10), (10, .getfield 15, 3, 13), (13, .iload_n 1, 1, 14), (14, .invokestatic 23, 3, 17), (17, .iload_n 3, 1, 18), (18, .isub, 1, 19), (19, .if_icmp .gt 7, 3, 22), (22, .iconst 1, 1, 23), (23, .goto 4, 3, 26), (26, .iconst 0, 1, 27), (27, .ireturn, 1, 28)]
def M_W_hasPlaces : zM := (⟨"CamPieces$Rows", "hasPlaces", "(III)Z"⟩, prog_5_method_5_code, 4, some .boolean, I_W_hasPlaces)
def R_W_hasPlaces : Room := { frames := 1, cells := 0, slots := 0, locals := 21 }
theorem D_W_hasPlaces : zDec M_W_hasPlaces := (by decide +kernel : ∀ q ∈ I_W_hasPlaces, decode prog_5_method_5_code q.1 = .ok (q.2.1, q.2.2.1) ∧ q.1 + q.2.2.1 = q.2.2.2)
theorem C_W_hasPlaces : zCv M_W_hasPlaces 3 := ⟨⟨zTB_of 4 (by decide +kernel) rfl, zTB_of 694 (by decide +kernel) rfl, by decide, by decide, by decide +kernel⟩, zTB_of 692 (by decide +kernel) rfl, zTB_of 693 (by decide +kernel) rfl⟩
def I_W_make : List (Nat × Instr × Nat × Nat) := [(0, .aload_n 0, 1, 1), (1, .getfield 15, 3, 4), (4, .iload_n 1, 1, 5), (5, .iload_n 2, 1, 6), (6, .invokestatic 30, 3, 9), (9, .iconst 0, 1, 10), (10, .istore_n 3, 1, 11), (11, .iload_n 3, 1, 12), (12, .iload_n 2, 1, 13), (13, .if_icmp .ge 22, 3, 16), (16, .iload_n 3, 1, 17), (17, .bipush 30, 2, 19), (19, .if_icmp .ge 16, 3, 22), (22, .aload_n 0, 1, 23), (23, .iload_n 1, 1, 24), (24, .iload_n 3, 1, 25), (25, .lconst 0, 1, 26), (26, .invokevirtual 34, 3, 29), (29, .iinc 3 1, 3, 32), (32, .goto (-21), 3, 35), (35, .return_, 1, 36)]
def M_W_make : zM := (⟨"CamPieces$Rows", "make", "(II)V"⟩, prog_5_method_6_code, 4, none, I_W_make)
def R_W_make : Room := { frames := 4, cells := 0, slots := 0, locals := 89 }
theorem D_W_make : zDec M_W_make := (by decide +kernel : ∀ q ∈ I_W_make, decode prog_5_method_6_code q.1 = .ok (q.2.1, q.2.2.1) ∧ q.1 + q.2.2.1 = q.2.2.2)
theorem C_W_make : zCv M_W_make 2 := ⟨⟨zTB_of 4 (by decide +kernel) rfl, zTB_of 851 (by decide +kernel) rfl, by decide, by decide, by decide +kernel⟩, zTB_of 849 (by decide +kernel) rfl, zTB_of 850 (by decide +kernel) rfl⟩
def I_W_read : List (Nat × Instr × Nat × Nat) := [(0, .iload_n 1, 1, 1), (1, .bipush 30, 2, 3), (3, .imul, 1, 4), (4, .iload_n 2, 1, 5), (5, .iadd, 1, 6), (6, .istore_n 3, 1, 7), (7, .aload_n 0, 1, 8), (8, .iload_n 1, 1, 9), (9, .iload_n 2, 1, 10), (10, .invokevirtual 38, 3, 13), (13, .ifCond .eq 25, 3, 16), (16, .iload_n 3, 1, 17), (17, .ifCond .lt 21, 3, 20), (20, .iload_n 3, 1, 21), (21, .aload_n 0, 1, 22), (22, .getfield 9, 3, 25), (25, .arraylength, 1, 26), (26, .if_icmp .ge 12, 3, 29), (29, .aload_n 0, 1, 30), (30, .getfield 9, 3, 33), (33, .iload_n 3, 1, 34), (34, .laload, 1, 35), (35, .goto 6, 3, 38), (38, .ldc2_w 42, 3, 41), (41, .lreturn, 1, 42)]
def M_W_read : zM := (⟨"CamPieces$Rows", "read", "(II)J"⟩, prog_5_method_7_code, 4, some .long, I_W_read)
def R_W_read : Room := { frames := 3, cells := 0, slots := 0, locals := 64 }
theorem D_W_read : zDec M_W_read := (by decide +kernel : ∀ q ∈ I_W_read, decode prog_5_method_7_code q.1 = .ok (q.2.1, q.2.2.1) ∧ q.1 + q.2.2.1 = q.2.2.2)
theorem C_W_read : zCv M_W_read 2 := ⟨⟨zTB_of 4 (by decide +kernel) rfl, zTB_of 706 (by decide +kernel) rfl, by decide, by decide, by decide +kernel⟩, zTB_of 704 (by decide +kernel) rfl, zTB_of 705 (by decide +kernel) rfl⟩
def I_W_write : List (Nat × Instr × Nat × Nat) := [(0, .iload_n 1, 1, 1), (1, .bipush 30, 2, 3), (3, .imul, 1, 4), (4, .iload_n 2, 1, 5), (5, .iadd, 1, 6), (6, .istore 5, 2, 8), (8, .aload_n 0, 1, 9), (9, .iload_n 1, 1, 10), (10, .iload_n 2, 1, 11), (11, .invokevirtual 38, 3, 14), (14, .ifCond .eq 26, 3, 17), (17, .iload 5, 2, 19), (19, .ifCond .lt 21, 3, 22), (22, .iload 5, 2, 24), (24, .aload_n 0, 1, 25), (25, .getfield 9, 3, 28), (28, .arraylength, 1, 29), (29, .if_icmp .ge 11, 3, 32), (32, .aload_n 0, 1, 33), (33, .getfield 9, 3, 36), (36, .iload 5, 2, 38), (38, .lload_n 3, 1, 39), (39, .lastore, 1, 40), (40, .return_, 1, 41)]
def M_W_write : zM := (⟨"CamPieces$Rows", "write", "(IIJ)V"⟩, prog_5_method_8_code, 6, none, I_W_write)
def R_W_write : Room := { frames := 3, cells := 0, slots := 0, locals := 64 }
theorem D_W_write : zDec M_W_write := (by decide +kernel : ∀ q ∈ I_W_write, decode prog_5_method_8_code q.1 = .ok (q.2.1, q.2.2.1) ∧ q.1 + q.2.2.1 = q.2.2.2)
theorem C_W_write : zCv M_W_write 3 := ⟨⟨zTB_of 4 (by decide +kernel) rfl, zTB_of 689 (by decide +kernel) rfl, by decide, by decide, by decide +kernel⟩, zTB_of 687 (by decide +kernel) rfl, zTB_of 688 (by decide +kernel) rfl⟩
theorem l_W_3 : Cond.methodLink "CamPieces$Rows" 3 ⟨"java/lang/Object", "<init>", "()V"⟩ ∈ zTB := zTB_of 87 (by decide +kernel) rfl
theorem f_W_9 : zF "CamPieces$Rows" 9 3 0 (tyX3 0) true := ⟨_, _, _, _, zck_3, by decide, rfl, rfl, zTB_of 88 (by decide +kernel) rfl⟩
theorem fl_W_9 : Cond.fieldLink "CamPieces$Rows" 9 (TX3 0).1 (TX3 0).2.1 (TX3 0).2.2.1 ∈ zTB := zTB_of 88 (by decide +kernel) rfl
theorem f_W_15 : zF "CamPieces$Rows" 15 3 1 (tyX3 1) true := ⟨_, _, _, _, zck_3, by decide, rfl, rfl, zTB_of 89 (by decide +kernel) rfl⟩
theorem fl_W_15 : Cond.fieldLink "CamPieces$Rows" 15 (TX3 1).1 (TX3 1).2.1 (TX3 1).2.2.1 ∈ zTB := zTB_of 89 (by decide +kernel) rfl
theorem l_W_19 : Cond.methodLink "CamPieces$Rows" 19 ⟨"CamPieces$Rows", "mayHave", "(I)Z"⟩ ∈ zTB := zTB_of 674 (by decide +kernel) rfl
theorem l_W_23 : Cond.methodLinkNest "CamPieces$Rows" 23 ⟨"CamPieces", "pick", "([II)I"⟩ "CamPieces" ∈ zNW := zNW_of 675 (by decide +kernel) rfl
theorem l_W_27 : Cond.methodLink "CamPieces$Rows" 27 ⟨"CamPieces$Rows", "has", "(I)Z"⟩ ∈ zTB := zTB_of 684 (by decide +kernel) rfl
theorem l_W_30 : Cond.methodLinkNest "CamPieces$Rows" 30 ⟨"CamPieces", "store", "([III)V"⟩ "CamPieces" ∈ zNW := zNW_of 852 (by decide +kernel) rfl
theorem l_W_34 : Cond.methodLink "CamPieces$Rows" 34 ⟨"CamPieces$Rows", "write", "(IIJ)V"⟩ ∈ zTB := zTB_of 853 (by decide +kernel) rfl
theorem l_W_38 : Cond.methodLink "CamPieces$Rows" 38 ⟨"CamPieces$Rows", "hasPlace", "(II)Z"⟩ ∈ zTB := zTB_of 690 (by decide +kernel) rfl
theorem k_W_42 : Cond.constantLong "CamPieces$Rows" 42 (-9223372036854775808) ∈ zTB := zTB_of 707 (by decide +kernel) rfl
def I_S_init : List (Nat × Instr × Nat × Nat) := [(0, .aload_n 0, 1, 1), (1, .invokespecial 3, 3, 4), (4, .aload_n 0, 1, 5), (5, .lconst 1, 1, 6), (6, .putfield 9, 3, 9), (9, .aload_n 0, 1, 10), (10, .lconst 0, 1, 11), (11, .putfield 15, 3, 14), (14, .aload_n 0, 1, 15), (15, .lconst 0, 1, 16), (16, .putfield 18, 3, 19), (19, .aload_n 0, 1, 20), (20, .lconst 0, 1, 21), (21, .putfield 21, 3, 24), (24, .aload_n 0, 1, 25), (25, .lconst 0, 1, 26), (26, .putfield 24, 3, 29), (29, .return_, 1, 30)]
def M_S_init : zM := (⟨"CamPieces$Spot", "<init>", "()V"⟩, prog_6_method_1_code, 1, none, I_S_init)
def R_S_init : Room := { frames := 1, cells := 0, slots := 0, locals := 24 }
theorem D_S_init : zDec M_S_init := (by decide +kernel : ∀ q ∈ I_S_init, decode prog_6_method_1_code q.1 = .ok (q.2.1, q.2.2.1) ∧ q.1 + q.2.2.1 = q.2.2.2)
theorem C_S_init : zCi M_S_init 0 := ⟨⟨zTB_of 5 (by decide +kernel) rfl, zTB_of 100 (by decide +kernel) rfl, by decide, by decide, by decide +kernel⟩, zTB_of 99 (by decide +kernel) rfl, rfl, rfl⟩
def I_S_lift : List (Nat × Instr × Nat × Nat) := [(0, .aload_n 0, 1, 1), (1, .getfield 24, 3, 4), (4, .aload_n 0, 1, 5), (5, .getfield 9, 3, 8), (8, .lmul, 1, 9), (9, .aload_n 0, 1, 10), (10, .getfield 15, 3, 13), (13, .ladd, 1, 14), (14, .lreturn, 1, 15)]
def M_S_lift : zM := (⟨"CamPieces$Spot", "lift", "()J"⟩, prog_6_method_2_code, 1, some .long, I_S_lift)
def R_S_lift : Room := { frames := 0, cells := 0, slots := 0, locals := 0 }
theorem D_S_lift : zDec M_S_lift := (by decide +kernel : ∀ q ∈ I_S_lift, decode prog_6_method_2_code q.1 = .ok (q.2.1, q.2.2.1) ∧ q.1 + q.2.2.1 = q.2.2.2)
theorem C_S_lift : zCv M_S_lift 0 := ⟨⟨zTB_of 5 (by decide +kernel) rfl, zTB_of 417 (by decide +kernel) rfl, by decide, by decide, by decide +kernel⟩, zTB_of 415 (by decide +kernel) rfl, zTB_of 416 (by decide +kernel) rfl⟩
def I_S_sampled : List (Nat × Instr × Nat × Nat) := [(0, .aload_n 0, 1, 1), (1, .getfield 9, 3, 4), (4, .lconst 0, 1, 5), (5, .lcmp, 1, 6), (6, .ifCond .le 39, 3, 9), (9, .aload_n 0, 1, 10), (10, .getfield 24, 3, 13), (13, .lload_n 1, 1, 14), (14, .lmul, 1, 15), (15, .ldc2_w 27, 3, 18), (18, .lload_n 1, 1, 19), (19, .lmul, 1, 20), (20, .aload_n 0, 1, 21), (21, .getfield 15, 3, 24), (24, .lmul, 1, 25), (25, .aload_n 0, 1, 26), (26, .getfield 9, 3, 29), (29, .ladd, 1, 30), (30, .ldc2_w 27, 3, 33), (33, .aload_n 0, 1, 34), (34, .getfield 9, 3, 37), (37, .lmul, 1, 38), (38, .invokestatic 29, 3, 41), (41, .ladd, 1, 42), (42, .goto 4, 3, 45), (45, .lconst 0, 1, 46), (46, .lreturn, 1, 47)]
def M_S_sampled : zM := (⟨"CamPieces$Spot", "sampled", "(J)J"⟩, prog_6_method_3_code, 3, some .long, I_S_sampled)
def R_S_sampled : Room := { frames := 1, cells := 0, slots := 0, locals := 25 }
theorem D_S_sampled : zDec M_S_sampled := (by decide +kernel : ∀ q ∈ I_S_sampled, decode prog_6_method_3_code q.1 = .ok (q.2.1, q.2.2.1) ∧ q.1 + q.2.2.1 = q.2.2.2)
theorem C_S_sampled : zCv M_S_sampled 1 := ⟨⟨zTB_of 5 (by decide +kernel) rfl, zTB_of 626 (by decide +kernel) rfl, by decide, by decide, by decide +kernel⟩, zTB_of 624 (by decide +kernel) rfl, zTB_of 625 (by decide +kernel) rfl⟩
def I_S_stand : List (Nat × Instr × Nat × Nat) := [(0, .aload_n 0, 1, 1), (1, .lload 6, 2, 3), (3, .putfield 24, 3, 6), (6, .iload_n 1, 1, 7), (7, .tableswitch 147 1 5 #[33, 49, 82, 123, 135], 33, 40), (40, .aload_n 0, 1, 41), (41, .lload_n 2, 1, 42), (42, .lload 4, 2, 44), (44, .lload 8, 2, 46), (46, .lmul, 1, 47), (47, .lload 4, 2, 49), (49, .lconst 0, 1, 50), (50, .invokevirtual 35, 3, 53), (53, .goto 109, 3, 56), (56, .aload_n 0, 1, 57), (57, .lload_n 2, 1, 58), (58, .lload_n 2, 1, 59), (59, .lmul, 1, 60), (60, .lload 4, 2, 62), (62, .lload 8, 2, 64), (64, .lmul, 1, 65), (65, .lload 8, 2, 67), (67, .lmul, 1, 68), (68, .ldc2_w 27, 3, 71), (71, .lload 4, 2, 73), (73, .lmul, 1, 74), (74, .lload 8, 2, 76), (76, .lmul, 1, 77), (77, .ldc2_w 27, 3, 80), (80, .lload 4, 2, 82), (82, .lmul, 1, 83), (83, .invokevirtual 35, 3, 86), (86, .goto 76, 3, 89), (89, .aload_n 0, 1, 90), (90, .lload_n 2, 1, 91), (91, .lload_n 2, 1, 92), (92, .lmul, 1, 93), (93, .lload 4, 2, 95), (95, .lload 8, 2, 97), (97, .lmul, 1, 98), (98, .ldc2_w 27, 3, 101), (101, .lload_n 2, 1, 102), (102, .lmul, 1, 103), (103, .lload 8, 2, 105), (105, .lsub, 1, 106), (106, .lmul, 1, 107), (107, .ldc2_w 27, 3, 110), (110, .lload 4, 2, 112), (112, .lmul, 1, 113), (113, .lload_n 2, 1, 114), (114, .lload 8, 2, 116), (116, .lsub, 1, 117), (117, .lmul, 1, 118), (118, .ldc2_w 39, 3, 121), (121, .lload 4, 2, 123), (123, .lmul, 1, 124), (124, .invokevirtual 35, 3, 127), (127, .goto 35, 3, 130), (130, .aload_n 0, 1, 131), (131, .lload_n 2, 1, 132), (132, .lload 4, 2, 134), (134, .lload 8, 2, 136), (136, .invokevirtual 41, 3, 139), (139, .goto 23, 3, 142), (142, .aload_n 0, 1, 143), (143, .lload_n 2, 1, 144), (144, .lload 4, 2, 146), (146, .lload 8, 2, 148), (148, .invokevirtual 45, 3, 151), (151, .goto 11, 3, 154), (154, .aload_n 0, 1, 155), (155, .lconst 1, 1, 156), (156, .lconst 0, 1, 157), (157, .lconst 0, 1, 158), (158, .lconst 0, 1, 159), (159, .invokevirtual 35, 3, 162), (162, .return_, 1, 163)]
def M_S_stand : zM := (⟨"CamPieces$Spot", "stand", "(IJJJJ)V"⟩, prog_6_method_4_code, 10, none, I_S_stand)
def R_S_stand : Room := { frames := 2, cells := 0, slots := 0, locals := 58 }
theorem D_S_stand : zDec M_S_stand := (by decide +kernel : ∀ q ∈ I_S_stand, decode prog_6_method_4_code q.1 = .ok (q.2.1, q.2.2.1) ∧ q.1 + q.2.2.1 = q.2.2.2)
theorem C_S_stand : zCv M_S_stand 5 := ⟨⟨zTB_of 5 (by decide +kernel) rfl, zTB_of 392 (by decide +kernel) rfl, by decide, by decide, by decide +kernel⟩, zTB_of 390 (by decide +kernel) rfl, zTB_of 391 (by decide +kernel) rfl⟩
def I_S_standInCubic : List (Nat × Instr × Nat × Nat) := [(0, .aload_n 0, 1, 1), (1, .lload_n 1, 1, 2), (2, .lload_n 1, 1, 3), (3, .lmul, 1, 4), (4, .lload_n 1, 1, 5), (5, .lmul, 1, 6), (6, .lload_n 3, 1, 7), (7, .lload 5, 2, 9), (9, .lmul, 1, 10), (10, .lload 5, 2, 12), (12, .lmul, 1, 13), (13, .ldc2_w 48, 3, 16), (16, .lload_n 1, 1, 17), (17, .lmul, 1, 18), (18, .ldc2_w 27, 3, 21), (21, .lload 5, 2, 23), (23, .lmul, 1, 24), (24, .lsub, 1, 25), (25, .lmul, 1, 26), (26, .ldc2_w 50, 3, 29), (29, .lload_n 3, 1, 30), (30, .lmul, 1, 31), (31, .lload 5, 2, 33), (33, .lmul, 1, 34), (34, .lload_n 1, 1, 35), (35, .lload 5, 2, 37), (37, .lsub, 1, 38), (38, .lmul, 1, 39), (39, .ldc2_w 50, 3, 42), (42, .lload_n 3, 1, 43), (43, .lmul, 1, 44), (44, .lload_n 1, 1, 45), (45, .ldc2_w 27, 3, 48), (48, .lload 5, 2, 50), (50, .lmul, 1, 51), (51, .lsub, 1, 52), (52, .lmul, 1, 53), (53, .invokevirtual 35, 3, 56), (56, .return_, 1, 57)]
def M_S_standInCubic : zM := (⟨"CamPieces$Spot", "standInCubic", "(JJJ)V"⟩, prog_6_method_5_code, 7, none, I_S_standInCubic)
def R_S_standInCubic : Room := { frames := 1, cells := 0, slots := 0, locals := 28 }
theorem D_S_standInCubic : zDec M_S_standInCubic := (by decide +kernel : ∀ q ∈ I_S_standInCubic, decode prog_6_method_5_code q.1 = .ok (q.2.1, q.2.2.1) ∧ q.1 + q.2.2.1 = q.2.2.2)
theorem C_S_standInCubic : zCv M_S_standInCubic 3 := ⟨⟨zTB_of 5 (by decide +kernel) rfl, zTB_of 402 (by decide +kernel) rfl, by decide, by decide, by decide +kernel⟩, zTB_of 401 (by decide +kernel) rfl, zTB_ofS 3 (by decide +kernel) rfl⟩
def I_S_standInQuintic : List (Nat × Instr × Nat × Nat) := [(0, .lload_n 1, 1, 1), (1, .lload_n 1, 1, 2), (2, .lmul, 1, 3), (3, .lstore 7, 2, 5), (5, .lload_n 1, 1, 6), (6, .lload 5, 2, 8), (8, .lsub, 1, 9), (9, .lstore 9, 2, 11), (11, .aload_n 0, 1, 12), (12, .lload 7, 2, 14), (14, .lload 7, 2, 16), (16, .lmul, 1, 17), (17, .lload_n 1, 1, 18), (18, .lmul, 1, 19), (19, .lload_n 3, 1, 20), (20, .lload 5, 2, 22), (22, .lmul, 1, 23), (23, .lload 5, 2, 25), (25, .lmul, 1, 26), (26, .lload 5, 2, 28), (28, .lmul, 1, 29), (29, .ldc2_w 52, 3, 32), (32, .lload 7, 2, 34), (34, .lmul, 1, 35), (35, .ldc2_w 54, 3, 38), (38, .lload 5, 2, 40), (40, .lmul, 1, 41), (41, .lload_n 1, 1, 42), (42, .lmul, 1, 43), (43, .lsub, 1, 44), (44, .ldc2_w 50, 3, 47), (47, .lload 5, 2, 49), (49, .lmul, 1, 50), (50, .lload 5, 2, 52), (52, .lmul, 1, 53), (53, .ladd, 1, 54), (54, .lmul, 1, 55), (55, .ldc2_w 56, 3, 58), (58, .lload_n 3, 1, 59), (59, .lmul, 1, 60), (60, .lload 5, 2, 62), (62, .lmul, 1, 63), (63, .lload 5, 2, 65), (65, .lmul, 1, 66), (66, .lload 9, 2, 68), (68, .lmul, 1, 69), (69, .lload 9, 2, 71), (71, .lmul, 1, 72), (72, .ldc2_w 58, 3, 75), (75, .lload_n 3, 1, 76), (76, .lmul, 1, 77), (77, .lload 5, 2, 79), (79, .lmul, 1, 80), (80, .lload 9, 2, 82), (82, .lmul, 1, 83), (83, .lload 9, 2, 85), (85, .lload 5, 2, 87), (87, .lsub, 1, 88), (88, .lmul, 1, 89), (89, .invokevirtual 35, 3, 92), (92, .return_, 1, 93)]
def M_S_standInQuintic : zM := (⟨"CamPieces$Spot", "standInQuintic", "(JJJ)V"⟩, prog_6_method_6_code, 11, none, I_S_standInQuintic)
def R_S_standInQuintic : Room := { frames := 1, cells := 0, slots := 0, locals := 28 }
theorem D_S_standInQuintic : zDec M_S_standInQuintic := (by decide +kernel : ∀ q ∈ I_S_standInQuintic, decode prog_6_method_6_code q.1 = .ok (q.2.1, q.2.2.1) ∧ q.1 + q.2.2.1 = q.2.2.2)
theorem C_S_standInQuintic : zCv M_S_standInQuintic 3 := ⟨⟨zTB_of 5 (by decide +kernel) rfl, zTB_of 408 (by decide +kernel) rfl, by decide, by decide, by decide +kernel⟩, zTB_of 407 (by decide +kernel) rfl, zTB_ofS 4 (by decide +kernel) rfl⟩
def I_S_write : List (Nat × Instr × Nat × Nat) := [(0, .aload_n 0, 1, 1), (1, .lload_n 1, 1, 2), (2, .putfield 9, 3, 5), (5, .aload_n 0, 1, 6), (6, .lload_n 3, 1, 7), (7, .putfield 15, 3, 10), (10, .aload_n 0, 1, 11), (11, .lload 5, 2, 13), (13, .putfield 18, 3, 16), (16, .aload_n 0, 1, 17), (17, .lload 7, 2, 19), (19, .putfield 21, 3, 22), (22, .return_, 1, 23)]
def M_S_write : zM := (⟨"CamPieces$Spot", "write", "(JJJJ)V"⟩, prog_6_method_7_code, 9, none, I_S_write)
def R_S_write : Room := { frames := 0, cells := 0, slots := 0, locals := 0 }
theorem D_S_write : zDec M_S_write := (by decide +kernel : ∀ q ∈ I_S_write, decode prog_6_method_7_code q.1 = .ok (q.2.1, q.2.2.1) ∧ q.1 + q.2.2.1 = q.2.2.2)
theorem C_S_write : zCv M_S_write 4 := ⟨⟨zTB_of 5 (by decide +kernel) rfl, zTB_of 396 (by decide +kernel) rfl, by decide, by decide, by decide +kernel⟩, zTB_of 395 (by decide +kernel) rfl, zTB_ofS 2 (by decide +kernel) rfl⟩
theorem l_S_3 : Cond.methodLink "CamPieces$Spot" 3 ⟨"java/lang/Object", "<init>", "()V"⟩ ∈ zTB := zTB_of 101 (by decide +kernel) rfl
theorem f_S_9 : zF "CamPieces$Spot" 9 4 0 (tyX4 0) false := ⟨_, _, _, _, zck_4, by decide, rfl, rfl, zTB_of 102 (by decide +kernel) rfl⟩
theorem f_S_15 : zF "CamPieces$Spot" 15 4 1 (tyX4 1) false := ⟨_, _, _, _, zck_4, by decide, rfl, rfl, zTB_of 104 (by decide +kernel) rfl⟩
theorem f_S_18 : zF "CamPieces$Spot" 18 4 2 (tyX4 2) false := ⟨_, _, _, _, zck_4, by decide, rfl, rfl, zTB_of 105 (by decide +kernel) rfl⟩
theorem f_S_21 : zF "CamPieces$Spot" 21 4 3 (tyX4 3) false := ⟨_, _, _, _, zck_4, by decide, rfl, rfl, zTB_of 107 (by decide +kernel) rfl⟩
theorem f_S_24 : zF "CamPieces$Spot" 24 4 4 (tyX4 4) false := ⟨_, _, _, _, zck_4, by decide, rfl, rfl, zTB_of 109 (by decide +kernel) rfl⟩
theorem k_S_27 : Cond.constantLong "CamPieces$Spot" 27 (2) ∈ zTB := zTB_of 397 (by decide +kernel) rfl
theorem l_S_29 : Cond.methodLink "CamPieces$Spot" 29 ⟨"java/lang/Math", "floorDiv", "(JJ)J"⟩ ∈ zTB := zTB_of 627 (by decide +kernel) rfl
theorem l_S_35 : Cond.methodLink "CamPieces$Spot" 35 ⟨"CamPieces$Spot", "write", "(JJJJ)V"⟩ ∈ zTB := zTB_of 393 (by decide +kernel) rfl
theorem k_S_39 : Cond.constantLong "CamPieces$Spot" 39 (-2) ∈ zTB := zTB_of 398 (by decide +kernel) rfl
theorem l_S_41 : Cond.methodLink "CamPieces$Spot" 41 ⟨"CamPieces$Spot", "standInCubic", "(JJJ)V"⟩ ∈ zTB := zTB_of 399 (by decide +kernel) rfl
theorem l_S_45 : Cond.methodLink "CamPieces$Spot" 45 ⟨"CamPieces$Spot", "standInQuintic", "(JJJ)V"⟩ ∈ zTB := zTB_of 405 (by decide +kernel) rfl
theorem k_S_48 : Cond.constantLong "CamPieces$Spot" 48 (3) ∈ zTB := zTB_of 403 (by decide +kernel) rfl
theorem k_S_50 : Cond.constantLong "CamPieces$Spot" 50 (6) ∈ zTB := zTB_of 404 (by decide +kernel) rfl
theorem k_S_52 : Cond.constantLong "CamPieces$Spot" 52 (10) ∈ zTB := zTB_of 409 (by decide +kernel) rfl
theorem k_S_54 : Cond.constantLong "CamPieces$Spot" 54 (15) ∈ zTB := zTB_of 410 (by decide +kernel) rfl
theorem k_S_56 : Cond.constantLong "CamPieces$Spot" 56 (30) ∈ zTB := zTB_of 411 (by decide +kernel) rfl
theorem k_S_58 : Cond.constantLong "CamPieces$Spot" 58 (60) ∈ zTB := zTB_of 412 (by decide +kernel) rfl
def I_T_init : List (Nat × Instr × Nat × Nat) := [(0, .aload_n 0, 1, 1), (1, .invokespecial 3, 3, 4), (4, .aload_n 0, 1, 5), (5, .bipush 12, 2, 7), (7, .newarray .int, 2, 9), (9, .putfield 9, 3, 12), (12, .aload_n 0, 1, 13), (13, .bipush 12, 2, 15), (15, .newarray .int, 2, 17), (17, .putfield 15, 3, 20), (20, .aload_n 0, 1, 21), (21, .bipush 12, 2, 23), (23, .newarray .int, 2, 25), (25, .putfield 18, 3, 28), (28, .aload_n 0, 1, 29), (29, .iconst 0, 1, 30), (30, .putfield 21, 3, 33), (33, .return_, 1, 34)]
def M_T_init : zM := (⟨"CamPieces$Train", "<init>", "()V"⟩, prog_7_method_1_code, 1, none, I_T_init)
def R_T_init : Room := { frames := 1, cells := 3, slots := 36, locals := 24 }
theorem D_T_init : zDec M_T_init := (by decide +kernel : ∀ q ∈ I_T_init, decode prog_7_method_1_code q.1 = .ok (q.2.1, q.2.2.1) ∧ q.1 + q.2.2.1 = q.2.2.2)
theorem C_T_init : zCi M_T_init 0 := ⟨⟨zTB_of 2 (by decide +kernel) rfl, zTB_of 29 (by decide +kernel) rfl, by decide, by decide, by decide +kernel⟩, zTB_of 28 (by decide +kernel) rfl, rfl, rfl⟩
def I_T_size : List (Nat × Instr × Nat × Nat) := [(0, .aload_n 0, 1, 1), (1, .getfield 21, 3, 4), (4, .ireturn, 1, 5)]
def M_T_size : zM := (⟨"CamPieces$Train", "size", "()I"⟩, prog_7_method_2_code, 1, some .int, I_T_size)
def R_T_size : Room := { frames := 0, cells := 0, slots := 0, locals := 0 }
theorem D_T_size : zDec M_T_size := (by decide +kernel : ∀ q ∈ I_T_size, decode prog_7_method_2_code q.1 = .ok (q.2.1, q.2.2.1) ∧ q.1 + q.2.2.1 = q.2.2.2)
theorem C_T_size : zCv M_T_size 0 := ⟨⟨zTB_of 2 (by decide +kernel) rfl, zTB_of 271 (by decide +kernel) rfl, by decide, by decide, by decide +kernel⟩, zTB_of 269 (by decide +kernel) rfl, zTB_of 270 (by decide +kernel) rfl⟩
def I_T_isFull : List (Nat × Instr × Nat × Nat) := [(0, .aload_n 0, 1, 1), (1, .getfield 21, 3, 4), (4, .bipush 12, 2, 6), (6, .if_icmp .lt 7, 3, 9), (9, .iconst 1, 1, 10), (10, .goto 4, 3, 13), (13, .iconst 0, 1, 14), (14, .ireturn, 1, 15)]
def M_T_isFull : zM := (⟨"CamPieces$Train", "isFull", "()Z"⟩, prog_7_method_3_code, 1, some .boolean, I_T_isFull)
def R_T_isFull : Room := { frames := 0, cells := 0, slots := 0, locals := 0 }
theorem D_T_isFull : zDec M_T_isFull := (by decide +kernel : ∀ q ∈ I_T_isFull, decode prog_7_method_3_code q.1 = .ok (q.2.1, q.2.2.1) ∧ q.1 + q.2.2.1 = q.2.2.2)
theorem C_T_isFull : zCv M_T_isFull 0 := ⟨⟨zTB_of 2 (by decide +kernel) rfl, zTB_of 245 (by decide +kernel) rfl, by decide, by decide, by decide +kernel⟩, zTB_of 243 (by decide +kernel) rfl, zTB_of 244 (by decide +kernel) rfl⟩
def I_T_has : List (Nat × Instr × Nat × Nat) := [(0, .iload_n 1, 1, 1), (1, .ifCond .lt 15, 3, 4), (4, .iload_n 1, 1, 5), (5, .aload_n 0, 1, 6), (6, .getfield 21, 3, 9), (9, .if_icmp .ge 7, 3, 12), (12, .iconst 1, 1, 13), (13, .goto 4, 3, 16), (16, .iconst 0, 1, 17), (17, .ireturn, 1, 18)]
def M_T_has : zM := (⟨"CamPieces$Train", "has", "(I)Z"⟩, prog_7_method_4_code, 2, some .boolean, I_T_has)
def R_T_has : Room := { frames := 0, cells := 0, slots := 0, locals := 0 }
theorem D_T_has : zDec M_T_has := (by decide +kernel : ∀ q ∈ I_T_has, decode prog_7_method_4_code q.1 = .ok (q.2.1, q.2.2.1) ∧ q.1 + q.2.2.1 = q.2.2.2)
theorem C_T_has : zCv M_T_has 1 := ⟨⟨zTB_of 2 (by decide +kernel) rfl, zTB_of 287 (by decide +kernel) rfl, by decide, by decide, by decide +kernel⟩, zTB_of 285 (by decide +kernel) rfl, zTB_of 286 (by decide +kernel) rfl⟩
def I_T_kindOf : List (Nat × Instr × Nat × Nat) := [(0, .iload_n 1, 1, 1), (1, .ifCond .lt 21, 3, 4), (4, .iload_n 1, 1, 5), (5, .aload_n 0, 1, 6), (6, .getfield 9, 3, 9), (9, .arraylength, 1, 10), (10, .if_icmp .ge 12, 3, 13), (13, .aload_n 0, 1, 14), (14, .getfield 9, 3, 17), (17, .iload_n 1, 1, 18), (18, .iaload, 1, 19), (19, .goto 4, 3, 22), (22, .iconst 0, 1, 23), (23, .ireturn, 1, 24)]
def M_T_kindOf : zM := (⟨"CamPieces$Train", "kindOf", "(I)I"⟩, prog_7_method_5_code, 2, some .int, I_T_kindOf)
def R_T_kindOf : Room := { frames := 0, cells := 0, slots := 0, locals := 0 }
theorem D_T_kindOf : zDec M_T_kindOf := (by decide +kernel : ∀ q ∈ I_T_kindOf, decode prog_7_method_5_code q.1 = .ok (q.2.1, q.2.2.1) ∧ q.1 + q.2.2.1 = q.2.2.2)
theorem C_T_kindOf : zCv M_T_kindOf 1 := ⟨⟨zTB_of 2 (by decide +kernel) rfl, zTB_of 291 (by decide +kernel) rfl, by decide, by decide, by decide +kernel⟩, zTB_of 289 (by decide +kernel) rfl, zTB_of 290 (by decide +kernel) rfl⟩
def I_T_longOf : List (Nat × Instr × Nat × Nat) := [(0, .iload_n 1, 1, 1), (1, .ifCond .lt 21, 3, 4), (4, .iload_n 1, 1, 5), (5, .aload_n 0, 1, 6), (6, .getfield 15, 3, 9), (9, .arraylength, 1, 10), (10, .if_icmp .ge 12, 3, 13), (13, .aload_n 0, 1, 14), (14, .getfield 15, 3, 17), (17, .iload_n 1, 1, 18), (18, .iaload, 1, 19), (19, .goto 4, 3, 22), (22, .iconst 0, 1, 23), (23, .ireturn, 1, 24)]
def M_T_longOf : zM := (⟨"CamPieces$Train", "longOf", "(I)I"⟩, prog_7_method_6_code, 2, some .int, I_T_longOf)
def R_T_longOf : Room := { frames := 0, cells := 0, slots := 0, locals := 0 }
theorem D_T_longOf : zDec M_T_longOf := (by decide +kernel : ∀ q ∈ I_T_longOf, decode prog_7_method_6_code q.1 = .ok (q.2.1, q.2.2.1) ∧ q.1 + q.2.2.1 = q.2.2.2)
theorem C_T_longOf : zCv M_T_longOf 1 := ⟨⟨zTB_of 2 (by decide +kernel) rfl, zTB_of 257 (by decide +kernel) rfl, by decide, by decide, by decide +kernel⟩, zTB_of 255 (by decide +kernel) rfl, zTB_of 256 (by decide +kernel) rfl⟩
def I_T_riseOf : List (Nat × Instr × Nat × Nat) := [(0, .iload_n 1, 1, 1), (1, .ifCond .lt 21, 3, 4), (4, .iload_n 1, 1, 5), (5, .aload_n 0, 1, 6), (6, .getfield 18, 3, 9), (9, .arraylength, 1, 10), (10, .if_icmp .ge 12, 3, 13), (13, .aload_n 0, 1, 14), (14, .getfield 18, 3, 17), (17, .iload_n 1, 1, 18), (18, .iaload, 1, 19), (19, .goto 4, 3, 22), (22, .iconst 0, 1, 23), (23, .ireturn, 1, 24)]
def M_T_riseOf : zM := (⟨"CamPieces$Train", "riseOf", "(I)I"⟩, prog_7_method_7_code, 2, some .int, I_T_riseOf)
def R_T_riseOf : Room := { frames := 0, cells := 0, slots := 0, locals := 0 }
theorem D_T_riseOf : zDec M_T_riseOf := (by decide +kernel : ∀ q ∈ I_T_riseOf, decode prog_7_method_7_code q.1 = .ok (q.2.1, q.2.2.1) ∧ q.1 + q.2.2.1 = q.2.2.2)
theorem C_T_riseOf : zCv M_T_riseOf 1 := ⟨⟨zTB_of 2 (by decide +kernel) rfl, zTB_of 296 (by decide +kernel) rfl, by decide, by decide, by decide +kernel⟩, zTB_of 294 (by decide +kernel) rfl, zTB_of 295 (by decide +kernel) rfl⟩
def I_T_partOf : List (Nat × Instr × Nat × Nat) := [(0, .iload_n 2, 1, 1), (1, .ifCond .ne 11, 3, 4), (4, .aload_n 0, 1, 5), (5, .iload_n 1, 1, 6), (6, .invokevirtual 25, 3, 9), (9, .goto 21, 3, 12), (12, .iload_n 2, 1, 13), (13, .iconst 1, 1, 14), (14, .if_icmp .ne 11, 3, 17), (17, .aload_n 0, 1, 18), (18, .iload_n 1, 1, 19), (19, .invokevirtual 29, 3, 22), (22, .goto 8, 3, 25), (25, .aload_n 0, 1, 26), (26, .iload_n 1, 1, 27), (27, .invokevirtual 32, 3, 30), (30, .ireturn, 1, 31)]
def M_T_partOf : zM := (⟨"CamPieces$Train", "partOf", "(II)I"⟩, prog_7_method_8_code, 3, some .int, I_T_partOf)
def R_T_partOf : Room := { frames := 1, cells := 0, slots := 0, locals := 21 }
theorem D_T_partOf : zDec M_T_partOf := (by decide +kernel : ∀ q ∈ I_T_partOf, decode prog_7_method_8_code q.1 = .ok (q.2.1, q.2.2.1) ∧ q.1 + q.2.2.1 = q.2.2.2)
theorem C_T_partOf : zCv M_T_partOf 2 := ⟨⟨zTB_of 2 (by decide +kernel) rfl, zTB_of 300 (by decide +kernel) rfl, by decide, by decide, by decide +kernel⟩, zTB_of 298 (by decide +kernel) rfl, zTB_of 299 (by decide +kernel) rfl⟩
def I_T_beginOf : List (Nat × Instr × Nat × Nat) := [(0, .iconst 0, 1, 1), (1, .istore_n 2, 1, 2), (2, .iconst 0, 1, 3), (3, .istore_n 3, 1, 4), (4, .iload_n 3, 1, 5), (5, .iload_n 1, 1, 6), (6, .if_icmp .ge 25, 3, 9), (9, .iload_n 3, 1, 10), (10, .aload_n 0, 1, 11), (11, .getfield 21, 3, 14), (14, .if_icmp .ge 17, 3, 17), (17, .iload_n 2, 1, 18), (18, .aload_n 0, 1, 19), (19, .iload_n 3, 1, 20), (20, .invokevirtual 29, 3, 23), (23, .iadd, 1, 24), (24, .istore_n 2, 1, 25), (25, .iinc 3 1, 3, 28), (28, .goto (-24), 3, 31), (31, .iload_n 2, 1, 32), (32, .ireturn, 1, 33)]
def M_T_beginOf : zM := (⟨"CamPieces$Train", "beginOf", "(I)I"⟩, prog_7_method_9_code, 4, some .int, I_T_beginOf)
def R_T_beginOf : Room := { frames := 1, cells := 0, slots := 0, locals := 21 }
theorem D_T_beginOf : zDec M_T_beginOf := (by decide +kernel : ∀ q ∈ I_T_beginOf, decode prog_7_method_9_code q.1 = .ok (q.2.1, q.2.2.1) ∧ q.1 + q.2.2.1 = q.2.2.2)
theorem C_T_beginOf : zCv M_T_beginOf 1 := ⟨⟨zTB_of 2 (by decide +kernel) rfl, zTB_of 253 (by decide +kernel) rfl, by decide, by decide, by decide +kernel⟩, zTB_of 251 (by decide +kernel) rfl, zTB_of 252 (by decide +kernel) rfl⟩
def I_T_liftOf : List (Nat × Instr × Nat × Nat) := [(0, .iconst 0, 1, 1), (1, .istore_n 2, 1, 2), (2, .iconst 0, 1, 3), (3, .istore_n 3, 1, 4), (4, .iload_n 3, 1, 5), (5, .iload_n 1, 1, 6), (6, .if_icmp .ge 25, 3, 9), (9, .iload_n 3, 1, 10), (10, .aload_n 0, 1, 11), (11, .getfield 21, 3, 14), (14, .if_icmp .ge 17, 3, 17), (17, .iload_n 2, 1, 18), (18, .aload_n 0, 1, 19), (19, .iload_n 3, 1, 20), (20, .invokevirtual 32, 3, 23), (23, .iadd, 1, 24), (24, .istore_n 2, 1, 25), (25, .iinc 3 1, 3, 28), (28, .goto (-24), 3, 31), (31, .iload_n 2, 1, 32), (32, .ireturn, 1, 33)]
def M_T_liftOf : zM := (⟨"CamPieces$Train", "liftOf", "(I)I"⟩, prog_7_method_10_code, 4, some .int, I_T_liftOf)
def R_T_liftOf : Room := { frames := 1, cells := 0, slots := 0, locals := 21 }
theorem D_T_liftOf : zDec M_T_liftOf := (by decide +kernel : ∀ q ∈ I_T_liftOf, decode prog_7_method_10_code q.1 = .ok (q.2.1, q.2.2.1) ∧ q.1 + q.2.2.1 = q.2.2.2)
theorem C_T_liftOf : zCv M_T_liftOf 1 := ⟨⟨zTB_of 2 (by decide +kernel) rfl, zTB_of 312 (by decide +kernel) rfl, by decide, by decide, by decide +kernel⟩, zTB_of 310 (by decide +kernel) rfl, zTB_of 311 (by decide +kernel) rfl⟩
def I_T_total : List (Nat × Instr × Nat × Nat) := [(0, .aload_n 0, 1, 1), (1, .aload_n 0, 1, 2), (2, .getfield 21, 3, 5), (5, .invokevirtual 35, 3, 8), (8, .ireturn, 1, 9)]
def M_T_total : zM := (⟨"CamPieces$Train", "total", "()I"⟩, prog_7_method_11_code, 1, some .int, I_T_total)
def R_T_total : Room := { frames := 2, cells := 0, slots := 0, locals := 44 }
theorem D_T_total : zDec M_T_total := (by decide +kernel : ∀ q ∈ I_T_total, decode prog_7_method_11_code q.1 = .ok (q.2.1, q.2.2.1) ∧ q.1 + q.2.2.1 = q.2.2.2)
theorem C_T_total : zCv M_T_total 0 := ⟨⟨zTB_of 2 (by decide +kernel) rfl, zTB_of 249 (by decide +kernel) rfl, by decide, by decide, by decide +kernel⟩, zTB_of 247 (by decide +kernel) rfl, zTB_of 248 (by decide +kernel) rfl⟩
def I_T_isClosed : List (Nat × Instr × Nat × Nat) := [(0, .aload_n 0, 1, 1), (1, .invokevirtual 38, 3, 4), (4, .sipush 360, 3, 7), (7, .if_icmp .ne 18, 3, 10), (10, .aload_n 0, 1, 11), (11, .aload_n 0, 1, 12), (12, .getfield 21, 3, 15), (15, .invokevirtual 42, 3, 18), (18, .ifCond .ne 7, 3, 21), (21, .iconst 1, 1, 22), (22, .goto 4, 3, 25), (25, .iconst 0, 1, 26), (26, .ireturn, 1, 27)]
def M_T_isClosed : zM := (⟨"CamPieces$Train", "isClosed", "()Z"⟩, prog_7_method_12_code, 1, some .boolean, I_T_isClosed)
def R_T_isClosed : Room := { frames := 3, cells := 0, slots := 0, locals := 64 }
theorem D_T_isClosed : zDec M_T_isClosed := (by decide +kernel : ∀ q ∈ I_T_isClosed, decode prog_7_method_12_code q.1 = .ok (q.2.1, q.2.2.1) ∧ q.1 + q.2.2.1 = q.2.2.2)
theorem C_T_isClosed : zCv M_T_isClosed 0 := ⟨⟨zTB_of 2 (by decide +kernel) rfl, zTB_of 328 (by decide +kernel) rfl, by decide, by decide, by decide +kernel⟩, zTB_of 326 (by decide +kernel) rfl, zTB_of 327 (by decide +kernel) rfl⟩
def I_T_empty : List (Nat × Instr × Nat × Nat) := [(0, .aload_n 0, 1, 1), (1, .iconst 0, 1, 2), (2, .putfield 21, 3, 5), (5, .return_, 1, 6)]
def M_T_empty : zM := (⟨"CamPieces$Train", "empty", "()V"⟩, prog_7_method_13_code, 1, none, I_T_empty)
def R_T_empty : Room := { frames := 0, cells := 0, slots := 0, locals := 0 }
theorem D_T_empty : zDec M_T_empty := (by decide +kernel : ∀ q ∈ I_T_empty, decode prog_7_method_13_code q.1 = .ok (q.2.1, q.2.2.1) ∧ q.1 + q.2.2.1 = q.2.2.2)
theorem C_T_empty : zCv M_T_empty 0 := ⟨⟨zTB_of 2 (by decide +kernel) rfl, zTB_of 736 (by decide +kernel) rfl, by decide, by decide, by decide +kernel⟩, zTB_of 734 (by decide +kernel) rfl, zTB_of 735 (by decide +kernel) rfl⟩
def I_T_append : List (Nat × Instr × Nat × Nat) := [(0, .aload_n 0, 1, 1), (1, .invokevirtual 45, 3, 4), (4, .ifCond .eq 4, 3, 7), (7, .return_, 1, 8), (8, .aload_n 0, 1, 9), (9, .aload_n 0, 1, 10), (10, .getfield 21, 3, 13), (13, .iload_n 1, 1, 14), (14, .iload_n 2, 1, 15), (15, .iload_n 3, 1, 16), (16, .invokevirtual 49, 3, 19), (19, .aload_n 0, 1, 20), (20, .dup, 1, 21), (21, .getfield 21, 3, 24), (24, .iconst 1, 1, 25), (25, .iadd, 1, 26), (26, .putfield 21, 3, 29), (29, .return_, 1, 30)]
def M_T_append : zM := (⟨"CamPieces$Train", "append", "(III)V"⟩, prog_7_method_14_code, 4, none, I_T_append)
def R_T_append : Room := { frames := 2, cells := 0, slots := 0, locals := 46 }
theorem D_T_append : zDec M_T_append := (by decide +kernel : ∀ q ∈ I_T_append, decode prog_7_method_14_code q.1 = .ok (q.2.1, q.2.2.1) ∧ q.1 + q.2.2.1 = q.2.2.2)
theorem C_T_append : zCv M_T_append 3 := ⟨⟨zTB_of 2 (by decide +kernel) rfl, zTB_of 261 (by decide +kernel) rfl, by decide, by decide, by decide +kernel⟩, zTB_of 259 (by decide +kernel) rfl, zTB_of 260 (by decide +kernel) rfl⟩
def I_T_shorten : List (Nat × Instr × Nat × Nat) := [(0, .aload_n 0, 1, 1), (1, .getfield 21, 3, 4), (4, .ifCond .le 13, 3, 7), (7, .aload_n 0, 1, 8), (8, .dup, 1, 9), (9, .getfield 21, 3, 12), (12, .iconst 1, 1, 13), (13, .isub, 1, 14), (14, .putfield 21, 3, 17), (17, .return_, 1, 18)]
def M_T_shorten : zM := (⟨"CamPieces$Train", "shorten", "()V"⟩, prog_7_method_15_code, 1, none, I_T_shorten)
def R_T_shorten : Room := { frames := 0, cells := 0, slots := 0, locals := 0 }
theorem D_T_shorten : zDec M_T_shorten := (by decide +kernel : ∀ q ∈ I_T_shorten, decode prog_7_method_15_code q.1 = .ok (q.2.1, q.2.2.1) ∧ q.1 + q.2.2.1 = q.2.2.2)
theorem C_T_shorten : zCv M_T_shorten 0 := ⟨⟨zTB_of 2 (by decide +kernel) rfl, zTB_of 279 (by decide +kernel) rfl, by decide, by decide, by decide +kernel⟩, zTB_of 277 (by decide +kernel) rfl, zTB_of 278 (by decide +kernel) rfl⟩
def I_T_write : List (Nat × Instr × Nat × Nat) := [(0, .aload_n 0, 1, 1), (1, .getfield 9, 3, 4), (4, .iload_n 1, 1, 5), (5, .iload_n 2, 1, 6), (6, .invokestatic 53, 3, 9), (9, .aload_n 0, 1, 10), (10, .getfield 15, 3, 13), (13, .iload_n 1, 1, 14), (14, .iload_n 3, 1, 15), (15, .invokestatic 53, 3, 18), (18, .aload_n 0, 1, 19), (19, .getfield 18, 3, 22), (22, .iload_n 1, 1, 23), (23, .iload 4, 2, 25), (25, .invokestatic 53, 3, 28), (28, .return_, 1, 29)]
def M_T_write : zM := (⟨"CamPieces$Train", "write", "(IIII)V"⟩, prog_7_method_16_code, 5, none, I_T_write)
def R_T_write : Room := { frames := 1, cells := 0, slots := 0, locals := 22 }
theorem D_T_write : zDec M_T_write := (by decide +kernel : ∀ q ∈ I_T_write, decode prog_7_method_16_code q.1 = .ok (q.2.1, q.2.2.1) ∧ q.1 + q.2.2.1 = q.2.2.2)
theorem C_T_write : zCv M_T_write 4 := ⟨⟨zTB_of 2 (by decide +kernel) rfl, zTB_of 266 (by decide +kernel) rfl, by decide, by decide, by decide +kernel⟩, zTB_of 264 (by decide +kernel) rfl, zTB_of 265 (by decide +kernel) rfl⟩
def I_T_become : List (Nat × Instr × Nat × Nat) := [(0, .aload_n 1, 1, 1), (1, .getfield 9, 3, 4), (4, .aload_n 0, 1, 5), (5, .getfield 9, 3, 8), (8, .invokestatic 57, 3, 11), (11, .aload_n 1, 1, 12), (12, .getfield 15, 3, 15), (15, .aload_n 0, 1, 16), (16, .getfield 15, 3, 19), (19, .invokestatic 57, 3, 22), (22, .aload_n 1, 1, 23), (23, .getfield 18, 3, 26), (26, .aload_n 0, 1, 27), (27, .getfield 18, 3, 30), (30, .invokestatic 57, 3, 33), (33, .aload_n 0, 1, 34), (34, .aload_n 1, 1, 35), (35, .getfield 21, 3, 38), (38, .putfield 21, 3, 41), (41, .return_, 1, 42)]
def M_T_become : zM := (⟨"CamPieces$Train", "become", "(LCamPieces$Train;)V"⟩, prog_7_method_17_code, 2, none, I_T_become)
def R_T_become : Room := { frames := 2, cells := 0, slots := 0, locals := 44 }
theorem D_T_become : zDec M_T_become := (by decide +kernel : ∀ q ∈ I_T_become, decode prog_7_method_17_code q.1 = .ok (q.2.1, q.2.2.1) ∧ q.1 + q.2.2.1 = q.2.2.2)
theorem C_T_become : zCv M_T_become 1 := ⟨⟨zTB_of 2 (by decide +kernel) rfl, zTB_of 837 (by decide +kernel) rfl, by decide, by decide, by decide +kernel⟩, zTB_of 835 (by decide +kernel) rfl, zTB_of 836 (by decide +kernel) rfl⟩
def I_T_turn : List (Nat × Instr × Nat × Nat) := [(0, .iconst 0, 1, 1), (1, .istore_n 1, 1, 2), (2, .aload_n 0, 1, 3), (3, .getfield 21, 3, 6), (6, .iconst 1, 1, 7), (7, .isub, 1, 8), (8, .istore_n 2, 1, 9), (9, .iload_n 1, 1, 10), (10, .iload_n 2, 1, 11), (11, .if_icmp .gt 70, 3, 14), (14, .aload_n 0, 1, 15), (15, .iload_n 1, 1, 16), (16, .invokevirtual 25, 3, 19), (19, .istore_n 3, 1, 20), (20, .aload_n 0, 1, 21), (21, .iload_n 1, 1, 22), (22, .invokevirtual 29, 3, 25), (25, .istore 4, 2, 27), (27, .aload_n 0, 1, 28), (28, .iload_n 1, 1, 29), (29, .invokevirtual 32, 3, 32), (32, .istore 5, 2, 34), (34, .aload_n 0, 1, 35), (35, .iload_n 1, 1, 36), (36, .aload_n 0, 1, 37), (37, .iload_n 2, 1, 38), (38, .invokevirtual 25, 3, 41), (41, .invokestatic 61, 3, 44), (44, .aload_n 0, 1, 45), (45, .iload_n 2, 1, 46), (46, .invokevirtual 29, 3, 49), (49, .aload_n 0, 1, 50), (50, .iload_n 2, 1, 51), (51, .invokevirtual 32, 3, 54), (54, .ineg, 1, 55), (55, .invokevirtual 49, 3, 58), (58, .aload_n 0, 1, 59), (59, .iload_n 2, 1, 60), (60, .iload_n 3, 1, 61), (61, .invokestatic 61, 3, 64), (64, .iload 4, 2, 66), (66, .iload 5, 2, 68), (68, .ineg, 1, 69), (69, .invokevirtual 49, 3, 72), (72, .iinc 1 1, 3, 75), (75, .iinc 2 (-1), 3, 78), (78, .goto (-69), 3, 81), (81, .return_, 1, 82)]
def M_T_turn : zM := (⟨"CamPieces$Train", "turn", "()V"⟩, prog_7_method_18_code, 6, none, I_T_turn)
def R_T_turn : Room := { frames := 2, cells := 0, slots := 0, locals := 46 }
theorem D_T_turn : zDec M_T_turn := (by decide +kernel : ∀ q ∈ I_T_turn, decode prog_7_method_18_code q.1 = .ok (q.2.1, q.2.2.1) ∧ q.1 + q.2.2.1 = q.2.2.2)
theorem C_T_turn : zCv M_T_turn 0 := ⟨⟨zTB_of 2 (by decide +kernel) rfl, zTB_of 342 (by decide +kernel) rfl, by decide, by decide, by decide +kernel⟩, zTB_of 340 (by decide +kernel) rfl, zTB_of 341 (by decide +kernel) rfl⟩
def I_T_turnedKind : List (Nat × Instr × Nat × Nat) := [(0, .iload_n 0, 1, 1), (1, .iconst 2, 1, 2), (2, .if_icmp .ne 7, 3, 5), (5, .iconst 3, 1, 6), (6, .goto 13, 3, 9), (9, .iload_n 0, 1, 10), (10, .iconst 3, 1, 11), (11, .if_icmp .ne 7, 3, 14), (14, .iconst 2, 1, 15), (15, .goto 4, 3, 18), (18, .iload_n 0, 1, 19), (19, .ireturn, 1, 20)]
def M_T_turnedKind : zM := (⟨"CamPieces$Train", "turnedKind", "(I)I"⟩, prog_7_method_19_code, 1, some .int, I_T_turnedKind)
def R_T_turnedKind : Room := { frames := 0, cells := 0, slots := 0, locals := 0 }
theorem D_T_turnedKind : zDec M_T_turnedKind := (by decide +kernel : ∀ q ∈ I_T_turnedKind, decode prog_7_method_19_code q.1 = .ok (q.2.1, q.2.2.1) ∧ q.1 + q.2.2.1 = q.2.2.2)
theorem C_T_turnedKind : zCs M_T_turnedKind 1 := ⟨⟨zTB_of 2 (by decide +kernel) rfl, zTB_of 345 (by decide +kernel) rfl, by decide, by decide, by decide +kernel⟩, zTB_of 344 (by decide +kernel) rfl⟩
def I_T_areAlike : List (Nat × Instr × Nat × Nat) := [(0, .aload_n 0, 1, 1), (1, .iload_n 1, 1, 2), (2, .invokevirtual 25, 3, 5), (5, .aload_n 0, 1, 6), (6, .iload_n 2, 1, 7), (7, .invokevirtual 25, 3, 10), (10, .if_icmp .ne 33, 3, 13), (13, .aload_n 0, 1, 14), (14, .iload_n 1, 1, 15), (15, .invokevirtual 29, 3, 18), (18, .aload_n 0, 1, 19), (19, .iload_n 2, 1, 20), (20, .invokevirtual 29, 3, 23), (23, .if_icmp .ne 20, 3, 26), (26, .aload_n 0, 1, 27), (27, .iload_n 1, 1, 28), (28, .invokevirtual 32, 3, 31), (31, .aload_n 0, 1, 32), (32, .iload_n 2, 1, 33), (33, .invokevirtual 32, 3, 36), (36, .if_icmp .ne 7, 3, 39), (39, .iconst 1, 1, 40), (40, .goto 4, 3, 43), (43, .iconst 0, 1, 44), (44, .ireturn, 1, 45)]
def M_T_areAlike : zM := (⟨"CamPieces$Train", "areAlike", "(II)Z"⟩, prog_7_method_20_code, 3, some .boolean, I_T_areAlike)
def R_T_areAlike : Room := { frames := 1, cells := 0, slots := 0, locals := 21 }
theorem D_T_areAlike : zDec M_T_areAlike := (by decide +kernel : ∀ q ∈ I_T_areAlike, decode prog_7_method_20_code q.1 = .ok (q.2.1, q.2.2.1) ∧ q.1 + q.2.2.1 = q.2.2.2)
theorem C_T_areAlike : zCv M_T_areAlike 2 := ⟨⟨zTB_of 2 (by decide +kernel) rfl, zTB_of 353 (by decide +kernel) rfl, by decide, by decide, by decide +kernel⟩, zTB_of 351 (by decide +kernel) rfl, zTB_of 352 (by decide +kernel) rfl⟩
def I_T_isFirstOfItsLike : List (Nat × Instr × Nat × Nat) := [(0, .iconst 0, 1, 1), (1, .istore_n 2, 1, 2), (2, .iload_n 2, 1, 3), (3, .iload_n 1, 1, 4), (4, .if_icmp .ge 28, 3, 7), (7, .iload_n 2, 1, 8), (8, .aload_n 0, 1, 9), (9, .getfield 21, 3, 12), (12, .if_icmp .ge 20, 3, 15), (15, .aload_n 0, 1, 16), (16, .iload_n 2, 1, 17), (17, .iload_n 1, 1, 18), (18, .invokevirtual 64, 3, 21), (21, .ifCond .eq 5, 3, 24), (24, .iconst 0, 1, 25), (25, .ireturn, 1, 26), (26, .iinc 2 1, 3, 29), (29, .goto (-27), 3, 32), (32, .iconst 1, 1, 33), (33, .ireturn, 1, 34)]
def M_T_isFirstOfItsLike : zM := (⟨"CamPieces$Train", "isFirstOfItsLike", "(I)Z"⟩, prog_7_method_21_code, 3, some .boolean, I_T_isFirstOfItsLike)
def R_T_isFirstOfItsLike : Room := { frames := 2, cells := 0, slots := 0, locals := 43 }
theorem D_T_isFirstOfItsLike : zDec M_T_isFirstOfItsLike := (by decide +kernel : ∀ q ∈ I_T_isFirstOfItsLike, decode prog_7_method_21_code q.1 = .ok (q.2.1, q.2.2.1) ∧ q.1 + q.2.2.1 = q.2.2.2)
theorem C_T_isFirstOfItsLike : zCv M_T_isFirstOfItsLike 1 := ⟨⟨zTB_of 2 (by decide +kernel) rfl, zTB_of 361 (by decide +kernel) rfl, by decide, by decide, by decide +kernel⟩, zTB_of 359 (by decide +kernel) rfl, zTB_of 360 (by decide +kernel) rfl⟩
def I_T_isSteeper : List (Nat × Instr × Nat × Nat) := [(0, .aload_n 0, 1, 1), (1, .iload_n 1, 1, 2), (2, .invokevirtual 32, 3, 5), (5, .invokestatic 68, 3, 8), (8, .aload_n 0, 1, 9), (9, .iload_n 2, 1, 10), (10, .invokevirtual 29, 3, 13), (13, .imul, 1, 14), (14, .aload_n 0, 1, 15), (15, .iload_n 2, 1, 16), (16, .invokevirtual 32, 3, 19), (19, .invokestatic 68, 3, 22), (22, .aload_n 0, 1, 23), (23, .iload_n 1, 1, 24), (24, .invokevirtual 29, 3, 27), (27, .imul, 1, 28), (28, .if_icmp .le 7, 3, 31), (31, .iconst 1, 1, 32), (32, .goto 4, 3, 35), (35, .iconst 0, 1, 36), (36, .ireturn, 1, 37)]
def M_T_isSteeper : zM := (⟨"CamPieces$Train", "isSteeper", "(II)Z"⟩, prog_7_method_22_code, 3, some .boolean, I_T_isSteeper)
def R_T_isSteeper : Room := { frames := 1, cells := 0, slots := 0, locals := 24 }
theorem D_T_isSteeper : zDec M_T_isSteeper := (by decide +kernel : ∀ q ∈ I_T_isSteeper, decode prog_7_method_22_code q.1 = .ok (q.2.1, q.2.2.1) ∧ q.1 + q.2.2.1 = q.2.2.2)
theorem C_T_isSteeper : zCv M_T_isSteeper 2 := ⟨⟨zTB_of 2 (by decide +kernel) rfl, zTB_of 370 (by decide +kernel) rfl, by decide, by decide, by decide +kernel⟩, zTB_of 368 (by decide +kernel) rfl, zTB_of 369 (by decide +kernel) rfl⟩
theorem l_T_3 : Cond.methodLink "CamPieces$Train" 3 ⟨"java/lang/Object", "<init>", "()V"⟩ ∈ zTB := zTB_of 30 (by decide +kernel) rfl
theorem f_T_9 : zF "CamPieces$Train" 9 5 0 (tyX5 0) true := ⟨_, _, _, _, zck_5, by decide, rfl, rfl, zTB_of 31 (by decide +kernel) rfl⟩
theorem fl_T_9 : Cond.fieldLink "CamPieces$Train" 9 (TX5 0).1 (TX5 0).2.1 (TX5 0).2.2.1 ∈ zTB := zTB_of 31 (by decide +kernel) rfl
theorem f_T_15 : zF "CamPieces$Train" 15 5 1 (tyX5 1) true := ⟨_, _, _, _, zck_5, by decide, rfl, rfl, zTB_of 32 (by decide +kernel) rfl⟩
theorem fl_T_15 : Cond.fieldLink "CamPieces$Train" 15 (TX5 1).1 (TX5 1).2.1 (TX5 1).2.2.1 ∈ zTB := zTB_of 32 (by decide +kernel) rfl
theorem f_T_18 : zF "CamPieces$Train" 18 5 2 (tyX5 2) true := ⟨_, _, _, _, zck_5, by decide, rfl, rfl, zTB_of 33 (by decide +kernel) rfl⟩
theorem fl_T_18 : Cond.fieldLink "CamPieces$Train" 18 (TX5 2).1 (TX5 2).2.1 (TX5 2).2.2.1 ∈ zTB := zTB_of 33 (by decide +kernel) rfl
theorem f_T_21 : zF "CamPieces$Train" 21 5 3 (tyX5 3) false := ⟨_, _, _, _, zck_5, by decide, rfl, rfl, zTB_of 34 (by decide +kernel) rfl⟩
theorem l_T_25 : Cond.methodLink "CamPieces$Train" 25 ⟨"CamPieces$Train", "kindOf", "(I)I"⟩ ∈ zTB := zTB_of 301 (by decide +kernel) rfl
theorem l_T_29 : Cond.methodLink "CamPieces$Train" 29 ⟨"CamPieces$Train", "longOf", "(I)I"⟩ ∈ zTB := zTB_of 254 (by decide +kernel) rfl
theorem l_T_32 : Cond.methodLink "CamPieces$Train" 32 ⟨"CamPieces$Train", "riseOf", "(I)I"⟩ ∈ zTB := zTB_of 302 (by decide +kernel) rfl
theorem l_T_35 : Cond.methodLink "CamPieces$Train" 35 ⟨"CamPieces$Train", "beginOf", "(I)I"⟩ ∈ zTB := zTB_of 250 (by decide +kernel) rfl
theorem l_T_38 : Cond.methodLink "CamPieces$Train" 38 ⟨"CamPieces$Train", "total", "()I"⟩ ∈ zTB := zTB_of 329 (by decide +kernel) rfl
theorem l_T_42 : Cond.methodLink "CamPieces$Train" 42 ⟨"CamPieces$Train", "liftOf", "(I)I"⟩ ∈ zTB := zTB_of 330 (by decide +kernel) rfl
theorem l_T_45 : Cond.methodLink "CamPieces$Train" 45 ⟨"CamPieces$Train", "isFull", "()Z"⟩ ∈ zTB := zTB_of 262 (by decide +kernel) rfl
theorem l_T_49 : Cond.methodLink "CamPieces$Train" 49 ⟨"CamPieces$Train", "write", "(IIII)V"⟩ ∈ zTB := zTB_of 263 (by decide +kernel) rfl
theorem l_T_53 : Cond.methodLinkNest "CamPieces$Train" 53 ⟨"CamPieces", "store", "([III)V"⟩ "CamPieces" ∈ zNW := zNW_of 267 (by decide +kernel) rfl
theorem l_T_57 : Cond.methodLinkNest "CamPieces$Train" 57 ⟨"CamPieces", "copy", "([I[I)V"⟩ "CamPieces" ∈ zNW := zNW_of 838 (by decide +kernel) rfl
theorem l_T_61 : Cond.methodLink "CamPieces$Train" 61 ⟨"CamPieces$Train", "turnedKind", "(I)I"⟩ ∈ zTB := zTB_of 343 (by decide +kernel) rfl
theorem l_T_64 : Cond.methodLink "CamPieces$Train" 64 ⟨"CamPieces$Train", "areAlike", "(II)Z"⟩ ∈ zTB := zTB_of 362 (by decide +kernel) rfl
theorem l_T_68 : Cond.methodLink "CamPieces$Train" 68 ⟨"java/lang/Math", "abs", "(I)I"⟩ ∈ zTB := zTB_of 371 (by decide +kernel) rfl
def I_K_init : List (Nat × Instr × Nat × Nat) := [(0, .aload_n 0, 1, 1), (1, .invokespecial 1, 3, 4), (4, .aload_n 0, 1, 5), (5, .iconst 0, 1, 6), (6, .putfield 7, 3, 9), (9, .aload_n 0, 1, 10), (10, .iconst 0, 1, 11), (11, .putfield 13, 3, 14), (14, .aload_n 0, 1, 15), (15, .iconst 0, 1, 16), (16, .putfield 16, 3, 19), (19, .aload_n 0, 1, 20), (20, .iconst 0, 1, 21), (21, .putfield 19, 3, 24), (24, .aload_n 0, 1, 25), (25, .iconst 0, 1, 26), (26, .putfield 22, 3, 29), (29, .aload_n 0, 1, 30), (30, .iconst 0, 1, 31), (31, .putfield 25, 3, 34), (34, .return_, 1, 35)]
def M_K_init : zM := (⟨"CamPieces$Walk", "<init>", "()V"⟩, prog_8_method_1_code, 1, none, I_K_init)
def R_K_init : Room := { frames := 1, cells := 0, slots := 0, locals := 24 }
theorem D_K_init : zDec M_K_init := (by decide +kernel : ∀ q ∈ I_K_init, decode prog_8_method_1_code q.1 = .ok (q.2.1, q.2.2.1) ∧ q.1 + q.2.2.1 = q.2.2.2)
theorem C_K_init : zCi M_K_init 0 := ⟨⟨zTB_of 6 (by decide +kernel) rfl, zTB_of 125 (by decide +kernel) rfl, by decide, by decide, by decide +kernel⟩, zTB_of 124 (by decide +kernel) rfl, rfl, rfl⟩
def I_K_start : List (Nat × Instr × Nat × Nat) := [(0, .aload_n 0, 1, 1), (1, .aload_n 1, 1, 2), (2, .invokevirtual 29, 3, 5), (5, .putfield 25, 3, 8), (8, .aload_n 0, 1, 9), (9, .aload_n 0, 1, 10), (10, .getfield 25, 3, 13), (13, .ifCond .eq 7, 3, 16), (16, .iconst (-1), 1, 17), (17, .goto 4, 3, 20), (20, .iconst 0, 1, 21), (21, .putfield 13, 3, 24), (24, .aload_n 0, 1, 25), (25, .iconst 0, 1, 26), (26, .putfield 7, 3, 29), (29, .aload_n 0, 1, 30), (30, .iconst 0, 1, 31), (31, .putfield 16, 3, 34), (34, .aload_n 0, 1, 35), (35, .iconst 0, 1, 36), (36, .putfield 19, 3, 39), (39, .aload_n 0, 1, 40), (40, .iconst 0, 1, 41), (41, .putfield 22, 3, 44), (44, .return_, 1, 45)]
def M_K_start : zM := (⟨"CamPieces$Walk", "start", "(LCamPieces$Train;)V"⟩, prog_8_method_2_code, 2, none, I_K_start)
def R_K_start : Room := { frames := 4, cells := 0, slots := 0, locals := 84 }
theorem D_K_start : zDec M_K_start := (by decide +kernel : ∀ q ∈ I_K_start, decode prog_8_method_2_code q.1 = .ok (q.2.1, q.2.2.1) ∧ q.1 + q.2.2.1 = q.2.2.2)
theorem C_K_start : zCv M_K_start 1 := ⟨⟨zTB_of 6 (by decide +kernel) rfl, zTB_of 521 (by decide +kernel) rfl, by decide, by decide, by decide +kernel⟩, zTB_of 519 (by decide +kernel) rfl, zTB_of 520 (by decide +kernel) rfl⟩
def I_K_goOn : List (Nat × Instr × Nat × Nat) := [(0, .aload_n 0, 1, 1), (1, .getfield 13, 3, 4), (4, .ifCond .ge 34, 3, 7), (7, .aload_n 1, 1, 8), (8, .invokevirtual 34, 3, 11), (11, .iconst 1, 1, 12), (12, .isub, 1, 13), (13, .istore_n 3, 1, 14), (14, .aload_n 1, 1, 15), (15, .aload_n 2, 1, 16), (16, .iload_n 3, 1, 17), (17, .aload_n 1, 1, 18), (18, .iload_n 3, 1, 19), (19, .invokevirtual 38, 3, 22), (22, .ineg, 1, 23), (23, .aload_n 1, 1, 24), (24, .iload_n 3, 1, 25), (25, .invokevirtual 42, 3, 28), (28, .invokestatic 45, 3, 31), (31, .aload_n 0, 1, 32), (32, .iconst 0, 1, 33), (33, .putfield 13, 3, 36), (36, .iconst 1, 1, 37), (37, .ireturn, 1, 38), (38, .aload_n 0, 1, 39), (39, .getfield 13, 3, 42), (42, .aload_n 1, 1, 43), (43, .invokevirtual 34, 3, 46), (46, .if_icmp .ge 55, 3, 49), (49, .aload_n 0, 1, 50), (50, .aload_n 0, 1, 51), (51, .getfield 16, 3, 54), (54, .aload_n 0, 1, 55), (55, .getfield 22, 3, 58), (58, .iadd, 1, 59), (59, .putfield 7, 3, 62), (62, .aload_n 1, 1, 63), (63, .aload_n 2, 1, 64), (64, .aload_n 0, 1, 65), (65, .getfield 13, 3, 68), (68, .aload_n 0, 1, 69), (69, .getfield 19, 3, 72), (72, .aload_n 0, 1, 73), (73, .getfield 22, 3, 76), (76, .invokestatic 45, 3, 79), (79, .aload_n 0, 1, 80), (80, .aload_n 1, 1, 81), (81, .aload_n 0, 1, 82), (82, .getfield 13, 3, 85), (85, .invokevirtual 42, 3, 88), (88, .aload_n 1, 1, 89), (89, .aload_n 0, 1, 90), (90, .getfield 13, 3, 93), (93, .invokevirtual 38, 3, 96), (96, .invokevirtual 49, 3, 99), (99, .iconst 1, 1, 100), (100, .ireturn, 1, 101), (101, .aload_n 0, 1, 102), (102, .getfield 25, 3, 105), (105, .ifCond .eq 14, 3, 108), (108, .aload_n 0, 1, 109), (109, .getfield 13, 3, 112), (112, .aload_n 1, 1, 113), (113, .invokevirtual 34, 3, 116), (116, .if_icmp .le 5, 3, 119), (119, .iconst 0, 1, 120), (120, .ireturn, 1, 121), (121, .aload_n 1, 1, 122), (122, .aload_n 2, 1, 123), (123, .iconst 0, 1, 124), (124, .iconst 0, 1, 125), (125, .iconst 0, 1, 126), (126, .invokestatic 45, 3, 129), (129, .aload_n 0, 1, 130), (130, .dup, 1, 131), (131, .getfield 13, 3, 134), (134, .iconst 1, 1, 135), (135, .iadd, 1, 136), (136, .putfield 13, 3, 139), (139, .iconst 1, 1, 140), (140, .ireturn, 1, 141)]
def M_K_goOn : zM := (⟨"CamPieces$Walk", "goOn", "(LCamPieces$Train;LCamPieces$Spot;)Z"⟩, prog_8_method_3_code, 4, some .boolean, I_K_goOn)
def R_K_goOn : Room := { frames := 4, cells := 0, slots := 0, locals := 111 }
theorem D_K_goOn : zDec M_K_goOn := (by decide +kernel : ∀ q ∈ I_K_goOn, decode prog_8_method_3_code q.1 = .ok (q.2.1, q.2.2.1) ∧ q.1 + q.2.2.1 = q.2.2.2)
theorem C_K_goOn : zCv M_K_goOn 2 := ⟨⟨zTB_of 6 (by decide +kernel) rfl, zTB_of 526 (by decide +kernel) rfl, by decide, by decide, by decide +kernel⟩, zTB_of 524 (by decide +kernel) rfl, zTB_of 525 (by decide +kernel) rfl⟩
def I_K_stand : List (Nat × Instr × Nat × Nat) := [(0, .aload_n 1, 1, 1), (1, .aload_n 0, 1, 2), (2, .iload_n 2, 1, 3), (3, .invokevirtual 53, 3, 6), (6, .aload_n 0, 1, 7), (7, .iload_n 2, 1, 8), (8, .invokevirtual 42, 3, 11), (11, .i2l, 1, 12), (12, .aload_n 0, 1, 13), (13, .iload_n 2, 1, 14), (14, .invokevirtual 38, 3, 17), (17, .i2l, 1, 18), (18, .iload_n 3, 1, 19), (19, .i2l, 1, 20), (20, .iload 4, 2, 22), (22, .i2l, 1, 23), (23, .invokevirtual 56, 3, 26), (26, .return_, 1, 27)]
def M_K_stand : zM := (⟨"CamPieces$Walk", "stand", "(LCamPieces$Train;LCamPieces$Spot;III)V"⟩, prog_8_method_4_code, 5, none, I_K_stand)
def R_K_stand : Room := { frames := 3, cells := 0, slots := 0, locals := 87 }
theorem D_K_stand : zDec M_K_stand := (by decide +kernel : ∀ q ∈ I_K_stand, decode prog_8_method_4_code q.1 = .ok (q.2.1, q.2.2.1) ∧ q.1 + q.2.2.1 = q.2.2.2)
theorem C_K_stand : zCs M_K_stand 5 := ⟨⟨zTB_of 6 (by decide +kernel) rfl, zTB_of 532 (by decide +kernel) rfl, by decide, by decide, by decide +kernel⟩, zTB_of 531 (by decide +kernel) rfl⟩
def I_K_stepOn : List (Nat × Instr × Nat × Nat) := [(0, .aload_n 0, 1, 1), (1, .dup, 1, 2), (2, .getfield 22, 3, 5), (5, .iconst 1, 1, 6), (6, .iadd, 1, 7), (7, .putfield 22, 3, 10), (10, .aload_n 0, 1, 11), (11, .getfield 22, 3, 14), (14, .iload_n 1, 1, 15), (15, .if_icmp .gt 4, 3, 18), (18, .return_, 1, 19), (19, .aload_n 0, 1, 20), (20, .iconst 0, 1, 21), (21, .putfield 22, 3, 24), (24, .aload_n 0, 1, 25), (25, .dup, 1, 26), (26, .getfield 16, 3, 29), (29, .iload_n 1, 1, 30), (30, .iadd, 1, 31), (31, .putfield 16, 3, 34), (34, .aload_n 0, 1, 35), (35, .dup, 1, 36), (36, .getfield 19, 3, 39), (39, .iload_n 2, 1, 40), (40, .iadd, 1, 41), (41, .putfield 19, 3, 44), (44, .aload_n 0, 1, 45), (45, .dup, 1, 46), (46, .getfield 13, 3, 49), (49, .iconst 1, 1, 50), (50, .iadd, 1, 51), (51, .putfield 13, 3, 54), (54, .return_, 1, 55)]
def M_K_stepOn : zM := (⟨"CamPieces$Walk", "stepOn", "(II)V"⟩, prog_8_method_5_code, 3, none, I_K_stepOn)
def R_K_stepOn : Room := { frames := 0, cells := 0, slots := 0, locals := 0 }
theorem D_K_stepOn : zDec M_K_stepOn := (by decide +kernel : ∀ q ∈ I_K_stepOn, decode prog_8_method_5_code q.1 = .ok (q.2.1, q.2.2.1) ∧ q.1 + q.2.2.1 = q.2.2.2)
theorem C_K_stepOn : zCv M_K_stepOn 2 := ⟨⟨zTB_of 6 (by decide +kernel) rfl, zTB_of 538 (by decide +kernel) rfl, by decide, by decide, by decide +kernel⟩, zTB_of 537 (by decide +kernel) rfl, zTB_ofS 16 (by decide +kernel) rfl⟩
theorem l_K_1 : Cond.methodLink "CamPieces$Walk" 1 ⟨"java/lang/Object", "<init>", "()V"⟩ ∈ zTB := zTB_of 126 (by decide +kernel) rfl
theorem f_K_7 : zF "CamPieces$Walk" 7 6 0 (tyX6 0) false := ⟨_, _, _, _, zck_6, by decide, rfl, rfl, zTB_of 127 (by decide +kernel) rfl⟩
theorem f_K_13 : zF "CamPieces$Walk" 13 6 1 (tyX6 1) false := ⟨_, _, _, _, zck_6, by decide, rfl, rfl, zTB_of 129 (by decide +kernel) rfl⟩
theorem f_K_16 : zF "CamPieces$Walk" 16 6 2 (tyX6 2) false := ⟨_, _, _, _, zck_6, by decide, rfl, rfl, zTB_of 130 (by decide +kernel) rfl⟩
theorem f_K_19 : zF "CamPieces$Walk" 19 6 3 (tyX6 3) false := ⟨_, _, _, _, zck_6, by decide, rfl, rfl, zTB_of 131 (by decide +kernel) rfl⟩
theorem f_K_22 : zF "CamPieces$Walk" 22 6 4 (tyX6 4) false := ⟨_, _, _, _, zck_6, by decide, rfl, rfl, zTB_of 132 (by decide +kernel) rfl⟩
theorem f_K_25 : zF "CamPieces$Walk" 25 6 5 (tyX6 5) false := ⟨_, _, _, _, zck_6, by decide, rfl, rfl, zTB_of 133 (by decide +kernel) rfl⟩
theorem l_K_29 : Cond.methodLink "CamPieces$Walk" 29 ⟨"CamPieces$Train", "isClosed", "()Z"⟩ ∈ zTB := zTB_of 522 (by decide +kernel) rfl
theorem l_K_34 : Cond.methodLink "CamPieces$Walk" 34 ⟨"CamPieces$Train", "size", "()I"⟩ ∈ zTB := zTB_of 527 (by decide +kernel) rfl
theorem l_K_38 : Cond.methodLink "CamPieces$Walk" 38 ⟨"CamPieces$Train", "riseOf", "(I)I"⟩ ∈ zTB := zTB_of 528 (by decide +kernel) rfl
theorem l_K_42 : Cond.methodLink "CamPieces$Walk" 42 ⟨"CamPieces$Train", "longOf", "(I)I"⟩ ∈ zTB := zTB_of 529 (by decide +kernel) rfl
theorem l_K_45 : Cond.methodLink "CamPieces$Walk" 45 ⟨"CamPieces$Walk", "stand", "(LCamPieces$Train;LCamPieces$Spot;III)V"⟩ ∈ zTB := zTB_of 530 (by decide +kernel) rfl
theorem l_K_49 : Cond.methodLink "CamPieces$Walk" 49 ⟨"CamPieces$Walk", "stepOn", "(II)V"⟩ ∈ zTB := zTB_of 535 (by decide +kernel) rfl
theorem l_K_53 : Cond.methodLink "CamPieces$Walk" 53 ⟨"CamPieces$Train", "kindOf", "(I)I"⟩ ∈ zTB := zTB_of 533 (by decide +kernel) rfl
theorem l_K_56 : Cond.methodLink "CamPieces$Walk" 56 ⟨"CamPieces$Spot", "stand", "(IJJJJ)V"⟩ ∈ zTB := zTB_of 534 (by decide +kernel) rfl
def I_J0_length : List (Nat × Instr × Nat × Nat) := [(0, .aload_n 0, 1, 1), (1, .getfield 9, 3, 4), (4, .arraylength, 1, 5), (5, .aload_n 0, 1, 6), (6, .invokevirtual 335, 3, 9), (9, .ishr, 1, 10), (10, .ireturn, 1, 11)]
def M_J0_length : zM := (⟨"java/lang/String", "length", "()I"⟩, prog_13_method_54_code, 1, some .int, I_J0_length)
def R_J0_length : Room := { frames := 1, cells := 0, slots := 0, locals := 20 }
theorem D_J0_length : zDec M_J0_length := (by decide +kernel : ∀ q ∈ I_J0_length, decode prog_13_method_54_code q.1 = .ok (q.2.1, q.2.2.1) ∧ q.1 + q.2.2.1 = q.2.2.2)
theorem C_J0_length : zCv M_J0_length 0 := ⟨⟨zTB_of 13 (by decide +kernel) rfl, zTB_of 766 (by decide +kernel) rfl, by decide, by decide, by decide +kernel⟩, zTB_of 764 (by decide +kernel) rfl, zTB_of 765 (by decide +kernel) rfl⟩
def I_J0_charAt : List (Nat × Instr × Nat × Nat) := [(0, .aload_n 0, 1, 1), (1, .invokevirtual 492, 3, 4), (4, .ifCond .eq 12, 3, 7), (7, .aload_n 0, 1, 8), (8, .getfield 9, 3, 11), (11, .iload_n 1, 1, 12), (12, .invokestatic 495, 3, 15), (15, .ireturn, 1, 16), (16, .aload_n 0, 1, 17), (17, .getfield 9, 3, 20), (20, .iload_n 1, 1, 21), (21, .invokestatic 498, 3, 24), (24, .ireturn, 1, 25)]
def M_J0_charAt : zM := (⟨"java/lang/String", "charAt", "(I)C"⟩, prog_13_method_56_code, 2, some .char, I_J0_charAt)
def R_J0_charAt : Room := { frames := 4, cells := 0, slots := 0, locals := 85 }
theorem D_J0_charAt : zDec M_J0_charAt := (by decide +kernel : ∀ q ∈ I_J0_charAt, decode prog_13_method_56_code q.1 = .ok (q.2.1, q.2.2.1) ∧ q.1 + q.2.2.1 = q.2.2.2)
theorem C_J0_charAt : zCv M_J0_charAt 1 := ⟨⟨zTB_of 13 (by decide +kernel) rfl, zTB_of 776 (by decide +kernel) rfl, by decide, by decide, by decide +kernel⟩, zTB_of 774 (by decide +kernel) rfl, zTB_of 775 (by decide +kernel) rfl⟩
def I_J0_coder : List (Nat × Instr × Nat × Nat) := [(0, .getstatic 38, 3, 3), (3, .ifCond .eq 10, 3, 6), (6, .aload_n 0, 1, 7), (7, .getfield 15, 3, 10), (10, .goto 4, 3, 13), (13, .iconst 1, 1, 14), (14, .ireturn, 1, 15)]
def M_J0_coder : zM := (⟨"java/lang/String", "coder", "()B"⟩, prog_13_method_152_code, 1, some .byte, I_J0_coder)
def R_J0_coder : Room := { frames := 0, cells := 0, slots := 0, locals := 0 }
theorem D_J0_coder : zDec M_J0_coder := (by decide +kernel : ∀ q ∈ I_J0_coder, decode prog_13_method_152_code q.1 = .ok (q.2.1, q.2.2.1) ∧ q.1 + q.2.2.1 = q.2.2.2)
theorem C_J0_coder : zCv M_J0_coder 0 := ⟨⟨zTB_of 13 (by decide +kernel) rfl, zTB_of 770 (by decide +kernel) rfl, by decide, by decide, by decide +kernel⟩, zTB_of 768 (by decide +kernel) rfl, zTB_of 769 (by decide +kernel) rfl⟩
def I_J0_isLatin1 : List (Nat × Instr × Nat × Nat) := [(0, .getstatic 38, 3, 3), (3, .ifCond .eq 14, 3, 6), (6, .aload_n 0, 1, 7), (7, .getfield 15, 3, 10), (10, .ifCond .ne 7, 3, 13), (13, .iconst 1, 1, 14), (14, .goto 4, 3, 17), (17, .iconst 0, 1, 18), (18, .ireturn, 1, 19)]
def M_J0_isLatin1 : zM := (⟨"java/lang/String", "isLatin1", "()Z"⟩, prog_13_method_154_code, 1, some .boolean, I_J0_isLatin1)
def R_J0_isLatin1 : Room := { frames := 0, cells := 0, slots := 0, locals := 0 }
theorem D_J0_isLatin1 : zDec M_J0_isLatin1 := (by decide +kernel : ∀ q ∈ I_J0_isLatin1, decode prog_13_method_154_code q.1 = .ok (q.2.1, q.2.2.1) ∧ q.1 + q.2.2.1 = q.2.2.2)
theorem C_J0_isLatin1 : zCv M_J0_isLatin1 0 := ⟨⟨zTB_of 13 (by decide +kernel) rfl, zTB_of 780 (by decide +kernel) rfl, by decide, by decide, by decide +kernel⟩, zTB_of 778 (by decide +kernel) rfl, zTB_of 779 (by decide +kernel) rfl⟩
def I_J0_checkIndex : List (Nat × Instr × Nat × Nat) := [(0, .iload_n 0, 1, 1), (1, .iload_n 1, 1, 2), (2, .getstatic 1053, 3, 5), (5, .invokestatic 1059, 3, 8), (8, .pop, 1, 9), (9, .return_, 1, 10)]
def M_J0_checkIndex : zM := (⟨"java/lang/String", "checkIndex", "(II)V"⟩, prog_13_method_155_code, 2, none, I_J0_checkIndex)
def R_J0_checkIndex : Room := { frames := 1, cells := 0, slots := 0, locals := 22 }
theorem D_J0_checkIndex : zDec M_J0_checkIndex := (by decide +kernel : ∀ q ∈ I_J0_checkIndex, decode prog_13_method_155_code q.1 = .ok (q.2.1, q.2.2.1) ∧ q.1 + q.2.2.1 = q.2.2.2)
theorem C_J0_checkIndex : zCs M_J0_checkIndex 2 := ⟨⟨zTB_of 13 (by decide +kernel) rfl, zTB_of 786 (by decide +kernel) rfl, by decide, by decide, by decide +kernel⟩, zTB_of 785 (by decide +kernel) rfl⟩
theorem f_J0_9 : Cond.fieldLink "java/lang/String" 9 "java/lang/String" "value" "[B" ∈ zTB := zTB_of 1361 (by decide +kernel) rfl
theorem l_J0_335 : Cond.methodLink "java/lang/String" 335 ⟨"java/lang/String", "coder", "()B"⟩ ∈ zTB := zTB_of 767 (by decide +kernel) rfl
theorem l_J0_492 : Cond.methodLink "java/lang/String" 492 ⟨"java/lang/String", "isLatin1", "()Z"⟩ ∈ zTB := zTB_of 777 (by decide +kernel) rfl
theorem l_J0_495 : Cond.methodLink "java/lang/String" 495 ⟨"java/lang/StringLatin1", "charAt", "([BI)C"⟩ ∈ zTB := zTB_of 781 (by decide +kernel) rfl
theorem l_J0_498 : Cond.methodLink "java/lang/String" 498 ⟨"java/lang/StringUTF16", "charAt", "([BI)C"⟩ ∈ zTB := zTB_of 792 (by decide +kernel) rfl
theorem f_J0_38 : Cond.fieldLink "java/lang/String" 38 "java/lang/String" "COMPACT_STRINGS" "Z" ∈ zTB := zTB_of 771 (by decide +kernel) rfl
theorem f_J0_15 : Cond.fieldLink "java/lang/String" 15 "java/lang/String" "coder" "B" ∈ zTB := zTB_of 1362 (by decide +kernel) rfl
theorem f_J0_1053 : Cond.fieldLink "java/lang/String" 1053 "jdk/internal/util/Preconditions" "SIOOBE_FORMATTER" "Ljava/util/function/BiFunction;" ∈ zTB := zTB_of 787 (by decide +kernel) rfl
theorem l_J0_1059 : Cond.methodLink "java/lang/String" 1059 ⟨"jdk/internal/util/Preconditions", "checkIndex", "(IILjava/util/function/BiFunction;)I"⟩ ∈ zTB := zTB_of 789 (by decide +kernel) rfl
def I_J1_charAt : List (Nat × Instr × Nat × Nat) := [(0, .iload_n 1, 1, 1), (1, .aload_n 0, 1, 2), (2, .arraylength, 1, 3), (3, .invokestatic 9, 3, 6), (6, .aload_n 0, 1, 7), (7, .iload_n 1, 1, 8), (8, .baload, 1, 9), (9, .sipush 255, 3, 12), (12, .iand, 1, 13), (13, .i2c, 1, 14), (14, .ireturn, 1, 15)]
def M_J1_charAt : zM := (⟨"java/lang/StringLatin1", "charAt", "([BI)C"⟩, prog_14_method_2_code, 2, some .char, I_J1_charAt)
def R_J1_charAt : Room := { frames := 2, cells := 0, slots := 0, locals := 43 }
theorem D_J1_charAt : zDec M_J1_charAt := (by decide +kernel : ∀ q ∈ I_J1_charAt, decode prog_14_method_2_code q.1 = .ok (q.2.1, q.2.2.1) ∧ q.1 + q.2.2.1 = q.2.2.2)
theorem C_J1_charAt : zCs M_J1_charAt 2 := ⟨⟨zTB_of 14 (by decide +kernel) rfl, zTB_of 783 (by decide +kernel) rfl, by decide, by decide, by decide +kernel⟩, zTB_of 782 (by decide +kernel) rfl⟩
theorem l_J1_9 : Cond.methodLink "java/lang/StringLatin1" 9 ⟨"java/lang/String", "checkIndex", "(II)V"⟩ ∈ zTB := zTB_of 784 (by decide +kernel) rfl
def I_J2_getChar : List (Nat × Instr × Nat × Nat) := [(0, .getstatic 44, 3, 3), (3, .ifCond .ne 25, 3, 6), (6, .iload_n 1, 1, 7), (7, .ifCond .lt 11, 3, 10), (10, .iload_n 1, 1, 11), (11, .aload_n 0, 1, 12), (12, .invokestatic 48, 3, 15), (15, .if_icmp .lt 13, 3, 18), (18, .new 52, 3, 21), (21, .dup, 1, 22), (22, .ldc 54, 2, 24), (24, .invokespecial 56, 3, 27), (27, .athrow, 1, 28), (28, .iload_n 1, 1, 29), (29, .iconst 1, 1, 30), (30, .ishl, 1, 31), (31, .istore_n 1, 1, 32), (32, .aload_n 0, 1, 33), (33, .iload_n 1, 1, 34), (34, .iinc 1 1, 3, 37), (37, .baload, 1, 38), (38, .sipush 255, 3, 41), (41, .iand, 1, 42), (42, .getstatic 59, 3, 45), (45, .ishl, 1, 46), (46, .aload_n 0, 1, 47), (47, .iload_n 1, 1, 48), (48, .baload, 1, 49), (49, .sipush 255, 3, 52), (52, .iand, 1, 53), (53, .getstatic 63, 3, 56), (56, .ishl, 1, 57), (57, .ior, 1, 58), (58, .i2c, 1, 59), (59, .ireturn, 1, 60)]
def M_J2_getChar : zM := (⟨"java/lang/StringUTF16", "getChar", "([BI)C"⟩, prog_15_method_5_code, 2, some .char, I_J2_getChar)
def R_J2_getChar : Room := { frames := 1, cells := 0, slots := 0, locals := 20 }
theorem D_J2_getChar : zDec M_J2_getChar := (by decide +kernel : ∀ q ∈ I_J2_getChar, decode prog_15_method_5_code q.1 = .ok (q.2.1, q.2.2.1) ∧ q.1 + q.2.2.1 = q.2.2.2)
theorem C_J2_getChar : zCs M_J2_getChar 2 := ⟨⟨zTB_of 16 (by decide +kernel) rfl, zTB_of 804 (by decide +kernel) rfl, by decide, by decide, by decide +kernel⟩, zTB_of 803 (by decide +kernel) rfl⟩
def I_J2_length : List (Nat × Instr × Nat × Nat) := [(0, .aload_n 0, 1, 1), (1, .arraylength, 1, 2), (2, .iconst 1, 1, 3), (3, .ishr, 1, 4), (4, .ireturn, 1, 5)]
def M_J2_length : zM := (⟨"java/lang/StringUTF16", "length", "([B)I"⟩, prog_15_method_6_code, 1, some .int, I_J2_length)
def R_J2_length : Room := { frames := 0, cells := 0, slots := 0, locals := 0 }
theorem D_J2_length : zDec M_J2_length := (by decide +kernel : ∀ q ∈ I_J2_length, decode prog_15_method_6_code q.1 = .ok (q.2.1, q.2.2.1) ∧ q.1 + q.2.2.1 = q.2.2.2)
theorem C_J2_length : zCs M_J2_length 1 := ⟨⟨zTB_of 16 (by decide +kernel) rfl, zTB_of 800 (by decide +kernel) rfl, by decide, by decide, by decide +kernel⟩, zTB_of 799 (by decide +kernel) rfl⟩
def I_J2_charAt : List (Nat × Instr × Nat × Nat) := [(0, .iload_n 1, 1, 1), (1, .aload_n 0, 1, 2), (2, .invokestatic 67, 3, 5), (5, .aload_n 0, 1, 6), (6, .iload_n 1, 1, 7), (7, .invokestatic 71, 3, 10), (10, .ireturn, 1, 11)]
def M_J2_charAt : zM := (⟨"java/lang/StringUTF16", "charAt", "([BI)C"⟩, prog_15_method_83_code, 2, some .char, I_J2_charAt)
def R_J2_charAt : Room := { frames := 3, cells := 0, slots := 0, locals := 64 }
theorem D_J2_charAt : zDec M_J2_charAt := (by decide +kernel : ∀ q ∈ I_J2_charAt, decode prog_15_method_83_code q.1 = .ok (q.2.1, q.2.2.1) ∧ q.1 + q.2.2.1 = q.2.2.2)
theorem C_J2_charAt : zCs M_J2_charAt 2 := ⟨⟨zTB_of 16 (by decide +kernel) rfl, zTB_of 794 (by decide +kernel) rfl, by decide, by decide, by decide +kernel⟩, zTB_of 793 (by decide +kernel) rfl⟩
def I_J2_checkIndex : List (Nat × Instr × Nat × Nat) := [(0, .iload_n 0, 1, 1), (1, .aload_n 1, 1, 2), (2, .invokestatic 48, 3, 5), (5, .invokestatic 414, 3, 8), (8, .return_, 1, 9)]
def M_J2_checkIndex : zM := (⟨"java/lang/StringUTF16", "checkIndex", "(I[B)V"⟩, prog_15_method_91_code, 2, none, I_J2_checkIndex)
def R_J2_checkIndex : Room := { frames := 2, cells := 0, slots := 0, locals := 43 }
theorem D_J2_checkIndex : zDec M_J2_checkIndex := (by decide +kernel : ∀ q ∈ I_J2_checkIndex, decode prog_15_method_91_code q.1 = .ok (q.2.1, q.2.2.1) ∧ q.1 + q.2.2.1 = q.2.2.2)
theorem C_J2_checkIndex : zCs M_J2_checkIndex 2 := ⟨⟨zTB_of 16 (by decide +kernel) rfl, zTB_of 797 (by decide +kernel) rfl, by decide, by decide, by decide +kernel⟩, zTB_of 796 (by decide +kernel) rfl⟩
theorem f_J2_44 : Cond.fieldLink "java/lang/StringUTF16" 44 "java/lang/StringUTF16" "$assertionsDisabled" "Z" ∈ zTB := zTB_of 805 (by decide +kernel) rfl
theorem l_J2_48 : Cond.methodLink "java/lang/StringUTF16" 48 ⟨"java/lang/StringUTF16", "length", "([B)I"⟩ ∈ zTB := zTB_of 798 (by decide +kernel) rfl
theorem f_J2_59 : Cond.fieldLink "java/lang/StringUTF16" 59 "java/lang/StringUTF16" "HI_BYTE_SHIFT" "I" ∈ zTB := zTB_of 807 (by decide +kernel) rfl
theorem f_J2_63 : Cond.fieldLink "java/lang/StringUTF16" 63 "java/lang/StringUTF16" "LO_BYTE_SHIFT" "I" ∈ zTB := zTB_of 809 (by decide +kernel) rfl
theorem l_J2_67 : Cond.methodLink "java/lang/StringUTF16" 67 ⟨"java/lang/StringUTF16", "checkIndex", "(I[B)V"⟩ ∈ zTB := zTB_of 795 (by decide +kernel) rfl
theorem l_J2_71 : Cond.methodLink "java/lang/StringUTF16" 71 ⟨"java/lang/StringUTF16", "getChar", "([BI)C"⟩ ∈ zTB := zTB_of 802 (by decide +kernel) rfl
theorem l_J2_414 : Cond.methodLink "java/lang/StringUTF16" 414 ⟨"java/lang/String", "checkIndex", "(II)V"⟩ ∈ zTB := zTB_of 801 (by decide +kernel) rfl
def I_J3_checkIndex : List (Nat × Instr × Nat × Nat) := [(0, .iload_n 0, 1, 1), (1, .ifCond .lt 8, 3, 4), (4, .iload_n 0, 1, 5), (5, .iload_n 1, 1, 6), (6, .if_icmp .lt 10, 3, 9), (9, .aload_n 2, 1, 10), (10, .iload_n 0, 1, 11), (11, .iload_n 1, 1, 12), (12, .invokestatic 95, 3, 15), (15, .athrow, 1, 16), (16, .iload_n 0, 1, 17), (17, .ireturn, 1, 18)]
def M_J3_checkIndex : zM := (⟨"jdk/internal/util/Preconditions", "checkIndex", "(IILjava/util/function/BiFunction;)I"⟩, prog_17_method_11_code, 3, some .int, I_J3_checkIndex)
def R_J3_checkIndex : Room := { frames := 0, cells := 0, slots := 0, locals := 0 }
theorem D_J3_checkIndex : zDec M_J3_checkIndex := (by decide +kernel : ∀ q ∈ I_J3_checkIndex, decode prog_17_method_11_code q.1 = .ok (q.2.1, q.2.2.1) ∧ q.1 + q.2.2.1 = q.2.2.2)
theorem C_J3_checkIndex : zCs M_J3_checkIndex 3 := ⟨⟨zTB_of 15 (by decide +kernel) rfl, zTB_of 791 (by decide +kernel) rfl, by decide, by decide, by decide +kernel⟩, zTB_of 790 (by decide +kernel) rfl⟩
def I_J6_bitCount : List (Nat × Instr × Nat × Nat) := [(0, .iload_n 0, 1, 1), (1, .iload_n 0, 1, 2), (2, .iconst 1, 1, 3), (3, .iushr, 1, 4), (4, .ldc_w 265, 3, 7), (7, .iand, 1, 8), (8, .isub, 1, 9), (9, .istore_n 0, 1, 10), (10, .iload_n 0, 1, 11), (11, .ldc_w 266, 3, 14), (14, .iand, 1, 15), (15, .iload_n 0, 1, 16), (16, .iconst 2, 1, 17), (17, .iushr, 1, 18), (18, .ldc_w 266, 3, 21), (21, .iand, 1, 22), (22, .iadd, 1, 23), (23, .istore_n 0, 1, 24), (24, .iload_n 0, 1, 25), (25, .iload_n 0, 1, 26), (26, .iconst 4, 1, 27), (27, .iushr, 1, 28), (28, .iadd, 1, 29), (29, .ldc_w 267, 3, 32), (32, .iand, 1, 33), (33, .istore_n 0, 1, 34), (34, .iload_n 0, 1, 35), (35, .iload_n 0, 1, 36), (36, .bipush 8, 2, 38), (38, .iushr, 1, 39), (39, .iadd, 1, 40), (40, .istore_n 0, 1, 41), (41, .iload_n 0, 1, 42), (42, .iload_n 0, 1, 43), (43, .bipush 16, 2, 45), (45, .iushr, 1, 46), (46, .iadd, 1, 47), (47, .istore_n 0, 1, 48), (48, .iload_n 0, 1, 49), (49, .bipush 63, 2, 51), (51, .iand, 1, 52), (52, .ireturn, 1, 53)]
def M_J6_bitCount : zM := (⟨"java/lang/Integer", "bitCount", "(I)I"⟩, prog_11_method_49_code, 1, some .int, I_J6_bitCount)
def R_J6_bitCount : Room := { frames := 0, cells := 0, slots := 0, locals := 0 }
theorem D_J6_bitCount : zDec M_J6_bitCount := (by decide +kernel : ∀ q ∈ I_J6_bitCount, decode prog_11_method_49_code q.1 = .ok (q.2.1, q.2.2.1) ∧ q.1 + q.2.2.1 = q.2.2.2)
theorem C_J6_bitCount : zCs M_J6_bitCount 1 := ⟨⟨zTB_of 11 (by decide +kernel) rfl, zTB_of 607 (by decide +kernel) rfl, by decide, by decide, by decide +kernel⟩, zTB_of 606 (by decide +kernel) rfl⟩
def I_J9_floorDiv : List (Nat × Instr × Nat × Nat) := [(0, .lload_n 0, 1, 1), (1, .lload_n 2, 1, 2), (2, .ldiv, 1, 3), (3, .lstore 4, 2, 5), (5, .lload_n 0, 1, 6), (6, .lload_n 2, 1, 7), (7, .lxor, 1, 8), (8, .lconst 0, 1, 9), (9, .lcmp, 1, 10), (10, .ifCond .ge 17, 3, 13), (13, .lload 4, 2, 15), (15, .lload_n 2, 1, 16), (16, .lmul, 1, 17), (17, .lload_n 0, 1, 18), (18, .lcmp, 1, 19), (19, .ifCond .eq 8, 3, 22), (22, .lload 4, 2, 24), (24, .lconst 1, 1, 25), (25, .lsub, 1, 26), (26, .lreturn, 1, 27), (27, .lload 4, 2, 29), (29, .lreturn, 1, 30)]
def M_J9_floorDiv : zM := (⟨"java/lang/Math", "floorDiv", "(JJ)J"⟩, prog_12_method_49_code, 6, some .long, I_J9_floorDiv)
def R_J9_floorDiv : Room := { frames := 0, cells := 0, slots := 0, locals := 0 }
theorem D_J9_floorDiv : zDec M_J9_floorDiv := (by decide +kernel : ∀ q ∈ I_J9_floorDiv, decode prog_12_method_49_code q.1 = .ok (q.2.1, q.2.2.1) ∧ q.1 + q.2.2.1 = q.2.2.2)
theorem C_J9_floorDiv : zCs M_J9_floorDiv 2 := ⟨⟨zTB_of 10 (by decide +kernel) rfl, zTB_of 553 (by decide +kernel) rfl, by decide, by decide, by decide +kernel⟩, zTB_of 552 (by decide +kernel) rfl⟩
end
section
/-! the code of the methods, the entries of the classes' files (by program) -/
def I_C_init : List (Nat × Instr × Nat × Nat) := [(0, .aload_n 0, 1, 1), (1, .invokespecial 5, 3, 4), (4, .aload_n 0, 1, 5), (5, .new 11, 3, 8), (8, .dup, 1, 9), (9, .invokespecial 13, 3, 12), (12, .putfield 14, 3, 15), (15, .aload_n 0, 1, 16), (16, .bipush 6, 2, 18), (18, .newarray .int, 2, 20), (20, .putfield 18, 3, 23), (23, .aload_n 0, 1, 24), (24, .new 11, 3, 27), (27, .dup, 1, 28), (28, .invokespecial 13, 3, 31), (31, .putfield 22, 3, 34), (34, .aload_n 0, 1, 35), (35, .bipush 6, 2, 37), (37, .newarray .int, 2, 39), (39, .putfield 25, 3, 42), (42, .aload_n 0, 1, 43), (43, .iconst 0, 1, 44), (44, .putfield 28, 3, 47), (47, .aload_n 0, 1, 48), (48, .new 32, 3, 51), (51, .dup, 1, 52), (52, .invokespecial 34, 3, 55), (55, .putfield 35, 3, 58), (58, .aload_n 0, 1, 59), (59, .bipush (-5), 2, 61), (61, .putfield 39, 3, 64), (64, .aload_n 0, 1, 65), (65, .new 43, 3, 68), (68, .dup, 1, 69), (69, .invokespecial 45, 3, 72), (72, .putfield 46, 3, 75), (75, .aload_n 0, 1, 76), (76, .new 50, 3, 79), (79, .dup, 1, 80), (80, .invokespecial 52, 3, 83), (83, .putfield 53, 3, 86), (86, .aload_n 0, 1, 87), (87, .new 57, 3, 90), (90, .dup, 1, 91), (91, .invokespecial 59, 3, 94), (94, .putfield 60, 3, 97), (97, .aload_n 0, 1, 98), (98, .new 64, 3, 101), (101, .dup, 1, 102), (102, .invokespecial 66, 3, 105), (105, .putfield 67, 3, 108), (108, .aload_n 0, 1, 109), (109, .new 71, 3, 112), (112, .dup, 1, 113), (113, .invokespecial 73, 3, 116), (116, .putfield 74, 3, 119), (119, .aload_n 0, 1, 120), (120, .new 71, 3, 123), (123, .dup, 1, 124), (124, .invokespecial 73, 3, 127), (127, .putfield 78, 3, 130), (130, .aload_n 0, 1, 131), (131, .sipush 361, 3, 134), (134, .newarray .long, 2, 136), (136, .putfield 81, 3, 139), (139, .aload_n 0, 1, 140), (140, .bipush 12, 2, 142), (142, .newarray .int, 2, 144), (144, .putfield 85, 3, 147), (147, .getstatic 88, 3, 150), (150, .aload_n 0, 1, 151), (151, .getfield 18, 3, 154), (154, .invokestatic 91, 3, 157), (157, .return_, 1, 158)]
def M_C_init : zM := (⟨"CamPieces", "<init>", "()V"⟩, prog_1_method_1_code, 1, none, I_C_init)
def R_C_init : Room := { frames := 3, cells := 26, slots := 777, locals := 64 }
theorem D_C_init : zDec M_C_init := (by decide +kernel : ∀ q ∈ I_C_init, decode prog_1_method_1_code q.1 = .ok (q.2.1, q.2.2.1) ∧ q.1 + q.2.2.1 = q.2.2.2)
theorem C_C_init : zCi M_C_init 0 := ⟨⟨zTB_of 1 (by decide +kernel) rfl, zTB_of 21 (by decide +kernel) rfl, by decide, by decide, by decide +kernel⟩, zTB_of 20 (by decide +kernel) rfl, rfl, rfl⟩
def I_C_piece : List (Nat × Instr × Nat × Nat) := [(0, .iload_n 1, 1, 1), (1, .ifCond .lt 9, 3, 4), (4, .iload_n 1, 1, 5), (5, .bipush 6, 2, 7), (7, .if_icmp .lt 5, 3, 10), (10, .iconst (-1), 1, 11), (11, .ireturn, 1, 12), (12, .iload_n 1, 1, 13), (13, .iload_n 2, 1, 14), (14, .iload_n 3, 1, 15), (15, .invokestatic 95, 3, 18), (18, .ifCond .ne 6, 3, 21), (21, .bipush (-2), 2, 23), (23, .ireturn, 1, 24), (24, .aload_n 0, 1, 25), (25, .getfield 14, 3, 28), (28, .invokevirtual 99, 3, 31), (31, .ifCond .eq 6, 3, 34), (34, .bipush (-4), 2, 36), (36, .ireturn, 1, 37), (37, .aload_n 0, 1, 38), (38, .getfield 14, 3, 41), (41, .invokevirtual 103, 3, 44), (44, .iload_n 2, 1, 45), (45, .iadd, 1, 46), (46, .sipush 360, 3, 49), (49, .if_icmp .le 6, 3, 52), (52, .bipush (-3), 2, 54), (54, .ireturn, 1, 55), (55, .aload_n 0, 1, 56), (56, .getfield 14, 3, 59), (59, .iload_n 1, 1, 60), (60, .iload_n 2, 1, 61), (61, .iload_n 3, 1, 62), (62, .invokevirtual 107, 3, 65), (65, .aload_n 0, 1, 66), (66, .getfield 14, 3, 69), (69, .invokevirtual 111, 3, 72), (72, .iconst 1, 1, 73), (73, .isub, 1, 74), (74, .ireturn, 1, 75)]
def M_C_piece : zM := (⟨"CamPieces", "piece", "(III)I"⟩, prog_1_method_2_code, 4, some .int, I_C_piece)
def R_C_piece : Room := { frames := 3, cells := 0, slots := 0, locals := 69 }
theorem D_C_piece : zDec M_C_piece := (by decide +kernel : ∀ q ∈ I_C_piece, decode prog_1_method_2_code q.1 = .ok (q.2.1, q.2.2.1) ∧ q.1 + q.2.2.1 = q.2.2.2)
theorem C_C_piece : zCv M_C_piece 3 := ⟨⟨zTB_of 1 (by decide +kernel) rfl, zTB_of 238 (by decide +kernel) rfl, by decide, by decide, by decide +kernel⟩, zTB_of 236 (by decide +kernel) rfl, zTB_of 237 (by decide +kernel) rfl⟩
def I_C_drop : List (Nat × Instr × Nat × Nat) := [(0, .aload_n 0, 1, 1), (1, .getfield 14, 3, 4), (4, .invokevirtual 111, 3, 7), (7, .ifCond .ne 6, 3, 10), (10, .bipush (-3), 2, 12), (12, .ireturn, 1, 13), (13, .aload_n 0, 1, 14), (14, .getfield 14, 3, 17), (17, .invokevirtual 114, 3, 20), (20, .aload_n 0, 1, 21), (21, .getfield 14, 3, 24), (24, .invokevirtual 111, 3, 27), (27, .ireturn, 1, 28)]
def M_C_drop : zM := (⟨"CamPieces", "drop", "()I"⟩, prog_1_method_3_code, 1, some .int, I_C_drop)
def R_C_drop : Room := { frames := 1, cells := 0, slots := 0, locals := 20 }
theorem D_C_drop : zDec M_C_drop := (by decide +kernel : ∀ q ∈ I_C_drop, decode prog_1_method_3_code q.1 = .ok (q.2.1, q.2.2.1) ∧ q.1 + q.2.2.1 = q.2.2.2)
theorem C_C_drop : zCv M_C_drop 0 := ⟨⟨zTB_of 1 (by decide +kernel) rfl, zTB_of 275 (by decide +kernel) rfl, by decide, by decide, by decide +kernel⟩, zTB_of 273 (by decide +kernel) rfl, zTB_of 274 (by decide +kernel) rfl⟩
def I_C_put : List (Nat × Instr × Nat × Nat) := [(0, .aload_n 0, 1, 1), (1, .getfield 14, 3, 4), (4, .iload_n 1, 1, 5), (5, .invokevirtual 117, 3, 8), (8, .ifCond .eq 12, 3, 11), (11, .iload_n 2, 1, 12), (12, .ifCond .lt 8, 3, 15), (15, .iload_n 2, 1, 16), (16, .iconst 2, 1, 17), (17, .if_icmp .le 7, 3, 20), (20, .sipush (-999), 3, 23), (23, .ireturn, 1, 24), (24, .iload_n 2, 1, 25), (25, .ifCond .ne 7, 3, 28), (28, .iload_n 3, 1, 29), (29, .goto 11, 3, 32), (32, .aload_n 0, 1, 33), (33, .getfield 14, 3, 36), (36, .iload_n 1, 1, 37), (37, .invokevirtual 121, 3, 40), (40, .istore 4, 2, 42), (42, .iload_n 2, 1, 43), (43, .iconst 1, 1, 44), (44, .if_icmp .ne 7, 3, 47), (47, .iload_n 3, 1, 48), (48, .goto 11, 3, 51), (51, .aload_n 0, 1, 52), (52, .getfield 14, 3, 55), (55, .iload_n 1, 1, 56), (56, .invokevirtual 125, 3, 59), (59, .istore 5, 2, 61), (61, .iload_n 2, 1, 62), (62, .iconst 2, 1, 63), (63, .if_icmp .ne 7, 3, 66), (66, .iload_n 3, 1, 67), (67, .goto 11, 3, 70), (70, .aload_n 0, 1, 71), (71, .getfield 14, 3, 74), (74, .iload_n 1, 1, 75), (75, .invokevirtual 128, 3, 78), (78, .istore 6, 2, 80), (80, .iload 4, 2, 82), (82, .iload 5, 2, 84), (84, .iload 6, 2, 86), (86, .invokestatic 95, 3, 89), (89, .ifCond .ne 7, 3, 92), (92, .sipush (-999), 3, 95), (95, .ireturn, 1, 96), (96, .aload_n 0, 1, 97), (97, .getfield 14, 3, 100), (100, .invokevirtual 103, 3, 103), (103, .aload_n 0, 1, 104), (104, .getfield 14, 3, 107), (107, .iload_n 1, 1, 108), (108, .invokevirtual 125, 3, 111), (111, .isub, 1, 112), (112, .iload 5, 2, 114), (114, .iadd, 1, 115), (115, .sipush 360, 3, 118), (118, .if_icmp .le 7, 3, 121), (121, .sipush (-999), 3, 124), (124, .ireturn, 1, 125), (125, .aload_n 0, 1, 126), (126, .getfield 14, 3, 129), (129, .iload_n 1, 1, 130), (130, .iload_n 2, 1, 131), (131, .invokevirtual 131, 3, 134), (134, .istore 7, 2, 136), (136, .aload_n 0, 1, 137), (137, .getfield 14, 3, 140), (140, .iload_n 1, 1, 141), (141, .iload 4, 2, 143), (143, .iload 5, 2, 145), (145, .iload 6, 2, 147), (147, .invokevirtual 135, 3, 150), (150, .iload 7, 2, 152), (152, .ireturn, 1, 153)]
def M_C_put : zM := (⟨"CamPieces", "put", "(III)I"⟩, prog_1_method_4_code, 8, some .int, I_C_put)
def R_C_put : Room := { frames := 3, cells := 0, slots := 0, locals := 64 }
theorem D_C_put : zDec M_C_put := (by decide +kernel : ∀ q ∈ I_C_put, decode prog_1_method_4_code q.1 = .ok (q.2.1, q.2.2.1) ∧ q.1 + q.2.2.1 = q.2.2.2)
theorem C_C_put : zCv M_C_put 3 := ⟨⟨zTB_of 1 (by decide +kernel) rfl, zTB_of 283 (by decide +kernel) rfl, by decide, by decide, by decide +kernel⟩, zTB_of 281 (by decide +kernel) rfl, zTB_of 282 (by decide +kernel) rfl⟩
def I_C_of : List (Nat × Instr × Nat × Nat) := [(0, .aload_n 0, 1, 1), (1, .getfield 14, 3, 4), (4, .iload_n 1, 1, 5), (5, .invokevirtual 117, 3, 8), (8, .ifCond .eq 12, 3, 11), (11, .iload_n 2, 1, 12), (12, .ifCond .lt 8, 3, 15), (15, .iload_n 2, 1, 16), (16, .iconst 4, 1, 17), (17, .if_icmp .le 7, 3, 20), (20, .sipush (-9999), 3, 23), (23, .ireturn, 1, 24), (24, .iload_n 2, 1, 25), (25, .iconst 3, 1, 26), (26, .if_icmp .ne 12, 3, 29), (29, .aload_n 0, 1, 30), (30, .getfield 14, 3, 33), (33, .iload_n 1, 1, 34), (34, .invokevirtual 139, 3, 37), (37, .ireturn, 1, 38), (38, .iload_n 2, 1, 39), (39, .iconst 4, 1, 40), (40, .if_icmp .ne 12, 3, 43), (43, .aload_n 0, 1, 44), (44, .getfield 14, 3, 47), (47, .iload_n 1, 1, 48), (48, .invokevirtual 142, 3, 51), (51, .ireturn, 1, 52), (52, .aload_n 0, 1, 53), (53, .getfield 14, 3, 56), (56, .iload_n 1, 1, 57), (57, .iload_n 2, 1, 58), (58, .invokevirtual 131, 3, 61), (61, .ireturn, 1, 62)]
def M_C_of : zM := (⟨"CamPieces", "of", "(II)I"⟩, prog_1_method_5_code, 3, some .int, I_C_of)
def R_C_of : Room := { frames := 2, cells := 0, slots := 0, locals := 44 }
theorem D_C_of : zDec M_C_of := (by decide +kernel : ∀ q ∈ I_C_of, decode prog_1_method_5_code q.1 = .ok (q.2.1, q.2.2.1) ∧ q.1 + q.2.2.1 = q.2.2.2)
theorem C_C_of : zCv M_C_of 2 := ⟨⟨zTB_of 1 (by decide +kernel) rfl, zTB_of 307 (by decide +kernel) rfl, by decide, by decide, by decide +kernel⟩, zTB_of 305 (by decide +kernel) rfl, zTB_of 306 (by decide +kernel) rfl⟩
def I_C_tell : List (Nat × Instr × Nat × Nat) := [(0, .iload_n 1, 1, 1), (1, .ifCond .lt 9, 3, 4), (4, .iload_n 1, 1, 5), (5, .bipush 6, 2, 7), (7, .if_icmp .lt 5, 3, 10), (10, .iconst (-1), 1, 11), (11, .ireturn, 1, 12), (12, .iload_n 2, 1, 13), (13, .getstatic 145, 3, 16), (16, .iload_n 1, 1, 17), (17, .invokestatic 148, 3, 20), (20, .if_icmp .lt 14, 3, 23), (23, .iload_n 2, 1, 24), (24, .getstatic 152, 3, 27), (27, .iload_n 1, 1, 28), (28, .invokestatic 148, 3, 31), (31, .if_icmp .le 6, 3, 34), (34, .bipush (-2), 2, 36), (36, .ireturn, 1, 37), (37, .aload_n 0, 1, 38), (38, .getfield 18, 3, 41), (41, .iload_n 1, 1, 42), (42, .invokestatic 148, 3, 45), (45, .istore_n 3, 1, 46), (46, .aload_n 0, 1, 47), (47, .getfield 18, 3, 50), (50, .iload_n 1, 1, 51), (51, .iload_n 2, 1, 52), (52, .invokestatic 155, 3, 55), (55, .iload_n 3, 1, 56), (56, .ireturn, 1, 57)]
def M_C_tell : zM := (⟨"CamPieces", "tell", "(II)I"⟩, prog_1_method_6_code, 4, some .int, I_C_tell)
def R_C_tell : Room := { frames := 1, cells := 0, slots := 0, locals := 22 }
theorem D_C_tell : zDec M_C_tell := (by decide +kernel : ∀ q ∈ I_C_tell, decode prog_1_method_6_code q.1 = .ok (q.2.1, q.2.2.1) ∧ q.1 + q.2.2.1 = q.2.2.2)
theorem C_C_tell : zCv M_C_tell 2 := ⟨⟨zTB_of 1 (by decide +kernel) rfl, zTB_of 316 (by decide +kernel) rfl, by decide, by decide, by decide +kernel⟩, zTB_of 314 (by decide +kernel) rfl, zTB_of 315 (by decide +kernel) rfl⟩
def I_C_told : List (Nat × Instr × Nat × Nat) := [(0, .iload_n 1, 1, 1), (1, .ifCond .lt 18, 3, 4), (4, .iload_n 1, 1, 5), (5, .bipush 6, 2, 7), (7, .if_icmp .ge 12, 3, 10), (10, .aload_n 0, 1, 11), (11, .getfield 18, 3, 14), (14, .iload_n 1, 1, 15), (15, .invokestatic 148, 3, 18), (18, .ireturn, 1, 19), (19, .iload_n 1, 1, 20), (20, .tableswitch 72 6 9 #[32, 40, 48, 64], 32, 52), (52, .aload_n 0, 1, 53), (53, .getfield 14, 3, 56), (56, .invokevirtual 111, 3, 59), (59, .ireturn, 1, 60), (60, .aload_n 0, 1, 61), (61, .getfield 14, 3, 64), (64, .invokevirtual 103, 3, 67), (67, .ireturn, 1, 68), (68, .aload_n 0, 1, 69), (69, .getfield 14, 3, 72), (72, .invokevirtual 159, 3, 75), (75, .ifCond .eq 7, 3, 78), (78, .iconst 1, 1, 79), (79, .goto 4, 3, 82), (82, .iconst 0, 1, 83), (83, .ireturn, 1, 84), (84, .aload_n 0, 1, 85), (85, .getfield 35, 3, 88), (88, .invokevirtual 162, 3, 91), (91, .ireturn, 1, 92), (92, .iconst (-1), 1, 93), (93, .ireturn, 1, 94)]
def M_C_told : zM := (⟨"CamPieces", "told", "(I)I"⟩, prog_1_method_7_code, 2, some .int, I_C_told)
def R_C_told : Room := { frames := 4, cells := 0, slots := 0, locals := 84 }
theorem D_C_told : zDec M_C_told := (by decide +kernel : ∀ q ∈ I_C_told, decode prog_1_method_7_code q.1 = .ok (q.2.1, q.2.2.1) ∧ q.1 + q.2.2.1 = q.2.2.2)
theorem C_C_told : zCv M_C_told 1 := ⟨⟨zTB_of 1 (by decide +kernel) rfl, zTB_of 324 (by decide +kernel) rfl, by decide, by decide, by decide +kernel⟩, zTB_of 322 (by decide +kernel) rfl, zTB_of 323 (by decide +kernel) rfl⟩
def I_C_mirror : List (Nat × Instr × Nat × Nat) := [(0, .aload_n 0, 1, 1), (1, .getfield 14, 3, 4), (4, .invokevirtual 163, 3, 7), (7, .aload_n 0, 1, 8), (8, .getfield 14, 3, 11), (11, .invokevirtual 103, 3, 14), (14, .ireturn, 1, 15)]
def M_C_mirror : zM := (⟨"CamPieces", "mirror", "()I"⟩, prog_1_method_8_code, 1, some .int, I_C_mirror)
def R_C_mirror : Room := { frames := 3, cells := 0, slots := 0, locals := 71 }
theorem D_C_mirror : zDec M_C_mirror := (by decide +kernel : ∀ q ∈ I_C_mirror, decode prog_1_method_8_code q.1 = .ok (q.2.1, q.2.2.1) ∧ q.1 + q.2.2.1 = q.2.2.2)
theorem C_C_mirror : zCv M_C_mirror 0 := ⟨⟨zTB_of 1 (by decide +kernel) rfl, zTB_of 338 (by decide +kernel) rfl, by decide, by decide, by decide +kernel⟩, zTB_of 336 (by decide +kernel) rfl, zTB_of 337 (by decide +kernel) rfl⟩
def I_C_alike : List (Nat × Instr × Nat × Nat) := [(0, .aload_n 0, 1, 1), (1, .getfield 14, 3, 4), (4, .iload_n 1, 1, 5), (5, .invokevirtual 117, 3, 8), (8, .ifCond .ne 5, 3, 11), (11, .iconst (-1), 1, 12), (12, .ireturn, 1, 13), (13, .iconst 0, 1, 14), (14, .istore_n 2, 1, 15), (15, .iconst 0, 1, 16), (16, .istore_n 3, 1, 17), (17, .iload_n 3, 1, 18), (18, .aload_n 0, 1, 19), (19, .getfield 14, 3, 22), (22, .invokevirtual 111, 3, 25), (25, .if_icmp .ge 24, 3, 28), (28, .aload_n 0, 1, 29), (29, .getfield 14, 3, 32), (32, .iload_n 3, 1, 33), (33, .iload_n 1, 1, 34), (34, .invokevirtual 166, 3, 37), (37, .ifCond .eq 6, 3, 40), (40, .iinc 2 1, 3, 43), (43, .iinc 3 1, 3, 46), (46, .goto (-29), 3, 49), (49, .iload_n 2, 1, 50), (50, .ireturn, 1, 51)]
def M_C_alike : zM := (⟨"CamPieces", "alike", "(I)I"⟩, prog_1_method_9_code, 4, some .int, I_C_alike)
def R_C_alike : Room := { frames := 2, cells := 0, slots := 0, locals := 43 }
theorem D_C_alike : zDec M_C_alike := (by decide +kernel : ∀ q ∈ I_C_alike, decode prog_1_method_9_code q.1 = .ok (q.2.1, q.2.2.1) ∧ q.1 + q.2.2.1 = q.2.2.2)
theorem C_C_alike : zCv M_C_alike 1 := ⟨⟨zTB_of 1 (by decide +kernel) rfl, zTB_of 349 (by decide +kernel) rfl, by decide, by decide, by decide +kernel⟩, zTB_of 347 (by decide +kernel) rfl, zTB_of 348 (by decide +kernel) rfl⟩
def I_C_unlike : List (Nat × Instr × Nat × Nat) := [(0, .iconst 0, 1, 1), (1, .istore_n 2, 1, 2), (2, .iconst 0, 1, 3), (3, .istore_n 3, 1, 4), (4, .iload_n 3, 1, 5), (5, .aload_n 0, 1, 6), (6, .getfield 14, 3, 9), (9, .invokevirtual 111, 3, 12), (12, .if_icmp .ge 33, 3, 15), (15, .aload_n 0, 1, 16), (16, .getfield 14, 3, 19), (19, .iload_n 3, 1, 20), (20, .invokevirtual 170, 3, 23), (23, .ifCond .ne 6, 3, 26), (26, .goto 13, 3, 29), (29, .iload_n 2, 1, 30), (30, .iload_n 1, 1, 31), (31, .if_icmp .ne 5, 3, 34), (34, .iload_n 3, 1, 35), (35, .ireturn, 1, 36), (36, .iinc 2 1, 3, 39), (39, .iinc 3 1, 3, 42), (42, .goto (-38), 3, 45), (45, .iload_n 1, 1, 46), (46, .iconst (-1), 1, 47), (47, .if_icmp .ne 7, 3, 50), (50, .iload_n 2, 1, 51), (51, .goto 4, 3, 54), (54, .iconst (-1), 1, 55), (55, .ireturn, 1, 56)]
def M_C_unlike : zM := (⟨"CamPieces", "unlike", "(I)I"⟩, prog_1_method_10_code, 4, some .int, I_C_unlike)
def R_C_unlike : Room := { frames := 3, cells := 0, slots := 0, locals := 65 }
theorem D_C_unlike : zDec M_C_unlike := (by decide +kernel : ∀ q ∈ I_C_unlike, decode prog_1_method_10_code q.1 = .ok (q.2.1, q.2.2.1) ∧ q.1 + q.2.2.1 = q.2.2.2)
theorem C_C_unlike : zCv M_C_unlike 1 := ⟨⟨zTB_of 1 (by decide +kernel) rfl, zTB_of 357 (by decide +kernel) rfl, by decide, by decide, by decide +kernel⟩, zTB_of 355 (by decide +kernel) rfl, zTB_of 356 (by decide +kernel) rfl⟩
def I_C_steepestPiece : List (Nat × Instr × Nat × Nat) := [(0, .bipush (-5), 2, 2), (2, .istore_n 1, 1, 3), (3, .iconst 0, 1, 4), (4, .istore_n 2, 1, 5), (5, .iload_n 2, 1, 6), (6, .aload_n 0, 1, 7), (7, .getfield 14, 3, 10), (10, .invokevirtual 111, 3, 13), (13, .if_icmp .ge 27, 3, 16), (16, .iload_n 1, 1, 17), (17, .ifCond .lt 15, 3, 20), (20, .aload_n 0, 1, 21), (21, .getfield 14, 3, 24), (24, .iload_n 2, 1, 25), (25, .iload_n 1, 1, 26), (26, .invokevirtual 173, 3, 29), (29, .ifCond .eq 5, 3, 32), (32, .iload_n 2, 1, 33), (33, .istore_n 1, 1, 34), (34, .iinc 2 1, 3, 37), (37, .goto (-32), 3, 40), (40, .iload_n 1, 1, 41), (41, .ireturn, 1, 42)]
def M_C_steepestPiece : zM := (⟨"CamPieces", "steepestPiece", "()I"⟩, prog_1_method_11_code, 3, some .int, I_C_steepestPiece)
def R_C_steepestPiece : Room := { frames := 2, cells := 0, slots := 0, locals := 46 }
theorem D_C_steepestPiece : zDec M_C_steepestPiece := (by decide +kernel : ∀ q ∈ I_C_steepestPiece, decode prog_1_method_11_code q.1 = .ok (q.2.1, q.2.2.1) ∧ q.1 + q.2.2.1 = q.2.2.2)
theorem C_C_steepestPiece : zCv M_C_steepestPiece 0 := ⟨⟨zTB_of 1 (by decide +kernel) rfl, zTB_of 366 (by decide +kernel) rfl, by decide, by decide, by decide +kernel⟩, zTB_of 364 (by decide +kernel) rfl, zTB_of 365 (by decide +kernel) rfl⟩
def I_C_at : List (Nat × Instr × Nat × Nat) := [(0, .iload_n 3, 1, 1), (1, .ifCond .lt 25, 3, 4), (4, .iload_n 3, 1, 5), (5, .iconst 2, 1, 6), (6, .if_icmp .gt 20, 3, 9), (9, .iload 4, 2, 11), (11, .invokestatic 176, 3, 14), (14, .ifCond .eq 12, 3, 17), (17, .aload_n 0, 1, 18), (18, .iload_n 1, 1, 19), (19, .iload_n 2, 1, 20), (20, .invokevirtual 179, 3, 23), (23, .ifCond .ne 7, 3, 26), (26, .ldc2_w 182, 3, 29), (29, .lreturn, 1, 30), (30, .iload_n 3, 1, 31), (31, .ifCond .ne 13, 3, 34), (34, .aload_n 0, 1, 35), (35, .getfield 53, 3, 38), (38, .invokevirtual 184, 3, 41), (41, .goto 25, 3, 44), (44, .iload_n 3, 1, 45), (45, .iconst 1, 1, 46), (46, .if_icmp .ne 13, 3, 49), (49, .aload_n 0, 1, 50), (50, .getfield 53, 3, 53), (53, .getfield 188, 3, 56), (56, .goto 10, 3, 59), (59, .aload_n 0, 1, 60), (60, .getfield 53, 3, 63), (63, .getfield 192, 3, 66), (66, .lstore 5, 2, 68), (68, .lload 5, 2, 70), (70, .aload_n 0, 1, 71), (71, .getfield 53, 3, 74), (74, .getfield 195, 3, 77), (77, .iload 4, 2, 79), (79, .invokestatic 198, 3, 82), (82, .lreturn, 1, 83)]
def M_C_at : zM := (⟨"CamPieces", "at", "(IIII)J"⟩, prog_1_method_12_code, 7, some .long, I_C_at)
def R_C_at : Room := { frames := 5, cells := 0, slots := 0, locals := 138 }
theorem D_C_at : zDec M_C_at := (by decide +kernel : ∀ q ∈ I_C_at, decode prog_1_method_12_code q.1 = .ok (q.2.1, q.2.2.1) ∧ q.1 + q.2.2.1 = q.2.2.2)
theorem C_C_at : zCv M_C_at 4 := ⟨⟨zTB_of 1 (by decide +kernel) rfl, zTB_of 377 (by decide +kernel) rfl, by decide, by decide, by decide +kernel⟩, zTB_of 375 (by decide +kernel) rfl, zTB_of 376 (by decide +kernel) rfl⟩
def I_C_jump : List (Nat × Instr × Nat × Nat) := [(0, .aload_n 0, 1, 1), (1, .iload_n 1, 1, 2), (2, .invokevirtual 202, 3, 5), (5, .ifCond .eq 19, 3, 8), (8, .iload_n 2, 1, 9), (9, .ifCond .lt 15, 3, 12), (12, .iload_n 2, 1, 13), (13, .iconst 1, 1, 14), (14, .if_icmp .gt 10, 3, 17), (17, .iload_n 3, 1, 18), (18, .invokestatic 176, 3, 21), (21, .ifCond .ne 7, 3, 24), (24, .ldc2_w 182, 3, 27), (27, .lreturn, 1, 28), (28, .aload_n 0, 1, 29), (29, .iload_n 1, 1, 30), (30, .iload_n 2, 1, 31), (31, .iconst 1, 1, 32), (32, .iadd, 1, 33), (33, .invokevirtual 205, 3, 36), (36, .iload_n 3, 1, 37), (37, .ifCond .ne 13, 3, 40), (40, .aload_n 0, 1, 41), (41, .getfield 74, 3, 44), (44, .getfield 209, 3, 47), (47, .goto 10, 3, 50), (50, .aload_n 0, 1, 51), (51, .getfield 74, 3, 54), (54, .getfield 212, 3, 57), (57, .lreturn, 1, 58)]
def M_C_jump : zM := (⟨"CamPieces", "jump", "(III)J"⟩, prog_1_method_13_code, 4, some .long, I_C_jump)
def R_C_jump : Room := { frames := 5, cells := 0, slots := 0, locals := 132 }
theorem D_C_jump : zDec M_C_jump := (by decide +kernel : ∀ q ∈ I_C_jump, decode prog_1_method_13_code q.1 = .ok (q.2.1, q.2.2.1) ∧ q.1 + q.2.2.1 = q.2.2.2)
theorem C_C_jump : zCv M_C_jump 3 := ⟨⟨zTB_of 1 (by decide +kernel) rfl, zTB_of 430 (by decide +kernel) rfl, by decide, by decide, by decide +kernel⟩, zTB_of 428 (by decide +kernel) rfl, zTB_of 429 (by decide +kernel) rfl⟩
def I_C_join : List (Nat × Instr × Nat × Nat) := [(0, .aload_n 0, 1, 1), (1, .iload_n 1, 1, 2), (2, .invokevirtual 202, 3, 5), (5, .ifCond .eq 11, 3, 8), (8, .aload_n 0, 1, 9), (9, .iload_n 1, 1, 10), (10, .invokevirtual 213, 3, 13), (13, .goto 4, 3, 16), (16, .iconst (-1), 1, 17), (17, .ireturn, 1, 18)]
def M_C_join : zM := (⟨"CamPieces", "join", "(I)I"⟩, prog_1_method_14_code, 2, some .int, I_C_join)
def R_C_join : Room := { frames := 6, cells := 0, slots := 0, locals := 153 }
theorem D_C_join : zDec M_C_join := (by decide +kernel : ∀ q ∈ I_C_join, decode prog_1_method_14_code q.1 = .ok (q.2.1, q.2.2.1) ∧ q.1 + q.2.2.1 = q.2.2.2)
theorem C_C_join : zCv M_C_join 1 := ⟨⟨zTB_of 1 (by decide +kernel) rfl, zTB_of 459 (by decide +kernel) rfl, by decide, by decide, by decide +kernel⟩, zTB_of 457 (by decide +kernel) rfl, zTB_of 458 (by decide +kernel) rfl⟩
def I_C_joins : List (Nat × Instr × Nat × Nat) := [(0, .iload_n 1, 1, 1), (1, .ifCond .lt 8, 3, 4), (4, .iload_n 1, 1, 5), (5, .iconst 2, 1, 6), (6, .if_icmp .le 5, 3, 9), (9, .iconst (-1), 1, 10), (10, .ireturn, 1, 11), (11, .iconst 0, 1, 12), (12, .istore_n 2, 1, 13), (13, .iconst 0, 1, 14), (14, .istore_n 3, 1, 15), (15, .iload_n 3, 1, 16), (16, .aload_n 0, 1, 17), (17, .getfield 14, 3, 20), (20, .invokevirtual 111, 3, 23), (23, .if_icmp .ge 32, 3, 26), (26, .aload_n 0, 1, 27), (27, .iload_n 3, 1, 28), (28, .invokevirtual 202, 3, 31), (31, .ifCond .eq 18, 3, 34), (34, .aload_n 0, 1, 35), (35, .iload_n 3, 1, 36), (36, .invokevirtual 213, 3, 39), (39, .iload_n 1, 1, 40), (40, .if_icmp .ne 9, 3, 43), (43, .iload_n 2, 1, 44), (44, .iconst 1, 1, 45), (45, .iload_n 3, 1, 46), (46, .ishl, 1, 47), (47, .ior, 1, 48), (48, .istore_n 2, 1, 49), (49, .iinc 3 1, 3, 52), (52, .goto (-37), 3, 55), (55, .iload_n 2, 1, 56), (56, .ireturn, 1, 57)]
def M_C_joins : zM := (⟨"CamPieces", "joins", "(I)I"⟩, prog_1_method_15_code, 4, some .int, I_C_joins)
def R_C_joins : Room := { frames := 6, cells := 0, slots := 0, locals := 153 }
theorem D_C_joins : zDec M_C_joins := (by decide +kernel : ∀ q ∈ I_C_joins, decode prog_1_method_15_code q.1 = .ok (q.2.1, q.2.2.1) ∧ q.1 + q.2.2.1 = q.2.2.2)
theorem C_C_joins : zCv M_C_joins 1 := ⟨⟨zTB_of 1 (by decide +kernel) rfl, zTB_of 467 (by decide +kernel) rfl, by decide, by decide, by decide +kernel⟩, zTB_of 465 (by decide +kernel) rfl, zTB_of 466 (by decide +kernel) rfl⟩
def I_C_extreme : List (Nat × Instr × Nat × Nat) := [(0, .iload_n 1, 1, 1), (1, .ifCond .lt 8, 3, 4), (4, .iload_n 1, 1, 5), (5, .iconst 1, 1, 6), (6, .if_icmp .le 5, 3, 9), (9, .iconst (-1), 1, 10), (10, .ireturn, 1, 11), (11, .aload_n 0, 1, 12), (12, .getfield 14, 3, 15), (15, .invokevirtual 111, 3, 18), (18, .ifCond .ne 6, 3, 21), (21, .bipush (-5), 2, 23), (23, .ireturn, 1, 24), (24, .iload_n 1, 1, 25), (25, .ifCond .ne 7, 3, 28), (28, .iconst 1, 1, 29), (29, .goto 4, 3, 32), (32, .iconst (-1), 1, 33), (33, .istore_n 2, 1, 34), (34, .iconst 0, 1, 35), (35, .istore_n 3, 1, 36), (36, .iconst 0, 1, 37), (37, .istore 4, 2, 39), (39, .iconst 0, 1, 40), (40, .istore 5, 2, 42), (42, .iconst 0, 1, 43), (43, .istore 6, 2, 45), (45, .iconst 0, 1, 46), (46, .istore 7, 2, 48), (48, .iload 7, 2, 50), (50, .aload_n 0, 1, 51), (51, .getfield 14, 3, 54), (54, .invokevirtual 111, 3, 57), (57, .if_icmp .ge 53, 3, 60), (60, .iload 4, 2, 62), (62, .aload_n 0, 1, 63), (63, .getfield 14, 3, 66), (66, .iload 7, 2, 68), (68, .invokevirtual 125, 3, 71), (71, .iadd, 1, 72), (72, .istore 4, 2, 74), (74, .iload 5, 2, 76), (76, .aload_n 0, 1, 77), (77, .getfield 14, 3, 80), (80, .iload 7, 2, 82), (82, .invokevirtual 128, 3, 85), (85, .iload_n 2, 1, 86), (86, .imul, 1, 87), (87, .iadd, 1, 88), (88, .istore 5, 2, 90), (90, .iload 5, 2, 92), (92, .iload 6, 2, 94), (94, .if_icmp .le 10, 3, 97), (97, .iload 5, 2, 99), (99, .istore 6, 2, 101), (101, .iload 4, 2, 103), (103, .istore_n 3, 1, 104), (104, .iinc 7 1, 3, 107), (107, .goto (-59), 3, 110), (110, .iload_n 3, 1, 111), (111, .ireturn, 1, 112)]
def M_C_extreme : zM := (⟨"CamPieces", "extreme", "(I)I"⟩, prog_1_method_16_code, 8, some .int, I_C_extreme)
def R_C_extreme : Room := { frames := 1, cells := 0, slots := 0, locals := 21 }
theorem D_C_extreme : zDec M_C_extreme := (by decide +kernel : ∀ q ∈ I_C_extreme, decode prog_1_method_16_code q.1 = .ok (q.2.1, q.2.2.1) ∧ q.1 + q.2.2.1 = q.2.2.2)
theorem C_C_extreme : zCv M_C_extreme 1 := ⟨⟨zTB_of 1 (by decide +kernel) rfl, zTB_of 471 (by decide +kernel) rfl, by decide, by decide, by decide +kernel⟩, zTB_of 469 (by decide +kernel) rfl, zTB_of 470 (by decide +kernel) rfl⟩
def I_C_curve : List (Nat × Instr × Nat × Nat) := [(0, .iload_n 3, 1, 1), (1, .invokestatic 176, 3, 4), (4, .ifCond .eq 12, 3, 7), (7, .aload_n 0, 1, 8), (8, .iload_n 1, 1, 9), (9, .iload_n 2, 1, 10), (10, .invokevirtual 179, 3, 13), (13, .ifCond .ne 7, 3, 16), (16, .ldc2_w 182, 3, 19), (19, .lreturn, 1, 20), (20, .aload_n 0, 1, 21), (21, .invokevirtual 216, 3, 24), (24, .aload_n 0, 1, 25), (25, .getfield 53, 3, 28), (28, .getfield 195, 3, 31), (31, .iload_n 3, 1, 32), (32, .invokestatic 198, 3, 35), (35, .lreturn, 1, 36)]
def M_C_curve : zM := (⟨"CamPieces", "curve", "(III)J"⟩, prog_1_method_17_code, 4, some .long, I_C_curve)
def R_C_curve : Room := { frames := 5, cells := 0, slots := 0, locals := 138 }
theorem D_C_curve : zDec M_C_curve := (by decide +kernel : ∀ q ∈ I_C_curve, decode prog_1_method_17_code q.1 = .ok (q.2.1, q.2.2.1) ∧ q.1 + q.2.2.1 = q.2.2.2)
theorem C_C_curve : zCv M_C_curve 3 := ⟨⟨zTB_of 1 (by decide +kernel) rfl, zTB_of 475 (by decide +kernel) rfl, by decide, by decide, by decide +kernel⟩, zTB_of 473 (by decide +kernel) rfl, zTB_of 474 (by decide +kernel) rfl⟩
def I_C_pressure : List (Nat × Instr × Nat × Nat) := [(0, .iload_n 3, 1, 1), (1, .invokestatic 176, 3, 4), (4, .ifCond .eq 12, 3, 7), (7, .aload_n 0, 1, 8), (8, .iload_n 1, 1, 9), (9, .iload_n 2, 1, 10), (10, .invokevirtual 179, 3, 13), (13, .ifCond .ne 7, 3, 16), (16, .ldc2_w 182, 3, 19), (19, .lreturn, 1, 20), (20, .aload_n 0, 1, 21), (21, .invokevirtual 219, 3, 24), (24, .lstore 4, 2, 26), (26, .lload 4, 2, 28), (28, .lconst 0, 1, 29), (29, .lcmp, 1, 30), (30, .ifCond .le 23, 3, 33), (33, .ldc2_w 222, 3, 36), (36, .aload_n 0, 1, 37), (37, .getfield 53, 3, 40), (40, .getfield 188, 3, 43), (43, .lmul, 1, 44), (44, .lload 4, 2, 46), (46, .iload_n 3, 1, 47), (47, .invokestatic 198, 3, 50), (50, .goto 6, 3, 53), (53, .ldc2_w 182, 3, 56), (56, .lreturn, 1, 57)]
def M_C_pressure : zM := (⟨"CamPieces", "pressure", "(III)J"⟩, prog_1_method_18_code, 6, some .long, I_C_pressure)
def R_C_pressure : Room := { frames := 5, cells := 0, slots := 0, locals := 138 }
theorem D_C_pressure : zDec M_C_pressure := (by decide +kernel : ∀ q ∈ I_C_pressure, decode prog_1_method_18_code q.1 = .ok (q.2.1, q.2.2.1) ∧ q.1 + q.2.2.1 = q.2.2.2)
theorem C_C_pressure : zCv M_C_pressure 3 := ⟨⟨zTB_of 1 (by decide +kernel) rfl, zTB_of 492 (by decide +kernel) rfl, by decide, by decide, by decide +kernel⟩, zTB_of 490 (by decide +kernel) rfl, zTB_of 491 (by decide +kernel) rfl⟩
def I_C_force : List (Nat × Instr × Nat × Nat) := [(0, .iload_n 3, 1, 1), (1, .invokestatic 176, 3, 4), (4, .ifCond .eq 12, 3, 7), (7, .aload_n 0, 1, 8), (8, .iload_n 1, 1, 9), (9, .iload_n 2, 1, 10), (10, .invokevirtual 179, 3, 13), (13, .ifCond .ne 7, 3, 16), (16, .ldc2_w 182, 3, 19), (19, .lreturn, 1, 20), (20, .aload_n 0, 1, 21), (21, .invokevirtual 224, 3, 24), (24, .aload_n 0, 1, 25), (25, .getfield 53, 3, 28), (28, .getfield 195, 3, 31), (31, .iload_n 3, 1, 32), (32, .invokestatic 198, 3, 35), (35, .lreturn, 1, 36)]
def M_C_force : zM := (⟨"CamPieces", "force", "(III)J"⟩, prog_1_method_19_code, 4, some .long, I_C_force)
def R_C_force : Room := { frames := 5, cells := 0, slots := 0, locals := 138 }
theorem D_C_force : zDec M_C_force := (by decide +kernel : ∀ q ∈ I_C_force, decode prog_1_method_19_code q.1 = .ok (q.2.1, q.2.2.1) ∧ q.1 + q.2.2.1 = q.2.2.2)
theorem C_C_force : zCv M_C_force 3 := ⟨⟨zTB_of 1 (by decide +kernel) rfl, zTB_of 497 (by decide +kernel) rfl, by decide, by decide, by decide +kernel⟩, zTB_of 495 (by decide +kernel) rfl, zTB_of 496 (by decide +kernel) rfl⟩
def I_C_count : List (Nat × Instr × Nat × Nat) := [(0, .iload_n 1, 1, 1), (1, .ifCond .lt 8, 3, 4), (4, .iload_n 1, 1, 5), (5, .iconst 1, 1, 6), (6, .if_icmp .le 5, 3, 9), (9, .iconst (-1), 1, 10), (10, .ireturn, 1, 11), (11, .iconst 0, 1, 12), (12, .istore_n 2, 1, 13), (13, .iconst (-1), 1, 14), (14, .istore_n 3, 1, 15), (15, .aload_n 0, 1, 16), (16, .getfield 60, 3, 19), (19, .aload_n 0, 1, 20), (20, .getfield 14, 3, 23), (23, .invokevirtual 227, 3, 26), (26, .iconst 0, 1, 27), (27, .istore 4, 2, 29), (29, .iload 4, 2, 31), (31, .sipush 375, 3, 34), (34, .if_icmp .ge 73, 3, 37), (37, .aload_n 0, 1, 38), (38, .getfield 60, 3, 41), (41, .aload_n 0, 1, 42), (42, .getfield 14, 3, 45), (45, .aload_n 0, 1, 46), (46, .getfield 53, 3, 49), (49, .invokevirtual 231, 3, 52), (52, .ifCond .eq 55, 3, 55), (55, .iload_n 1, 1, 56), (56, .ifCond .ne 10, 3, 59), (59, .aload_n 0, 1, 60), (60, .invokevirtual 216, 3, 63), (63, .goto 7, 3, 66), (66, .aload_n 0, 1, 67), (67, .invokevirtual 224, 3, 70), (70, .lstore 5, 2, 72), (72, .lload 5, 2, 74), (74, .lconst 0, 1, 75), (75, .lcmp, 1, 76), (76, .ifCond .gt 25, 3, 79), (79, .aload_n 0, 1, 80), (80, .getfield 60, 3, 83), (83, .getfield 235, 3, 86), (86, .iload_n 3, 1, 87), (87, .if_icmp .eq 14, 3, 90), (90, .aload_n 0, 1, 91), (91, .getfield 60, 3, 94), (94, .getfield 235, 3, 97), (97, .istore_n 3, 1, 98), (98, .iinc 2 1, 3, 101), (101, .iinc 4 1, 3, 104), (104, .goto (-75), 3, 107), (107, .iload_n 2, 1, 108), (108, .ireturn, 1, 109)]
def M_C_count : zM := (⟨"CamPieces", "count", "(I)I"⟩, prog_1_method_20_code, 7, some .int, I_C_count)
def R_C_count : Room := { frames := 5, cells := 0, slots := 0, locals := 134 }
theorem D_C_count : zDec M_C_count := (by decide +kernel : ∀ q ∈ I_C_count, decode prog_1_method_20_code q.1 = .ok (q.2.1, q.2.2.1) ∧ q.1 + q.2.2.1 = q.2.2.2)
theorem C_C_count : zCv M_C_count 1 := ⟨⟨zTB_of 1 (by decide +kernel) rfl, zTB_of 517 (by decide +kernel) rfl, by decide, by decide, by decide +kernel⟩, zTB_of 515 (by decide +kernel) rfl, zTB_of 516 (by decide +kernel) rfl⟩
def I_C_leastRadius : List (Nat × Instr × Nat × Nat) := [(0, .aload_n 0, 1, 1), (1, .getfield 67, 3, 4), (4, .getstatic 145, 3, 7), (7, .iconst 0, 1, 8), (8, .invokestatic 148, 3, 11), (11, .i2l, 1, 12), (12, .getstatic 152, 3, 15), (15, .iconst 0, 1, 16), (16, .invokestatic 148, 3, 19), (19, .i2l, 1, 20), (20, .invokevirtual 238, 3, 23), (23, .aload_n 0, 1, 24), (24, .getfield 60, 3, 27), (27, .aload_n 0, 1, 28), (28, .getfield 14, 3, 31), (31, .invokevirtual 227, 3, 34), (34, .iconst 0, 1, 35), (35, .istore_n 1, 1, 36), (36, .iload_n 1, 1, 37), (37, .sipush 375, 3, 40), (40, .if_icmp .ge 60, 3, 43), (43, .aload_n 0, 1, 44), (44, .getfield 60, 3, 47), (47, .aload_n 0, 1, 48), (48, .getfield 14, 3, 51), (51, .aload_n 0, 1, 52), (52, .getfield 53, 3, 55), (55, .invokevirtual 231, 3, 58), (58, .ifCond .eq 42, 3, 61), (61, .aload_n 0, 1, 62), (62, .getfield 67, 3, 65), (65, .aload_n 0, 1, 66), (66, .getfield 53, 3, 69), (69, .invokevirtual 184, 3, 72), (72, .ldc2_w 242, 3, 75), (75, .aload_n 0, 1, 76), (76, .getfield 53, 3, 79), (79, .getfield 192, 3, 82), (82, .lmul, 1, 83), (83, .ladd, 1, 84), (84, .aload_n 0, 1, 85), (85, .getfield 53, 3, 88), (88, .getfield 195, 3, 91), (91, .invokevirtual 244, 3, 94), (94, .iinc 1 1, 3, 97), (97, .goto (-61), 3, 100), (100, .aload_n 0, 1, 101), (101, .getfield 67, 3, 104), (104, .invokevirtual 247, 3, 107), (107, .ireturn, 1, 108)]
def M_C_leastRadius : zM := (⟨"CamPieces", "leastRadius", "()I"⟩, prog_1_method_21_code, 2, some .int, I_C_leastRadius)
def R_C_leastRadius : Room := { frames := 5, cells := 0, slots := 0, locals := 134 }
theorem D_C_leastRadius : zDec M_C_leastRadius := (by decide +kernel : ∀ q ∈ I_C_leastRadius, decode prog_1_method_21_code q.1 = .ok (q.2.1, q.2.2.1) ∧ q.1 + q.2.2.1 = q.2.2.2)
theorem C_C_leastRadius : zCv M_C_leastRadius 0 := ⟨⟨zTB_of 1 (by decide +kernel) rfl, zTB_of 542 (by decide +kernel) rfl, by decide, by decide, by decide +kernel⟩, zTB_of 540 (by decide +kernel) rfl, zTB_of 541 (by decide +kernel) rfl⟩
def I_C_steepest : List (Nat × Instr × Nat × Nat) := [(0, .bipush (-5), 2, 2), (2, .istore_n 1, 1, 3), (3, .aload_n 0, 1, 4), (4, .getfield 60, 3, 7), (7, .aload_n 0, 1, 8), (8, .getfield 14, 3, 11), (11, .invokevirtual 227, 3, 14), (14, .iconst 0, 1, 15), (15, .istore_n 2, 1, 16), (16, .iload_n 2, 1, 17), (17, .sipush 375, 3, 20), (20, .if_icmp .ge 98, 3, 23), (23, .aload_n 0, 1, 24), (24, .getfield 60, 3, 27), (27, .aload_n 0, 1, 28), (28, .getfield 14, 3, 31), (31, .aload_n 0, 1, 32), (32, .getfield 53, 3, 35), (35, .invokevirtual 231, 3, 38), (38, .ifCond .eq 80, 3, 41), (41, .aload_n 0, 1, 42), (42, .invokevirtual 219, 3, 45), (45, .lstore_n 3, 1, 46), (46, .aload_n 0, 1, 47), (47, .getfield 53, 3, 50), (50, .getfield 188, 3, 53), (53, .invokestatic 250, 3, 56), (56, .lstore 5, 2, 58), (58, .lload_n 3, 1, 59), (59, .lconst 0, 1, 60), (60, .lcmp, 1, 61), (61, .ifCond .gt 6, 3, 64), (64, .goto 48, 3, 67), (67, .iload_n 1, 1, 68), (68, .ifCond .lt 26, 3, 71), (71, .lload 5, 2, 73), (73, .lload_n 3, 1, 74), (74, .aload_n 0, 1, 75), (75, .getfield 74, 3, 78), (78, .getfield 209, 3, 81), (81, .aload_n 0, 1, 82), (82, .getfield 74, 3, 85), (85, .getfield 212, 3, 88), (88, .invokestatic 256, 3, 91), (91, .ifCond .eq 21, 3, 94), (94, .aload_n 0, 1, 95), (95, .getfield 74, 3, 98), (98, .lload 5, 2, 100), (100, .lload_n 3, 1, 101), (101, .invokevirtual 260, 3, 104), (104, .aload_n 0, 1, 105), (105, .getfield 60, 3, 108), (108, .getfield 235, 3, 111), (111, .istore_n 1, 1, 112), (112, .iinc 2 1, 3, 115), (115, .goto (-99), 3, 118), (118, .iload_n 1, 1, 119), (119, .ireturn, 1, 120)]
def M_C_steepest : zM := (⟨"CamPieces", "steepest", "()I"⟩, prog_1_method_22_code, 7, some .int, I_C_steepest)
def R_C_steepest : Room := { frames := 5, cells := 0, slots := 0, locals := 134 }
theorem D_C_steepest : zDec M_C_steepest := (by decide +kernel : ∀ q ∈ I_C_steepest, decode prog_1_method_22_code q.1 = .ok (q.2.1, q.2.2.1) ∧ q.1 + q.2.2.1 = q.2.2.2)
theorem C_C_steepest : zCv M_C_steepest 0 := ⟨⟨zTB_of 1 (by decide +kernel) rfl, zTB_of 571 (by decide +kernel) rfl, by decide, by decide, by decide +kernel⟩, zTB_of 569 (by decide +kernel) rfl, zTB_of 570 (by decide +kernel) rfl⟩
def I_C_gentle : List (Nat × Instr × Nat × Nat) := [(0, .iload_n 1, 1, 1), (1, .ifCond .lt 10, 3, 4), (4, .iload_n 1, 1, 5), (5, .sipush 999, 3, 8), (8, .if_icmp .le 6, 3, 11), (11, .bipush (-2), 2, 13), (13, .ireturn, 1, 14), (14, .aload_n 0, 1, 15), (15, .getfield 67, 3, 18), (18, .getstatic 145, 3, 21), (21, .iconst 0, 1, 22), (22, .invokestatic 148, 3, 25), (25, .i2l, 1, 26), (26, .getstatic 152, 3, 29), (29, .iconst 0, 1, 30), (30, .invokestatic 148, 3, 33), (33, .i2l, 1, 34), (34, .invokevirtual 238, 3, 37), (37, .aload_n 0, 1, 38), (38, .getfield 60, 3, 41), (41, .aload_n 0, 1, 42), (42, .getfield 14, 3, 45), (45, .invokevirtual 227, 3, 48), (48, .iconst 0, 1, 49), (49, .istore_n 2, 1, 50), (50, .iload_n 2, 1, 51), (51, .sipush 375, 3, 54), (54, .if_icmp .ge 92, 3, 57), (57, .aload_n 0, 1, 58), (58, .getfield 60, 3, 61), (61, .aload_n 0, 1, 62), (62, .getfield 14, 3, 65), (65, .aload_n 0, 1, 66), (66, .getfield 53, 3, 69), (69, .invokevirtual 231, 3, 72), (72, .ifCond .eq 74, 3, 75), (75, .aload_n 0, 1, 76), (76, .getfield 67, 3, 79), (79, .aload_n 0, 1, 80), (80, .getfield 53, 3, 83), (83, .invokevirtual 184, 3, 86), (86, .aload_n 0, 1, 87), (87, .getfield 53, 3, 90), (90, .getfield 195, 3, 93), (93, .invokevirtual 244, 3, 96), (96, .aload_n 0, 1, 97), (97, .getfield 67, 3, 100), (100, .iload_n 1, 1, 101), (101, .i2l, 1, 102), (102, .aload_n 0, 1, 103), (103, .getfield 53, 3, 106), (106, .invokevirtual 184, 3, 109), (109, .lmul, 1, 110), (110, .ldc2_w 263, 3, 113), (113, .aload_n 0, 1, 114), (114, .getfield 53, 3, 117), (117, .getfield 188, 3, 120), (120, .invokestatic 250, 3, 123), (123, .lmul, 1, 124), (124, .lsub, 1, 125), (125, .lconst 1, 1, 126), (126, .ladd, 1, 127), (127, .iload_n 1, 1, 128), (128, .i2l, 1, 129), (129, .aload_n 0, 1, 130), (130, .getfield 53, 3, 133), (133, .getfield 195, 3, 136), (136, .lmul, 1, 137), (137, .invokevirtual 244, 3, 140), (140, .iinc 2 1, 3, 143), (143, .goto (-93), 3, 146), (146, .aload_n 0, 1, 147), (147, .getfield 67, 3, 150), (150, .invokevirtual 247, 3, 153), (153, .ireturn, 1, 154)]
def M_C_gentle : zM := (⟨"CamPieces", "gentle", "(I)I"⟩, prog_1_method_23_code, 3, some .int, I_C_gentle)
def R_C_gentle : Room := { frames := 5, cells := 0, slots := 0, locals := 134 }
theorem D_C_gentle : zDec M_C_gentle := (by decide +kernel : ∀ q ∈ I_C_gentle, decode prog_1_method_23_code q.1 = .ok (q.2.1, q.2.2.1) ∧ q.1 + q.2.2.1 = q.2.2.2)
theorem C_C_gentle : zCv M_C_gentle 1 := ⟨⟨zTB_of 1 (by decide +kernel) rfl, zTB_of 578 (by decide +kernel) rfl, by decide, by decide, by decide +kernel⟩, zTB_of 576 (by decide +kernel) rfl, zTB_of 577 (by decide +kernel) rfl⟩
def I_C_floating : List (Nat × Instr × Nat × Nat) := [(0, .aload_n 0, 1, 1), (1, .getfield 60, 3, 4), (4, .aload_n 0, 1, 5), (5, .getfield 14, 3, 8), (8, .invokevirtual 227, 3, 11), (11, .iconst 0, 1, 12), (12, .istore_n 1, 1, 13), (13, .iload_n 1, 1, 14), (14, .sipush 375, 3, 17), (17, .if_icmp .ge 44, 3, 20), (20, .aload_n 0, 1, 21), (21, .getfield 60, 3, 24), (24, .aload_n 0, 1, 25), (25, .getfield 14, 3, 28), (28, .aload_n 0, 1, 29), (29, .getfield 53, 3, 32), (32, .invokevirtual 231, 3, 35), (35, .ifCond .eq 26, 3, 38), (38, .aload_n 0, 1, 39), (39, .invokevirtual 224, 3, 42), (42, .lconst 0, 1, 43), (43, .lcmp, 1, 44), (44, .ifCond .gt 11, 3, 47), (47, .aload_n 0, 1, 48), (48, .getfield 60, 3, 51), (51, .getfield 235, 3, 54), (54, .ireturn, 1, 55), (55, .iinc 1 1, 3, 58), (58, .goto (-45), 3, 61), (61, .bipush (-5), 2, 63), (63, .ireturn, 1, 64)]
def M_C_floating : zM := (⟨"CamPieces", "floating", "()I"⟩, prog_1_method_24_code, 2, some .int, I_C_floating)
def R_C_floating : Room := { frames := 5, cells := 0, slots := 0, locals := 134 }
theorem D_C_floating : zDec M_C_floating := (by decide +kernel : ∀ q ∈ I_C_floating, decode prog_1_method_24_code q.1 = .ok (q.2.1, q.2.2.1) ∧ q.1 + q.2.2.1 = q.2.2.2)
theorem C_C_floating : zCv M_C_floating 0 := ⟨⟨zTB_of 1 (by decide +kernel) rfl, zTB_of 583 (by decide +kernel) rfl, by decide, by decide, by decide +kernel⟩, zTB_of 581 (by decide +kernel) rfl, zTB_of 582 (by decide +kernel) rfl⟩
def I_C_leastPreload : List (Nat × Instr × Nat × Nat) := [(0, .aload_n 0, 1, 1), (1, .getfield 67, 3, 4), (4, .getstatic 145, 3, 7), (7, .iconst 3, 1, 8), (8, .invokestatic 148, 3, 11), (11, .i2l, 1, 12), (12, .getstatic 152, 3, 15), (15, .iconst 3, 1, 16), (16, .invokestatic 148, 3, 19), (19, .i2l, 1, 20), (20, .invokevirtual 238, 3, 23), (23, .aload_n 0, 1, 24), (24, .getfield 60, 3, 27), (27, .aload_n 0, 1, 28), (28, .getfield 14, 3, 31), (31, .invokevirtual 227, 3, 34), (34, .iconst 0, 1, 35), (35, .istore_n 1, 1, 36), (36, .iload_n 1, 1, 37), (37, .sipush 375, 3, 40), (40, .if_icmp .ge 50, 3, 43), (43, .aload_n 0, 1, 44), (44, .getfield 60, 3, 47), (47, .aload_n 0, 1, 48), (48, .getfield 14, 3, 51), (51, .aload_n 0, 1, 52), (52, .getfield 53, 3, 55), (55, .invokevirtual 231, 3, 58), (58, .ifCond .eq 32, 3, 61), (61, .aload_n 0, 1, 62), (62, .getfield 67, 3, 65), (65, .aload_n 0, 1, 66), (66, .invokevirtual 265, 3, 69), (69, .aload_n 0, 1, 70), (70, .invokevirtual 268, 3, 73), (73, .ladd, 1, 74), (74, .aload_n 0, 1, 75), (75, .getfield 53, 3, 78), (78, .getfield 195, 3, 81), (81, .invokevirtual 244, 3, 84), (84, .iinc 1 1, 3, 87), (87, .goto (-51), 3, 90), (90, .aload_n 0, 1, 91), (91, .getfield 67, 3, 94), (94, .invokevirtual 247, 3, 97), (97, .ireturn, 1, 98)]
def M_C_leastPreload : zM := (⟨"CamPieces", "leastPreload", "()I"⟩, prog_1_method_25_code, 2, some .int, I_C_leastPreload)
def R_C_leastPreload : Room := { frames := 5, cells := 0, slots := 0, locals := 134 }
theorem D_C_leastPreload : zDec M_C_leastPreload := (by decide +kernel : ∀ q ∈ I_C_leastPreload, decode prog_1_method_25_code q.1 = .ok (q.2.1, q.2.2.1) ∧ q.1 + q.2.2.1 = q.2.2.2)
theorem C_C_leastPreload : zCv M_C_leastPreload 0 := ⟨⟨zTB_of 1 (by decide +kernel) rfl, zTB_of 587 (by decide +kernel) rfl, by decide, by decide, by decide +kernel⟩, zTB_of 585 (by decide +kernel) rfl, zTB_of 586 (by decide +kernel) rfl⟩
def I_C_leastStiff : List (Nat × Instr × Nat × Nat) := [(0, .aload_n 0, 1, 1), (1, .getfield 67, 3, 4), (4, .getstatic 145, 3, 7), (7, .iconst 2, 1, 8), (8, .invokestatic 148, 3, 11), (11, .i2l, 1, 12), (12, .getstatic 152, 3, 15), (15, .iconst 2, 1, 16), (16, .invokestatic 148, 3, 19), (19, .i2l, 1, 20), (20, .invokevirtual 238, 3, 23), (23, .aload_n 0, 1, 24), (24, .getfield 60, 3, 27), (27, .aload_n 0, 1, 28), (28, .getfield 14, 3, 31), (31, .invokevirtual 227, 3, 34), (34, .iconst 0, 1, 35), (35, .istore_n 1, 1, 36), (36, .iload_n 1, 1, 37), (37, .sipush 375, 3, 40), (40, .if_icmp .ge 50, 3, 43), (43, .aload_n 0, 1, 44), (44, .getfield 60, 3, 47), (47, .aload_n 0, 1, 48), (48, .getfield 14, 3, 51), (51, .aload_n 0, 1, 52), (52, .getfield 53, 3, 55), (55, .invokevirtual 231, 3, 58), (58, .ifCond .eq 32, 3, 61), (61, .aload_n 0, 1, 62), (62, .getfield 67, 3, 65), (65, .aload_n 0, 1, 66), (66, .invokevirtual 271, 3, 69), (69, .aload_n 0, 1, 70), (70, .invokevirtual 268, 3, 73), (73, .ladd, 1, 74), (74, .aload_n 0, 1, 75), (75, .getfield 53, 3, 78), (78, .invokevirtual 184, 3, 81), (81, .invokevirtual 244, 3, 84), (84, .iinc 1 1, 3, 87), (87, .goto (-51), 3, 90), (90, .aload_n 0, 1, 91), (91, .getfield 67, 3, 94), (94, .invokevirtual 247, 3, 97), (97, .ireturn, 1, 98)]
def M_C_leastStiff : zM := (⟨"CamPieces", "leastStiff", "()I"⟩, prog_1_method_26_code, 2, some .int, I_C_leastStiff)
def R_C_leastStiff : Room := { frames := 5, cells := 0, slots := 0, locals := 134 }
theorem D_C_leastStiff : zDec M_C_leastStiff := (by decide +kernel : ∀ q ∈ I_C_leastStiff, decode prog_1_method_26_code q.1 = .ok (q.2.1, q.2.2.1) ∧ q.1 + q.2.2.1 = q.2.2.2)
theorem C_C_leastStiff : zCv M_C_leastStiff 0 := ⟨⟨zTB_of 1 (by decide +kernel) rfl, zTB_of 591 (by decide +kernel) rfl, by decide, by decide, by decide +kernel⟩, zTB_of 589 (by decide +kernel) rfl, zTB_of 590 (by decide +kernel) rfl⟩
def I_C_fastest : List (Nat × Instr × Nat × Nat) := [(0, .getstatic 152, 3, 3), (3, .iconst 4, 1, 4), (4, .invokestatic 148, 3, 7), (7, .istore_n 1, 1, 8), (8, .aload_n 0, 1, 9), (9, .getfield 67, 3, 12), (12, .lconst 0, 1, 13), (13, .iload_n 1, 1, 14), (14, .i2l, 1, 15), (15, .iload_n 1, 1, 16), (16, .i2l, 1, 17), (17, .lmul, 1, 18), (18, .invokevirtual 238, 3, 21), (21, .aload_n 0, 1, 22), (22, .getfield 60, 3, 25), (25, .aload_n 0, 1, 26), (26, .getfield 14, 3, 29), (29, .invokevirtual 227, 3, 32), (32, .iconst 0, 1, 33), (33, .istore_n 2, 1, 34), (34, .iload_n 2, 1, 35), (35, .sipush 375, 3, 38), (38, .if_icmp .ge 60, 3, 41), (41, .aload_n 0, 1, 42), (42, .getfield 60, 3, 45), (45, .aload_n 0, 1, 46), (46, .getfield 14, 3, 49), (49, .aload_n 0, 1, 50), (50, .getfield 53, 3, 53), (53, .invokevirtual 231, 3, 56), (56, .ifCond .eq 42, 3, 59), (59, .aload_n 0, 1, 60), (60, .getfield 67, 3, 63), (63, .aload_n 0, 1, 64), (64, .invokevirtual 271, 3, 67), (67, .aload_n 0, 1, 68), (68, .invokevirtual 265, 3, 71), (71, .ladd, 1, 72), (72, .aload_n 0, 1, 73), (73, .iconst 1, 1, 74), (74, .invokevirtual 274, 3, 77), (77, .ldc2_w 242, 3, 80), (80, .lmul, 1, 81), (81, .aload_n 0, 1, 82), (82, .getfield 53, 3, 85), (85, .getfield 192, 3, 88), (88, .lmul, 1, 89), (89, .invokevirtual 244, 3, 92), (92, .iinc 2 1, 3, 95), (95, .goto (-61), 3, 98), (98, .iload_n 1, 1, 99), (99, .istore_n 2, 1, 100), (100, .iload_n 2, 1, 101), (101, .getstatic 145, 3, 104), (104, .iconst 4, 1, 105), (105, .invokestatic 148, 3, 108), (108, .if_icmp .lt 26, 3, 111), (111, .aload_n 0, 1, 112), (112, .getfield 67, 3, 115), (115, .iload_n 2, 1, 116), (116, .i2l, 1, 117), (117, .iload_n 2, 1, 118), (118, .i2l, 1, 119), (119, .lmul, 1, 120), (120, .invokevirtual 278, 3, 123), (123, .ifCond .eq 5, 3, 126), (126, .iload_n 2, 1, 127), (127, .ireturn, 1, 128), (128, .iinc 2 (-1), 3, 131), (131, .goto (-31), 3, 134), (134, .bipush (-5), 2, 136), (136, .ireturn, 1, 137)]
def M_C_fastest : zM := (⟨"CamPieces", "fastest", "()I"⟩, prog_1_method_27_code, 3, some .int, I_C_fastest)
def R_C_fastest : Room := { frames := 5, cells := 0, slots := 0, locals := 134 }
theorem D_C_fastest : zDec M_C_fastest := (by decide +kernel : ∀ q ∈ I_C_fastest, decode prog_1_method_27_code q.1 = .ok (q.2.1, q.2.2.1) ∧ q.1 + q.2.2.1 = q.2.2.2)
theorem C_C_fastest : zCv M_C_fastest 0 := ⟨⟨zTB_of 1 (by decide +kernel) rfl, zTB_of 595 (by decide +kernel) rfl, by decide, by decide, by decide +kernel⟩, zTB_of 593 (by decide +kernel) rfl, zTB_of 594 (by decide +kernel) rfl⟩
def I_C_smoothed : List (Nat × Instr × Nat × Nat) := [(0, .iconst 0, 1, 1), (1, .istore_n 1, 1, 2), (2, .iconst 0, 1, 3), (3, .istore_n 2, 1, 4), (4, .iload_n 2, 1, 5), (5, .aload_n 0, 1, 6), (6, .getfield 14, 3, 9), (9, .invokevirtual 111, 3, 12), (12, .if_icmp .ge 57, 3, 15), (15, .aload_n 0, 1, 16), (16, .getfield 14, 3, 19), (19, .iload_n 2, 1, 20), (20, .invokevirtual 121, 3, 23), (23, .istore_n 3, 1, 24), (24, .iload_n 3, 1, 25), (25, .iconst 1, 1, 26), (26, .if_icmp .eq 18, 3, 29), (29, .iload_n 3, 1, 30), (30, .iconst 2, 1, 31), (31, .if_icmp .eq 13, 3, 34), (34, .iload_n 3, 1, 35), (35, .iconst 3, 1, 36), (36, .if_icmp .eq 8, 3, 39), (39, .iload_n 3, 1, 40), (40, .iconst 4, 1, 41), (41, .if_icmp .ne 9, 3, 44), (44, .iload_n 1, 1, 45), (45, .iconst 1, 1, 46), (46, .iload_n 2, 1, 47), (47, .ishl, 1, 48), (48, .ior, 1, 49), (49, .istore_n 1, 1, 50), (50, .aload_n 0, 1, 51), (51, .getfield 85, 3, 54), (54, .iload_n 2, 1, 55), (55, .aload_n 0, 1, 56), (56, .iload_n 2, 1, 57), (57, .invokevirtual 282, 3, 60), (60, .invokestatic 155, 3, 63), (63, .iinc 2 1, 3, 66), (66, .goto (-62), 3, 69), (69, .bipush (-5), 2, 71), (71, .istore_n 2, 1, 72), (72, .bipush 13, 2, 74), (74, .istore_n 3, 1, 75), (75, .iconst 0, 1, 76), (76, .istore 4, 2, 78), (78, .iload 4, 2, 80), (80, .iconst 1, 1, 81), (81, .aload_n 0, 1, 82), (82, .getfield 14, 3, 85), (85, .invokevirtual 111, 3, 88), (88, .ishl, 1, 89), (89, .if_icmp .ge 56, 3, 92), (92, .iload 4, 2, 94), (94, .sipush 4096, 3, 97), (97, .if_icmp .ge 48, 3, 100), (100, .iload 4, 2, 102), (102, .iload_n 1, 1, 103), (103, .iconst (-1), 1, 104), (104, .ixor, 1, 105), (105, .iand, 1, 106), (106, .ifCond .ne 33, 3, 109), (109, .iload 4, 2, 111), (111, .invokestatic 285, 3, 114), (114, .iload_n 3, 1, 115), (115, .if_icmp .ge 24, 3, 118), (118, .aload_n 0, 1, 119), (119, .iload 4, 2, 121), (121, .invokevirtual 290, 3, 124), (124, .ifCond .eq 6, 3, 127), (127, .goto 12, 3, 130), (130, .iload 4, 2, 132), (132, .istore_n 2, 1, 133), (133, .iload 4, 2, 135), (135, .invokestatic 285, 3, 138), (138, .istore_n 3, 1, 139), (139, .iinc 4 1, 3, 142), (142, .goto (-64), 3, 145), (145, .iload_n 2, 1, 146), (146, .ireturn, 1, 147)]
def M_C_smoothed : zM := (⟨"CamPieces", "smoothed", "()I"⟩, prog_1_method_28_code, 5, some .int, I_C_smoothed)
def R_C_smoothed : Room := { frames := 6, cells := 0, slots := 0, locals := 157 }
theorem D_C_smoothed : zDec M_C_smoothed := (by decide +kernel : ∀ q ∈ I_C_smoothed, decode prog_1_method_28_code q.1 = .ok (q.2.1, q.2.2.1) ∧ q.1 + q.2.2.1 = q.2.2.2)
theorem C_C_smoothed : zCv M_C_smoothed 0 := ⟨⟨zTB_of 1 (by decide +kernel) rfl, zTB_of 600 (by decide +kernel) rfl, by decide, by decide, by decide +kernel⟩, zTB_of 598 (by decide +kernel) rfl, zTB_of 599 (by decide +kernel) rfl⟩
def I_C_sample : List (Nat × Instr × Nat × Nat) := [(0, .aload_n 0, 1, 1), (1, .getfield 14, 3, 4), (4, .invokevirtual 111, 3, 7), (7, .ifCond .eq 18, 3, 10), (10, .iload_n 1, 1, 11), (11, .ifCond .lt 14, 3, 14), (14, .iload_n 1, 1, 15), (15, .aload_n 0, 1, 16), (16, .getfield 14, 3, 19), (19, .invokevirtual 103, 3, 22), (22, .if_icmp .le 7, 3, 25), (25, .ldc2_w 182, 3, 28), (28, .lreturn, 1, 29), (29, .aload_n 0, 1, 30), (30, .iload_n 1, 1, 31), (31, .iload_n 1, 1, 32), (32, .ifCond .ne 7, 3, 35), (35, .iconst 1, 1, 36), (36, .goto 4, 3, 39), (39, .iconst 0, 1, 40), (40, .invokevirtual 179, 3, 43), (43, .pop, 1, 44), (44, .aload_n 0, 1, 45), (45, .invokevirtual 293, 3, 48), (48, .lreturn, 1, 49)]
def M_C_sample : zM := (⟨"CamPieces", "sample", "(I)J"⟩, prog_1_method_29_code, 2, some .long, I_C_sample)
def R_C_sample : Room := { frames := 5, cells := 0, slots := 0, locals := 138 }
theorem D_C_sample : zDec M_C_sample := (by decide +kernel : ∀ q ∈ I_C_sample, decode prog_1_method_29_code q.1 = .ok (q.2.1, q.2.2.1) ∧ q.1 + q.2.2.1 = q.2.2.2)
theorem C_C_sample : zCv M_C_sample 1 := ⟨⟨zTB_of 1 (by decide +kernel) rfl, zTB_of 618 (by decide +kernel) rfl, by decide, by decide, by decide +kernel⟩, zTB_of 616 (by decide +kernel) rfl, zTB_of 617 (by decide +kernel) rfl⟩
def I_C_error : List (Nat × Instr × Nat × Nat) := [(0, .iload_n 1, 1, 1), (1, .iconst 1, 1, 2), (2, .if_icmp .lt 26, 3, 5), (5, .iload_n 1, 1, 6), (6, .bipush 60, 2, 8), (8, .if_icmp .gt 20, 3, 11), (11, .iload_n 2, 1, 12), (12, .invokestatic 176, 3, 15), (15, .ifCond .eq 13, 3, 18), (18, .aload_n 0, 1, 19), (19, .getfield 14, 3, 22), (22, .invokevirtual 111, 3, 25), (25, .ifCond .ne 7, 3, 28), (28, .ldc2_w 182, 3, 31), (31, .lreturn, 1, 32), (32, .aload_n 0, 1, 33), (33, .invokevirtual 296, 3, 36), (36, .aload_n 0, 1, 37), (37, .getfield 14, 3, 40), (40, .invokevirtual 103, 3, 43), (43, .istore_n 3, 1, 44), (44, .aload_n 0, 1, 45), (45, .getfield 74, 3, 48), (48, .lconst 0, 1, 49), (49, .lconst 1, 1, 50), (50, .invokevirtual 260, 3, 53), (53, .iconst 0, 1, 54), (54, .istore 4, 2, 56), (56, .iload 4, 2, 58), (58, .iload_n 3, 1, 59), (59, .if_icmp .gt 72, 3, 62), (62, .iload 4, 2, 64), (64, .sipush 360, 3, 67), (67, .if_icmp .gt 64, 3, 70), (70, .aload_n 0, 1, 71), (71, .iload 4, 2, 73), (73, .iload_n 1, 1, 74), (74, .iload_n 3, 1, 75), (75, .invokevirtual 299, 3, 78), (78, .lstore 5, 2, 80), (80, .iload 4, 2, 82), (82, .iload_n 1, 1, 83), (83, .iload_n 3, 1, 84), (84, .invokestatic 303, 3, 87), (87, .i2l, 1, 88), (88, .lstore 7, 2, 90), (90, .lload 5, 2, 92), (92, .aload_n 0, 1, 93), (93, .getfield 74, 3, 96), (96, .getfield 212, 3, 99), (99, .lmul, 1, 100), (100, .aload_n 0, 1, 101), (101, .getfield 74, 3, 104), (104, .getfield 209, 3, 107), (107, .lload 7, 2, 109), (109, .lmul, 1, 110), (110, .lcmp, 1, 111), (111, .ifCond .le 14, 3, 114), (114, .aload_n 0, 1, 115), (115, .getfield 74, 3, 118), (118, .lload 5, 2, 120), (120, .lload 7, 2, 122), (122, .invokevirtual 260, 3, 125), (125, .iinc 4 1, 3, 128), (128, .goto (-72), 3, 131), (131, .aload_n 0, 1, 132), (132, .getfield 74, 3, 135), (135, .getfield 209, 3, 138), (138, .aload_n 0, 1, 139), (139, .getfield 74, 3, 142), (142, .getfield 212, 3, 145), (145, .iload_n 2, 1, 146), (146, .invokestatic 198, 3, 149), (149, .lreturn, 1, 150)]
def M_C_error : zM := (⟨"CamPieces", "error", "(II)J"⟩, prog_1_method_30_code, 9, some .long, I_C_error)
def R_C_error : Room := { frames := 6, cells := 0, slots := 0, locals := 155 }
theorem D_C_error : zDec M_C_error := (by decide +kernel : ∀ q ∈ I_C_error, decode prog_1_method_30_code q.1 = .ok (q.2.1, q.2.2.1) ∧ q.1 + q.2.2.1 = q.2.2.2)
theorem C_C_error : zCv M_C_error 2 := ⟨⟨zTB_of 1 (by decide +kernel) rfl, zTB_of 631 (by decide +kernel) rfl, by decide, by decide, by decide +kernel⟩, zTB_of 629 (by decide +kernel) rfl, zTB_of 630 (by decide +kernel) rfl⟩
def I_C_widest : List (Nat × Instr × Nat × Nat) := [(0, .iload_n 1, 1, 1), (1, .ifCond .lt 10, 3, 4), (4, .iload_n 1, 1, 5), (5, .sipush 9999, 3, 8), (8, .if_icmp .le 6, 3, 11), (11, .bipush (-2), 2, 13), (13, .ireturn, 1, 14), (14, .aload_n 0, 1, 15), (15, .getfield 14, 3, 18), (18, .invokevirtual 111, 3, 21), (21, .ifCond .ne 6, 3, 24), (24, .bipush (-3), 2, 26), (26, .ireturn, 1, 27), (27, .aload_n 0, 1, 28), (28, .invokevirtual 296, 3, 31), (31, .bipush 60, 2, 33), (33, .istore_n 2, 1, 34), (34, .iload_n 2, 1, 35), (35, .iconst 1, 1, 36), (36, .if_icmp .lt 20, 3, 39), (39, .aload_n 0, 1, 40), (40, .iload_n 2, 1, 41), (41, .iload_n 1, 1, 42), (42, .invokevirtual 307, 3, 45), (45, .ifCond .eq 5, 3, 48), (48, .iload_n 2, 1, 49), (49, .ireturn, 1, 50), (50, .iinc 2 (-1), 3, 53), (53, .goto (-19), 3, 56), (56, .bipush (-5), 2, 58), (58, .ireturn, 1, 59)]
def M_C_widest : zM := (⟨"CamPieces", "widest", "(I)I"⟩, prog_1_method_31_code, 3, some .int, I_C_widest)
def R_C_widest : Room := { frames := 6, cells := 0, slots := 0, locals := 155 }
theorem D_C_widest : zDec M_C_widest := (by decide +kernel : ∀ q ∈ I_C_widest, decode prog_1_method_31_code q.1 = .ok (q.2.1, q.2.2.1) ∧ q.1 + q.2.2.1 = q.2.2.2)
theorem C_C_widest : zCv M_C_widest 1 := ⟨⟨zTB_of 1 (by decide +kernel) rfl, zTB_of 656 (by decide +kernel) rfl, by decide, by decide, by decide +kernel⟩, zTB_of 654 (by decide +kernel) rfl, zTB_of 655 (by decide +kernel) rfl⟩
def I_C_lay : List (Nat × Instr × Nat × Nat) := [(0, .aload_n 0, 1, 1), (1, .getfield 46, 3, 4), (4, .iload_n 1, 1, 5), (5, .invokevirtual 310, 3, 8), (8, .ifCond .ne 5, 3, 11), (11, .iconst (-1), 1, 12), (12, .ireturn, 1, 13), (13, .aload_n 0, 1, 14), (14, .getfield 46, 3, 17), (17, .iload_n 1, 1, 18), (18, .invokevirtual 313, 3, 21), (21, .ifCond .ne 6, 3, 24), (24, .bipush (-11), 2, 26), (26, .ireturn, 1, 27), (27, .iload 5, 2, 29), (29, .ifCond .lt 22, 3, 32), (32, .iload 5, 2, 34), (34, .bipush 30, 2, 36), (36, .if_icmp .gt 15, 3, 39), (39, .aload_n 0, 1, 40), (40, .iload_n 3, 1, 41), (41, .iload 4, 2, 43), (43, .iload 5, 2, 45), (45, .invokevirtual 314, 3, 48), (48, .ifCond .ne 6, 3, 51), (51, .bipush (-2), 2, 53), (53, .ireturn, 1, 54), (54, .iconst 0, 1, 55), (55, .istore 6, 2, 57), (57, .iload 6, 2, 59), (59, .iload 5, 2, 61), (61, .if_icmp .ge 57, 3, 64), (64, .iload_n 2, 1, 65), (65, .ifCond .lt 53, 3, 68), (68, .iload_n 2, 1, 69), (69, .bipush 30, 2, 71), (71, .if_icmp .gt 47, 3, 74), (74, .aload_n 0, 1, 75), (75, .getfield 46, 3, 78), (78, .iload_n 1, 1, 79), (79, .iload_n 2, 1, 80), (80, .iload 6, 2, 82), (82, .iadd, 1, 83), (83, .invokevirtual 317, 3, 86), (86, .ifCond .eq 26, 3, 89), (89, .aload_n 0, 1, 90), (90, .getfield 46, 3, 93), (93, .iload_n 1, 1, 94), (94, .iload_n 2, 1, 95), (95, .iload 6, 2, 97), (97, .iadd, 1, 98), (98, .aload_n 0, 1, 99), (99, .iload_n 3, 1, 100), (100, .iload 6, 2, 102), (102, .iload 4, 2, 104), (104, .imul, 1, 105), (105, .iadd, 1, 106), (106, .invokevirtual 320, 3, 109), (109, .invokevirtual 323, 3, 112), (112, .iinc 6 1, 3, 115), (115, .goto (-58), 3, 118), (118, .aload_n 0, 1, 119), (119, .getfield 46, 3, 122), (122, .iload_n 1, 1, 123), (123, .iload_n 2, 1, 124), (124, .iload 5, 2, 126), (126, .invokevirtual 326, 3, 129), (129, .ifCond .eq 8, 3, 132), (132, .iload 5, 2, 134), (134, .goto 5, 3, 137), (137, .bipush (-13), 2, 139), (139, .ireturn, 1, 140)]
def M_C_lay : zM := (⟨"CamPieces", "lay", "(IIIII)I"⟩, prog_1_method_32_code, 7, some .int, I_C_lay)
def R_C_lay : Room := { frames := 6, cells := 0, slots := 0, locals := 159 }
theorem D_C_lay : zDec M_C_lay := (by decide +kernel : ∀ q ∈ I_C_lay, decode prog_1_method_32_code q.1 = .ok (q.2.1, q.2.2.1) ∧ q.1 + q.2.2.1 = q.2.2.2)
theorem C_C_lay : zCv M_C_lay 5 := ⟨⟨zTB_of 1 (by decide +kernel) rfl, zTB_of 665 (by decide +kernel) rfl, by decide, by decide, by decide +kernel⟩, zTB_of 663 (by decide +kernel) rfl, zTB_of 664 (by decide +kernel) rfl⟩
def I_C_seen : List (Nat × Instr × Nat × Nat) := [(0, .aload_n 0, 1, 1), (1, .getfield 46, 3, 4), (4, .iload_n 1, 1, 5), (5, .invokevirtual 310, 3, 8), (8, .ifCond .eq 15, 3, 11), (11, .aload_n 0, 1, 12), (12, .getfield 14, 3, 15), (15, .iload 4, 2, 17), (17, .invokevirtual 117, 3, 20), (20, .ifCond .ne 5, 3, 23), (23, .iconst (-1), 1, 24), (24, .ireturn, 1, 25), (25, .aload_n 0, 1, 26), (26, .getfield 46, 3, 29), (29, .iload_n 1, 1, 30), (30, .invokevirtual 313, 3, 33), (33, .ifCond .ne 6, 3, 36), (36, .bipush (-11), 2, 38), (38, .ireturn, 1, 39), (39, .iload_n 3, 1, 40), (40, .iconst 1, 1, 41), (41, .if_icmp .lt 24, 3, 44), (44, .iload_n 3, 1, 45), (45, .bipush 30, 2, 47), (47, .if_icmp .gt 18, 3, 50), (50, .iload_n 3, 1, 51), (51, .aload_n 0, 1, 52), (52, .getfield 14, 3, 55), (55, .iload 4, 2, 57), (57, .invokevirtual 125, 3, 60), (60, .iconst 1, 1, 61), (61, .iadd, 1, 62), (62, .if_icmp .le 6, 3, 65), (65, .bipush (-2), 2, 67), (67, .ireturn, 1, 68), (68, .aload_n 0, 1, 69), (69, .getfield 46, 3, 72), (72, .iload_n 1, 1, 73), (73, .iload_n 2, 1, 74), (74, .iload_n 3, 1, 75), (75, .invokevirtual 326, 3, 78), (78, .ifCond .ne 6, 3, 81), (81, .bipush (-13), 2, 83), (83, .ireturn, 1, 84), (84, .iconst 0, 1, 85), (85, .istore 5, 2, 87), (87, .iconst 0, 1, 88), (88, .istore 6, 2, 90), (90, .iload 6, 2, 92), (92, .bipush 6, 2, 94), (94, .if_icmp .ge 32, 3, 97), (97, .aload_n 0, 1, 98), (98, .iload 6, 2, 100), (100, .iload_n 1, 1, 101), (101, .iload_n 2, 1, 102), (102, .iload_n 3, 1, 103), (103, .iload 4, 2, 105), (105, .invokevirtual 329, 3, 108), (108, .ifCond .eq 12, 3, 111), (111, .iload 5, 2, 113), (113, .iconst 1, 1, 114), (114, .iload 6, 2, 116), (116, .ishl, 1, 117), (117, .ior, 1, 118), (118, .istore 5, 2, 120), (120, .iinc 6 1, 3, 123), (123, .goto (-33), 3, 126), (126, .iload 5, 2, 128), (128, .ireturn, 1, 129)]
def M_C_seen : zM := (⟨"CamPieces", "seen", "(IIII)I"⟩, prog_1_method_33_code, 7, some .int, I_C_seen)
def R_C_seen : Room := { frames := 5, cells := 0, slots := 0, locals := 116 }
theorem D_C_seen : zDec M_C_seen := (by decide +kernel : ∀ q ∈ I_C_seen, decode prog_1_method_33_code q.1 = .ok (q.2.1, q.2.2.1) ∧ q.1 + q.2.2.1 = q.2.2.2)
theorem C_C_seen : zCv M_C_seen 4 := ⟨⟨zTB_of 1 (by decide +kernel) rfl, zTB_of 698 (by decide +kernel) rfl, by decide, by decide, by decide +kernel⟩, zTB_of 696 (by decide +kernel) rfl, zTB_of 697 (by decide +kernel) rfl⟩
def I_C_feed : List (Nat × Instr × Nat × Nat) := [(0, .iload_n 1, 1, 1), (1, .iconst 1, 1, 2), (2, .if_icmp .lt 9, 3, 5), (5, .iload_n 1, 1, 6), (6, .bipush 127, 2, 8), (8, .if_icmp .le 6, 3, 11), (11, .bipush (-2), 2, 13), (13, .ireturn, 1, 14), (14, .aload_n 0, 1, 15), (15, .getfield 35, 3, 18), (18, .invokevirtual 162, 3, 21), (21, .bipush 120, 2, 23), (23, .if_icmp .lt 6, 3, 26), (26, .bipush (-4), 2, 28), (28, .ireturn, 1, 29), (29, .aload_n 0, 1, 30), (30, .getfield 35, 3, 33), (33, .iload_n 1, 1, 34), (34, .invokevirtual 333, 3, 37), (37, .aload_n 0, 1, 38), (38, .getfield 35, 3, 41), (41, .invokevirtual 162, 3, 44), (44, .ireturn, 1, 45)]
def M_C_feed : zM := (⟨"CamPieces", "feed", "(I)I"⟩, prog_1_method_34_code, 2, some .int, I_C_feed)
def R_C_feed : Room := { frames := 2, cells := 0, slots := 0, locals := 43 }
theorem D_C_feed : zDec M_C_feed := (by decide +kernel : ∀ q ∈ I_C_feed, decode prog_1_method_34_code q.1 = .ok (q.2.1, q.2.2.1) ∧ q.1 + q.2.2.1 = q.2.2.2)
theorem C_C_feed : zCv M_C_feed 1 := ⟨⟨zTB_of 1 (by decide +kernel) rfl, zTB_of 711 (by decide +kernel) rfl, by decide, by decide, by decide +kernel⟩, zTB_of 709 (by decide +kernel) rfl, zTB_of 710 (by decide +kernel) rfl⟩
def I_C_clear : List (Nat × Instr × Nat × Nat) := [(0, .aload_n 0, 1, 1), (1, .getfield 35, 3, 4), (4, .invokevirtual 162, 3, 7), (7, .istore_n 1, 1, 8), (8, .aload_n 0, 1, 9), (9, .getfield 35, 3, 12), (12, .invokevirtual 336, 3, 15), (15, .iload_n 1, 1, 16), (16, .ireturn, 1, 17)]
def M_C_clear : zM := (⟨"CamPieces", "clear", "()I"⟩, prog_1_method_35_code, 2, some .int, I_C_clear)
def R_C_clear : Room := { frames := 1, cells := 0, slots := 0, locals := 20 }
theorem D_C_clear : zDec M_C_clear := (by decide +kernel : ∀ q ∈ I_C_clear, decode prog_1_method_35_code q.1 = .ok (q.2.1, q.2.2.1) ∧ q.1 + q.2.2.1 = q.2.2.2)
theorem C_C_clear : zCv M_C_clear 0 := ⟨⟨zTB_of 1 (by decide +kernel) rfl, zTB_of 720 (by decide +kernel) rfl, by decide, by decide, by decide +kernel⟩, zTB_of 718 (by decide +kernel) rfl, zTB_of 719 (by decide +kernel) rfl⟩
def I_C_cam : List (Nat × Instr × Nat × Nat) := [(0, .aload_n 0, 1, 1), (1, .getfield 35, 3, 4), (4, .invokevirtual 339, 3, 7), (7, .istore_n 1, 1, 8), (8, .aload_n 0, 1, 9), (9, .getfield 35, 3, 12), (12, .invokevirtual 336, 3, 15), (15, .iload_n 1, 1, 16), (16, .ifCond .eq 13, 3, 19), (19, .aload_n 0, 1, 20), (20, .getfield 35, 3, 23), (23, .getfield 342, 3, 26), (26, .ifCond .lt 43, 3, 29), (29, .aload_n 0, 1, 30), (30, .aload_n 0, 1, 31), (31, .getfield 35, 3, 34), (34, .getfield 345, 3, 37), (37, .putfield 39, 3, 40), (40, .iload_n 1, 1, 41), (41, .ifCond .eq 17, 3, 44), (44, .sipush (-300), 3, 47), (47, .aload_n 0, 1, 48), (48, .getfield 35, 3, 51), (51, .getfield 342, 3, 54), (54, .isub, 1, 55), (55, .goto 13, 3, 58), (58, .bipush (-100), 2, 60), (60, .aload_n 0, 1, 61), (61, .getfield 35, 3, 64), (64, .getfield 348, 3, 67), (67, .isub, 1, 68), (68, .ireturn, 1, 69), (69, .aload_n 0, 1, 70), (70, .getfield 14, 3, 73), (73, .aload_n 0, 1, 74), (74, .getfield 35, 3, 77), (77, .getfield 351, 3, 80), (80, .invokevirtual 354, 3, 83), (83, .aload_n 0, 1, 84), (84, .getfield 14, 3, 87), (87, .invokevirtual 111, 3, 90), (90, .ireturn, 1, 91)]
def M_C_cam : zM := (⟨"CamPieces", "cam", "()I"⟩, prog_1_method_36_code, 2, some .int, I_C_cam)
def R_C_cam : Room := { frames := 9, cells := 0, slots := 0, locals := 199 }
theorem D_C_cam : zDec M_C_cam := (by decide +kernel : ∀ q ∈ I_C_cam, decode prog_1_method_36_code q.1 = .ok (q.2.1, q.2.2.1) ∧ q.1 + q.2.2.1 = q.2.2.2)
theorem C_C_cam : zCv M_C_cam 0 := ⟨⟨zTB_of 1 (by decide +kernel) rfl, zTB_of 728 (by decide +kernel) rfl, by decide, by decide, by decide +kernel⟩, zTB_of 726 (by decide +kernel) rfl, zTB_of 727 (by decide +kernel) rfl⟩
def I_C_cause : List (Nat × Instr × Nat × Nat) := [(0, .aload_n 0, 1, 1), (1, .getfield 39, 3, 4), (4, .ireturn, 1, 5)]
def M_C_cause : zM := (⟨"CamPieces", "cause", "()I"⟩, prog_1_method_37_code, 1, some .int, I_C_cause)
def R_C_cause : Room := { frames := 0, cells := 0, slots := 0, locals := 0 }
theorem D_C_cause : zDec M_C_cause := (by decide +kernel : ∀ q ∈ I_C_cause, decode prog_1_method_37_code q.1 = .ok (q.2.1, q.2.2.1) ∧ q.1 + q.2.2.1 = q.2.2.2)
theorem C_C_cause : zCv M_C_cause 0 := ⟨⟨zTB_of 1 (by decide +kernel) rfl, zTB_of 843 (by decide +kernel) rfl, by decide, by decide, by decide +kernel⟩, zTB_of 841 (by decide +kernel) rfl, zTB_of 842 (by decide +kernel) rfl⟩
def I_C_list : List (Nat × Instr × Nat × Nat) := [(0, .aload_n 0, 1, 1), (1, .getfield 46, 3, 4), (4, .iload_n 1, 1, 5), (5, .invokevirtual 310, 3, 8), (8, .ifCond .ne 5, 3, 11), (11, .iconst (-1), 1, 12), (12, .ireturn, 1, 13), (13, .iload_n 2, 1, 14), (14, .bipush 30, 2, 16), (16, .if_icmp .le 6, 3, 19), (19, .bipush (-2), 2, 21), (21, .ireturn, 1, 22), (22, .iload_n 2, 1, 23), (23, .ifCond .ge 6, 3, 26), (26, .bipush (-14), 2, 28), (28, .ireturn, 1, 29), (29, .aload_n 0, 1, 30), (30, .getfield 46, 3, 33), (33, .iload_n 1, 1, 34), (34, .iload_n 2, 1, 35), (35, .invokevirtual 356, 3, 38), (38, .iconst 1, 1, 39), (39, .ireturn, 1, 40)]
def M_C_list : zM := (⟨"CamPieces", "list", "(II)I"⟩, prog_1_method_38_code, 3, some .int, I_C_list)
def R_C_list : Room := { frames := 5, cells := 0, slots := 0, locals := 112 }
theorem D_C_list : zDec M_C_list := (by decide +kernel : ∀ q ∈ I_C_list, decode prog_1_method_38_code q.1 = .ok (q.2.1, q.2.2.1) ∧ q.1 + q.2.2.1 = q.2.2.2)
theorem C_C_list : zCv M_C_list 2 := ⟨⟨zTB_of 1 (by decide +kernel) rfl, zTB_of 847 (by decide +kernel) rfl, by decide, by decide, by decide +kernel⟩, zTB_of 845 (by decide +kernel) rfl, zTB_of 846 (by decide +kernel) rfl⟩
def I_C_set : List (Nat × Instr × Nat × Nat) := [(0, .aload_n 0, 1, 1), (1, .getfield 46, 3, 4), (4, .iload_n 1, 1, 5), (5, .invokevirtual 310, 3, 8), (8, .ifCond .ne 5, 3, 11), (11, .iconst (-1), 1, 12), (12, .ireturn, 1, 13), (13, .aload_n 0, 1, 14), (14, .getfield 46, 3, 17), (17, .iload_n 1, 1, 18), (18, .invokevirtual 313, 3, 21), (21, .ifCond .ne 6, 3, 24), (24, .bipush (-11), 2, 26), (26, .ireturn, 1, 27), (27, .aload_n 0, 1, 28), (28, .getfield 46, 3, 31), (31, .iload_n 1, 1, 32), (32, .iload_n 2, 1, 33), (33, .invokevirtual 317, 3, 36), (36, .ifCond .ne 6, 3, 39), (39, .bipush (-13), 2, 41), (41, .ireturn, 1, 42), (42, .aload_n 0, 1, 43), (43, .getfield 46, 3, 46), (46, .iload_n 1, 1, 47), (47, .iload_n 2, 1, 48), (48, .lload_n 3, 1, 49), (49, .invokevirtual 323, 3, 52), (52, .iconst 1, 1, 53), (53, .ireturn, 1, 54)]
def M_C_set : zM := (⟨"CamPieces", "set", "(IIJ)I"⟩, prog_1_method_39_code, 5, some .int, I_C_set)
def R_C_set : Room := { frames := 4, cells := 0, slots := 0, locals := 89 }
theorem D_C_set : zDec M_C_set := (by decide +kernel : ∀ q ∈ I_C_set, decode prog_1_method_39_code q.1 = .ok (q.2.1, q.2.2.1) ∧ q.1 + q.2.2.1 = q.2.2.2)
theorem C_C_set : zCv M_C_set 3 := ⟨⟨zTB_of 1 (by decide +kernel) rfl, zTB_of 857 (by decide +kernel) rfl, by decide, by decide, by decide +kernel⟩, zTB_of 855 (by decide +kernel) rfl, zTB_of 856 (by decide +kernel) rfl⟩
def I_C_get : List (Nat × Instr × Nat × Nat) := [(0, .aload_n 0, 1, 1), (1, .getfield 46, 3, 4), (4, .iload_n 1, 1, 5), (5, .iload_n 2, 1, 6), (6, .invokevirtual 317, 3, 9), (9, .ifCond .eq 15, 3, 12), (12, .aload_n 0, 1, 13), (13, .getfield 46, 3, 16), (16, .iload_n 1, 1, 17), (17, .iload_n 2, 1, 18), (18, .invokevirtual 359, 3, 21), (21, .goto 6, 3, 24), (24, .ldc2_w 182, 3, 27), (27, .lreturn, 1, 28)]
def M_C_get : zM := (⟨"CamPieces", "get", "(II)J"⟩, prog_1_method_40_code, 3, some .long, I_C_get)
def R_C_get : Room := { frames := 4, cells := 0, slots := 0, locals := 87 }
theorem D_C_get : zDec M_C_get := (by decide +kernel : ∀ q ∈ I_C_get, decode prog_1_method_40_code q.1 = .ok (q.2.1, q.2.2.1) ∧ q.1 + q.2.2.1 = q.2.2.2)
theorem C_C_get : zCv M_C_get 2 := ⟨⟨zTB_of 1 (by decide +kernel) rfl, zTB_of 861 (by decide +kernel) rfl, by decide, by decide, by decide +kernel⟩, zTB_of 859 (by decide +kernel) rfl, zTB_of 860 (by decide +kernel) rfl⟩
def I_C_image : List (Nat × Instr × Nat × Nat) := [(0, .aload_n 0, 1, 1), (1, .getfield 22, 3, 4), (4, .aload_n 0, 1, 5), (5, .getfield 14, 3, 8), (8, .invokevirtual 354, 3, 11), (11, .aload_n 0, 1, 12), (12, .getfield 18, 3, 15), (15, .aload_n 0, 1, 16), (16, .getfield 25, 3, 19), (19, .invokestatic 91, 3, 22), (22, .aload_n 0, 1, 23), (23, .iconst 1, 1, 24), (24, .putfield 28, 3, 27), (27, .aload_n 0, 1, 28), (28, .getfield 14, 3, 31), (31, .invokevirtual 111, 3, 34), (34, .ireturn, 1, 35)]
def M_C_image : zM := (⟨"CamPieces", "image", "()I"⟩, prog_1_method_41_code, 1, some .int, I_C_image)
def R_C_image : Room := { frames := 3, cells := 0, slots := 0, locals := 65 }
theorem D_C_image : zDec M_C_image := (by decide +kernel : ∀ q ∈ I_C_image, decode prog_1_method_41_code q.1 = .ok (q.2.1, q.2.2.1) ∧ q.1 + q.2.2.1 = q.2.2.2)
theorem C_C_image : zCv M_C_image 0 := ⟨⟨zTB_of 1 (by decide +kernel) rfl, zTB_of 865 (by decide +kernel) rfl, by decide, by decide, by decide +kernel⟩, zTB_of 863 (by decide +kernel) rfl, zTB_of 864 (by decide +kernel) rfl⟩
def I_C_undo : List (Nat × Instr × Nat × Nat) := [(0, .aload_n 0, 1, 1), (1, .getfield 28, 3, 4), (4, .ifCond .ne 6, 3, 7), (7, .bipush (-3), 2, 9), (9, .ireturn, 1, 10), (10, .aload_n 0, 1, 11), (11, .getfield 14, 3, 14), (14, .aload_n 0, 1, 15), (15, .getfield 22, 3, 18), (18, .invokevirtual 354, 3, 21), (21, .aload_n 0, 1, 22), (22, .getfield 25, 3, 25), (25, .aload_n 0, 1, 26), (26, .getfield 18, 3, 29), (29, .invokestatic 91, 3, 32), (32, .aload_n 0, 1, 33), (33, .getfield 14, 3, 36), (36, .invokevirtual 111, 3, 39), (39, .ireturn, 1, 40)]
def M_C_undo : zM := (⟨"CamPieces", "undo", "()I"⟩, prog_1_method_42_code, 1, some .int, I_C_undo)
def R_C_undo : Room := { frames := 3, cells := 0, slots := 0, locals := 65 }
theorem D_C_undo : zDec M_C_undo := (by decide +kernel : ∀ q ∈ I_C_undo, decode prog_1_method_42_code q.1 = .ok (q.2.1, q.2.2.1) ∧ q.1 + q.2.2.1 = q.2.2.2)
theorem C_C_undo : zCv M_C_undo 0 := ⟨⟨zTB_of 1 (by decide +kernel) rfl, zTB_of 869 (by decide +kernel) rfl, by decide, by decide, by decide +kernel⟩, zTB_of 867 (by decide +kernel) rfl, zTB_of 868 (by decide +kernel) rfl⟩
def I_C_standAt : List (Nat × Instr × Nat × Nat) := [(0, .aload_n 0, 1, 1), (1, .getfield 14, 3, 4), (4, .invokevirtual 111, 3, 7), (7, .istore_n 3, 1, 8), (8, .aload_n 0, 1, 9), (9, .getfield 14, 3, 12), (12, .invokevirtual 103, 3, 15), (15, .istore 4, 2, 17), (17, .iload_n 3, 1, 18), (18, .ifCond .eq 22, 3, 21), (21, .iload_n 1, 1, 22), (22, .ifCond .lt 18, 3, 25), (25, .iload_n 1, 1, 26), (26, .iload 4, 2, 28), (28, .if_icmp .gt 12, 3, 31), (31, .iload_n 2, 1, 32), (32, .ifCond .lt 8, 3, 35), (35, .iload_n 2, 1, 36), (36, .iconst 1, 1, 37), (37, .if_icmp .le 5, 3, 40), (40, .iconst 0, 1, 41), (41, .ireturn, 1, 42), (42, .iload_n 1, 1, 43), (43, .ifCond .ne 43, 3, 46), (46, .iload_n 2, 1, 47), (47, .ifCond .ne 39, 3, 50), (50, .aload_n 0, 1, 51), (51, .getfield 14, 3, 54), (54, .invokevirtual 159, 3, 57), (57, .ifCond .eq 27, 3, 60), (60, .aload_n 0, 1, 61), (61, .iload_n 3, 1, 62), (62, .iconst 1, 1, 63), (63, .isub, 1, 64), (64, .aload_n 0, 1, 65), (65, .getfield 14, 3, 68), (68, .iload_n 3, 1, 69), (69, .iconst 1, 1, 70), (70, .isub, 1, 71), (71, .invokevirtual 125, 3, 74), (74, .invokevirtual 362, 3, 77), (77, .ifCond .eq 7, 3, 80), (80, .iconst 1, 1, 81), (81, .goto 4, 3, 84), (84, .iconst 0, 1, 85), (85, .ireturn, 1, 86), (86, .iload_n 1, 1, 87), (87, .iload 4, 2, 89), (89, .if_icmp .ne 33, 3, 92), (92, .iload_n 2, 1, 93), (93, .iconst 1, 1, 94), (94, .if_icmp .ne 28, 3, 97), (97, .aload_n 0, 1, 98), (98, .getfield 14, 3, 101), (101, .invokevirtual 159, 3, 104), (104, .ifCond .eq 16, 3, 107), (107, .aload_n 0, 1, 108), (108, .iconst 0, 1, 109), (109, .iconst 0, 1, 110), (110, .invokevirtual 362, 3, 113), (113, .ifCond .eq 7, 3, 116), (116, .iconst 1, 1, 117), (117, .goto 4, 3, 120), (120, .iconst 0, 1, 121), (121, .ireturn, 1, 122), (122, .iconst 0, 1, 123), (123, .istore 5, 2, 125), (125, .iconst 0, 1, 126), (126, .istore 6, 2, 128), (128, .iload 6, 2, 130), (130, .iload_n 3, 1, 131), (131, .if_icmp .ge 90, 3, 134), (134, .iload_n 1, 1, 135), (135, .iload 5, 2, 137), (137, .isub, 1, 138), (138, .istore 7, 2, 140), (140, .aload_n 0, 1, 141), (141, .getfield 14, 3, 144), (144, .iload 6, 2, 146), (146, .invokevirtual 125, 3, 149), (149, .istore 8, 2, 151), (151, .iload_n 2, 1, 152), (152, .ifCond .ne 23, 3, 155), (155, .iload 7, 2, 157), (157, .ifCond .le 14, 3, 160), (160, .iload 7, 2, 162), (162, .iload 8, 2, 164), (164, .if_icmp .gt 7, 3, 167), (167, .iconst 1, 1, 168), (168, .goto 24, 3, 171), (171, .iconst 0, 1, 172), (172, .goto 20, 3, 175), (175, .iload 7, 2, 177), (177, .ifCond .lt 14, 3, 180), (180, .iload 7, 2, 182), (182, .iload 8, 2, 184), (184, .if_icmp .ge 7, 3, 187), (187, .iconst 1, 1, 188), (188, .goto 4, 3, 191), (191, .iconst 0, 1, 192), (192, .istore 9, 2, 194), (194, .iload 9, 2, 196), (196, .ifCond .eq 12, 3, 199), (199, .aload_n 0, 1, 200), (200, .iload 6, 2, 202), (202, .iload 7, 2, 204), (204, .invokevirtual 362, 3, 207), (207, .ireturn, 1, 208), (208, .iload 5, 2, 210), (210, .iload 8, 2, 212), (212, .iadd, 1, 213), (213, .istore 5, 2, 215), (215, .iinc 6 1, 3, 218), (218, .goto (-90), 3, 221), (221, .iconst 0, 1, 222), (222, .ireturn, 1, 223)]
def M_C_standAt : zM := (⟨"CamPieces", "standAt", "(II)Z"⟩, prog_1_method_43_code, 10, some .boolean, I_C_standAt)
def R_C_standAt : Room := { frames := 4, cells := 0, slots := 0, locals := 109 }
theorem D_C_standAt : zDec M_C_standAt := (by decide +kernel : ∀ q ∈ I_C_standAt, decode prog_1_method_43_code q.1 = .ok (q.2.1, q.2.2.1) ∧ q.1 + q.2.2.1 = q.2.2.2)
theorem C_C_standAt : zCv M_C_standAt 2 := ⟨⟨zTB_of 1 (by decide +kernel) rfl, zTB_of 384 (by decide +kernel) rfl, by decide, by decide, by decide +kernel⟩, zTB_of 383 (by decide +kernel) rfl, zTB_ofS 0 (by decide +kernel) rfl⟩
def I_C_standIn : List (Nat × Instr × Nat × Nat) := [(0, .aload_n 0, 1, 1), (1, .getfield 53, 3, 4), (4, .aload_n 0, 1, 5), (5, .getfield 14, 3, 8), (8, .iload_n 1, 1, 9), (9, .invokevirtual 121, 3, 12), (12, .aload_n 0, 1, 13), (13, .getfield 14, 3, 16), (16, .iload_n 1, 1, 17), (17, .invokevirtual 125, 3, 20), (20, .i2l, 1, 21), (21, .aload_n 0, 1, 22), (22, .getfield 14, 3, 25), (25, .iload_n 1, 1, 26), (26, .invokevirtual 128, 3, 29), (29, .i2l, 1, 30), (30, .aload_n 0, 1, 31), (31, .getfield 14, 3, 34), (34, .iload_n 1, 1, 35), (35, .invokevirtual 142, 3, 38), (38, .i2l, 1, 39), (39, .iload_n 2, 1, 40), (40, .i2l, 1, 41), (41, .invokevirtual 365, 3, 44), (44, .iconst 1, 1, 45), (45, .ireturn, 1, 46)]
def M_C_standIn : zM := (⟨"CamPieces", "standIn", "(II)Z"⟩, prog_1_method_44_code, 3, some .boolean, I_C_standIn)
def R_C_standIn : Room := { frames := 3, cells := 0, slots := 0, locals := 87 }
theorem D_C_standIn : zDec M_C_standIn := (by decide +kernel : ∀ q ∈ I_C_standIn, decode prog_1_method_44_code q.1 = .ok (q.2.1, q.2.2.1) ∧ q.1 + q.2.2.1 = q.2.2.2)
theorem C_C_standIn : zCv M_C_standIn 2 := ⟨⟨zTB_of 1 (by decide +kernel) rfl, zTB_of 388 (by decide +kernel) rfl, by decide, by decide, by decide +kernel⟩, zTB_of 387 (by decide +kernel) rfl, zTB_ofS 1 (by decide +kernel) rfl⟩
def I_C_setting : List (Nat × Instr × Nat × Nat) := [(0, .aload_n 0, 1, 1), (1, .getfield 18, 3, 4), (4, .iload_n 1, 1, 5), (5, .invokestatic 148, 3, 8), (8, .i2l, 1, 9), (9, .lreturn, 1, 10)]
def M_C_setting : zM := (⟨"CamPieces", "setting", "(I)J"⟩, prog_1_method_45_code, 2, some .long, I_C_setting)
def R_C_setting : Room := { frames := 1, cells := 0, slots := 0, locals := 21 }
theorem D_C_setting : zDec M_C_setting := (by decide +kernel : ∀ q ∈ I_C_setting, decode prog_1_method_45_code q.1 = .ok (q.2.1, q.2.2.1) ∧ q.1 + q.2.2.1 = q.2.2.2)
theorem C_C_setting : zCv M_C_setting 1 := ⟨⟨zTB_of 1 (by decide +kernel) rfl, zTB_of 487 (by decide +kernel) rfl, by decide, by decide, by decide +kernel⟩, zTB_of 486 (by decide +kernel) rfl, zTB_ofS 11 (by decide +kernel) rfl⟩
def I_C_reachHere : List (Nat × Instr × Nat × Nat) := [(0, .aload_n 0, 1, 1), (1, .iconst 0, 1, 2), (2, .invokevirtual 274, 3, 5), (5, .aload_n 0, 1, 6), (6, .getfield 53, 3, 9), (9, .getfield 195, 3, 12), (12, .lmul, 1, 13), (13, .aload_n 0, 1, 14), (14, .getfield 53, 3, 17), (17, .invokevirtual 184, 3, 20), (20, .ladd, 1, 21), (21, .lreturn, 1, 22)]
def M_C_reachHere : zM := (⟨"CamPieces", "reachHere", "()J"⟩, prog_1_method_46_code, 1, some .long, I_C_reachHere)
def R_C_reachHere : Room := { frames := 2, cells := 0, slots := 0, locals := 42 }
theorem D_C_reachHere : zDec M_C_reachHere := (by decide +kernel : ∀ q ∈ I_C_reachHere, decode prog_1_method_46_code q.1 = .ok (q.2.1, q.2.2.1) ∧ q.1 + q.2.2.1 = q.2.2.2)
theorem C_C_reachHere : zCv M_C_reachHere 0 := ⟨⟨zTB_of 1 (by decide +kernel) rfl, zTB_of 483 (by decide +kernel) rfl, by decide, by decide, by decide +kernel⟩, zTB_of 482 (by decide +kernel) rfl, zTB_ofS 10 (by decide +kernel) rfl⟩
def I_C_curveHere : List (Nat × Instr × Nat × Nat) := [(0, .aload_n 0, 1, 1), (1, .invokevirtual 219, 3, 4), (4, .ldc2_w 242, 3, 7), (7, .aload_n 0, 1, 8), (8, .getfield 53, 3, 11), (11, .getfield 192, 3, 14), (14, .lmul, 1, 15), (15, .ladd, 1, 16), (16, .lreturn, 1, 17)]
def M_C_curveHere : zM := (⟨"CamPieces", "curveHere", "()J"⟩, prog_1_method_47_code, 1, some .long, I_C_curveHere)
def R_C_curveHere : Room := { frames := 3, cells := 0, slots := 0, locals := 62 }
theorem D_C_curveHere : zDec M_C_curveHere := (by decide +kernel : ∀ q ∈ I_C_curveHere, decode prog_1_method_47_code q.1 = .ok (q.2.1, q.2.2.1) ∧ q.1 + q.2.2.1 = q.2.2.2)
theorem C_C_curveHere : zCv M_C_curveHere 0 := ⟨⟨zTB_of 1 (by decide +kernel) rfl, zTB_of 479 (by decide +kernel) rfl, by decide, by decide, by decide +kernel⟩, zTB_of 478 (by decide +kernel) rfl, zTB_ofS 9 (by decide +kernel) rfl⟩
def I_C_preloadHere : List (Nat × Instr × Nat × Nat) := [(0, .aload_n 0, 1, 1), (1, .iconst 3, 1, 2), (2, .invokevirtual 274, 3, 5), (5, .aload_n 0, 1, 6), (6, .getfield 53, 3, 9), (9, .getfield 195, 3, 12), (12, .lmul, 1, 13), (13, .lreturn, 1, 14)]
def M_C_preloadHere : zM := (⟨"CamPieces", "preloadHere", "()J"⟩, prog_1_method_48_code, 1, some .long, I_C_preloadHere)
def R_C_preloadHere : Room := { frames := 2, cells := 0, slots := 0, locals := 42 }
theorem D_C_preloadHere : zDec M_C_preloadHere := (by decide +kernel : ∀ q ∈ I_C_preloadHere, decode prog_1_method_48_code q.1 = .ok (q.2.1, q.2.2.1) ∧ q.1 + q.2.2.1 = q.2.2.2)
theorem C_C_preloadHere : zCv M_C_preloadHere 0 := ⟨⟨zTB_of 1 (by decide +kernel) rfl, zTB_of 505 (by decide +kernel) rfl, by decide, by decide, by decide +kernel⟩, zTB_of 504 (by decide +kernel) rfl, zTB_ofS 13 (by decide +kernel) rfl⟩
def I_C_springHere : List (Nat × Instr × Nat × Nat) := [(0, .aload_n 0, 1, 1), (1, .iconst 2, 1, 2), (2, .invokevirtual 274, 3, 5), (5, .aload_n 0, 1, 6), (6, .getfield 53, 3, 9), (9, .invokevirtual 184, 3, 12), (12, .lmul, 1, 13), (13, .lreturn, 1, 14)]
def M_C_springHere : zM := (⟨"CamPieces", "springHere", "()J"⟩, prog_1_method_49_code, 1, some .long, I_C_springHere)
def R_C_springHere : Room := { frames := 2, cells := 0, slots := 0, locals := 42 }
theorem D_C_springHere : zDec M_C_springHere := (by decide +kernel : ∀ q ∈ I_C_springHere, decode prog_1_method_49_code q.1 = .ok (q.2.1, q.2.2.1) ∧ q.1 + q.2.2.1 = q.2.2.2)
theorem C_C_springHere : zCv M_C_springHere 0 := ⟨⟨zTB_of 1 (by decide +kernel) rfl, zTB_of 509 (by decide +kernel) rfl, by decide, by decide, by decide +kernel⟩, zTB_of 508 (by decide +kernel) rfl, zTB_ofS 14 (by decide +kernel) rfl⟩
def I_C_inertiaHere : List (Nat × Instr × Nat × Nat) := [(0, .aload_n 0, 1, 1), (1, .iconst 1, 1, 2), (2, .invokevirtual 274, 3, 5), (5, .aload_n 0, 1, 6), (6, .iconst 4, 1, 7), (7, .invokevirtual 274, 3, 10), (10, .lmul, 1, 11), (11, .aload_n 0, 1, 12), (12, .iconst 4, 1, 13), (13, .invokevirtual 274, 3, 16), (16, .lmul, 1, 17), (17, .ldc2_w 242, 3, 20), (20, .lmul, 1, 21), (21, .aload_n 0, 1, 22), (22, .getfield 53, 3, 25), (25, .getfield 192, 3, 28), (28, .lmul, 1, 29), (29, .lreturn, 1, 30)]
def M_C_inertiaHere : zM := (⟨"CamPieces", "inertiaHere", "()J"⟩, prog_1_method_50_code, 1, some .long, I_C_inertiaHere)
def R_C_inertiaHere : Room := { frames := 2, cells := 0, slots := 0, locals := 42 }
theorem D_C_inertiaHere : zDec M_C_inertiaHere := (by decide +kernel : ∀ q ∈ I_C_inertiaHere, decode prog_1_method_50_code q.1 = .ok (q.2.1, q.2.2.1) ∧ q.1 + q.2.2.1 = q.2.2.2)
theorem C_C_inertiaHere : zCv M_C_inertiaHere 0 := ⟨⟨zTB_of 1 (by decide +kernel) rfl, zTB_of 513 (by decide +kernel) rfl, by decide, by decide, by decide +kernel⟩, zTB_of 512 (by decide +kernel) rfl, zTB_ofS 15 (by decide +kernel) rfl⟩
def I_C_forceHere : List (Nat × Instr × Nat × Nat) := [(0, .aload_n 0, 1, 1), (1, .invokevirtual 271, 3, 4), (4, .aload_n 0, 1, 5), (5, .invokevirtual 265, 3, 8), (8, .ladd, 1, 9), (9, .aload_n 0, 1, 10), (10, .invokevirtual 268, 3, 13), (13, .ladd, 1, 14), (14, .lreturn, 1, 15)]
def M_C_forceHere : zM := (⟨"CamPieces", "forceHere", "()J"⟩, prog_1_method_51_code, 1, some .long, I_C_forceHere)
def R_C_forceHere : Room := { frames := 3, cells := 0, slots := 0, locals := 62 }
theorem D_C_forceHere : zDec M_C_forceHere := (by decide +kernel : ∀ q ∈ I_C_forceHere, decode prog_1_method_51_code q.1 = .ok (q.2.1, q.2.2.1) ∧ q.1 + q.2.2.1 = q.2.2.2)
theorem C_C_forceHere : zCv M_C_forceHere 0 := ⟨⟨zTB_of 1 (by decide +kernel) rfl, zTB_of 501 (by decide +kernel) rfl, by decide, by decide, by decide +kernel⟩, zTB_of 500 (by decide +kernel) rfl, zTB_ofS 12 (by decide +kernel) rfl⟩
def I_C_hasJoin : List (Nat × Instr × Nat × Nat) := [(0, .iload_n 1, 1, 1), (1, .ifCond .ne 13, 3, 4), (4, .aload_n 0, 1, 5), (5, .getfield 14, 3, 8), (8, .invokevirtual 159, 3, 11), (11, .goto 11, 3, 14), (14, .aload_n 0, 1, 15), (15, .getfield 14, 3, 18), (18, .iload_n 1, 1, 19), (19, .invokevirtual 117, 3, 22), (22, .ireturn, 1, 23)]
def M_C_hasJoin : zM := (⟨"CamPieces", "hasJoin", "(I)Z"⟩, prog_1_method_52_code, 2, some .boolean, I_C_hasJoin)
def R_C_hasJoin : Room := { frames := 4, cells := 0, slots := 0, locals := 84 }
theorem D_C_hasJoin : zDec M_C_hasJoin := (by decide +kernel : ∀ q ∈ I_C_hasJoin, decode prog_1_method_52_code q.1 = .ok (q.2.1, q.2.2.1) ∧ q.1 + q.2.2.1 = q.2.2.2)
theorem C_C_hasJoin : zCv M_C_hasJoin 1 := ⟨⟨zTB_of 1 (by decide +kernel) rfl, zTB_of 434 (by decide +kernel) rfl, by decide, by decide, by decide +kernel⟩, zTB_of 433 (by decide +kernel) rfl, zTB_ofS 5 (by decide +kernel) rfl⟩
def I_C_pieceAhead : List (Nat × Instr × Nat × Nat) := [(0, .iload_n 1, 1, 1), (1, .ifCond .ne 15, 3, 4), (4, .aload_n 0, 1, 5), (5, .getfield 14, 3, 8), (8, .invokevirtual 111, 3, 11), (11, .iconst 1, 1, 12), (12, .isub, 1, 13), (13, .goto 6, 3, 16), (16, .iload_n 1, 1, 17), (17, .iconst 1, 1, 18), (18, .isub, 1, 19), (19, .ireturn, 1, 20)]
def M_C_pieceAhead : zM := (⟨"CamPieces", "pieceAhead", "(I)I"⟩, prog_1_method_53_code, 2, some .int, I_C_pieceAhead)
def R_C_pieceAhead : Room := { frames := 1, cells := 0, slots := 0, locals := 20 }
theorem D_C_pieceAhead : zDec M_C_pieceAhead := (by decide +kernel : ∀ q ∈ I_C_pieceAhead, decode prog_1_method_53_code q.1 = .ok (q.2.1, q.2.2.1) ∧ q.1 + q.2.2.1 = q.2.2.2)
theorem C_C_pieceAhead : zCv M_C_pieceAhead 1 := ⟨⟨zTB_of 1 (by decide +kernel) rfl, zTB_of 442 (by decide +kernel) rfl, by decide, by decide, by decide +kernel⟩, zTB_of 441 (by decide +kernel) rfl, zTB_ofS 7 (by decide +kernel) rfl⟩
def I_C_reckonJump : List (Nat × Instr × Nat × Nat) := [(0, .aload_n 0, 1, 1), (1, .iload_n 1, 1, 2), (2, .invokevirtual 369, 3, 5), (5, .istore_n 3, 1, 6), (6, .aload_n 0, 1, 7), (7, .iload_n 3, 1, 8), (8, .aload_n 0, 1, 9), (9, .getfield 14, 3, 12), (12, .iload_n 3, 1, 13), (13, .invokevirtual 125, 3, 16), (16, .invokevirtual 362, 3, 19), (19, .pop, 1, 20), (20, .aload_n 0, 1, 21), (21, .getfield 78, 3, 24), (24, .iload_n 2, 1, 25), (25, .iconst 1, 1, 26), (26, .if_icmp .ne 13, 3, 29), (29, .aload_n 0, 1, 30), (30, .getfield 53, 3, 33), (33, .getfield 188, 3, 36), (36, .goto 10, 3, 39), (39, .aload_n 0, 1, 40), (40, .getfield 53, 3, 43), (43, .getfield 192, 3, 46), (46, .aload_n 0, 1, 47), (47, .getfield 53, 3, 50), (50, .getfield 195, 3, 53), (53, .invokevirtual 260, 3, 56), (56, .aload_n 0, 1, 57), (57, .getfield 78, 3, 60), (60, .invokevirtual 372, 3, 63), (63, .aload_n 0, 1, 64), (64, .iload_n 1, 1, 65), (65, .iconst 0, 1, 66), (66, .invokevirtual 362, 3, 69), (69, .pop, 1, 70), (70, .aload_n 0, 1, 71), (71, .getfield 74, 3, 74), (74, .iload_n 2, 1, 75), (75, .iconst 1, 1, 76), (76, .if_icmp .ne 13, 3, 79), (79, .aload_n 0, 1, 80), (80, .getfield 53, 3, 83), (83, .getfield 188, 3, 86), (86, .goto 10, 3, 89), (89, .aload_n 0, 1, 90), (90, .getfield 53, 3, 93), (93, .getfield 192, 3, 96), (96, .aload_n 0, 1, 97), (97, .getfield 53, 3, 100), (100, .getfield 195, 3, 103), (103, .invokevirtual 260, 3, 106), (106, .aload_n 0, 1, 107), (107, .getfield 74, 3, 110), (110, .invokevirtual 372, 3, 113), (113, .aload_n 0, 1, 114), (114, .getfield 74, 3, 117), (117, .aload_n 0, 1, 118), (118, .getfield 78, 3, 121), (121, .invokevirtual 375, 3, 124), (124, .aload_n 0, 1, 125), (125, .getfield 74, 3, 128), (128, .invokevirtual 372, 3, 131), (131, .return_, 1, 132)]
def M_C_reckonJump : zM := (⟨"CamPieces", "reckonJump", "(II)V"⟩, prog_1_method_54_code, 4, none, I_C_reckonJump)
def R_C_reckonJump : Room := { frames := 4, cells := 0, slots := 0, locals := 109 }
theorem D_C_reckonJump : zDec M_C_reckonJump := (by decide +kernel : ∀ q ∈ I_C_reckonJump, decode prog_1_method_54_code q.1 = .ok (q.2.1, q.2.2.1) ∧ q.1 + q.2.2.1 = q.2.2.2)
theorem C_C_reckonJump : zCv M_C_reckonJump 2 := ⟨⟨zTB_of 1 (by decide +kernel) rfl, zTB_of 438 (by decide +kernel) rfl, by decide, by decide, by decide +kernel⟩, zTB_of 437 (by decide +kernel) rfl, zTB_ofS 6 (by decide +kernel) rfl⟩
def I_C_kindOfJoin : List (Nat × Instr × Nat × Nat) := [(0, .aload_n 0, 1, 1), (1, .iload_n 1, 1, 2), (2, .iconst 1, 1, 3), (3, .invokevirtual 205, 3, 6), (6, .aload_n 0, 1, 7), (7, .getfield 74, 3, 10), (10, .getfield 209, 3, 13), (13, .lconst 0, 1, 14), (14, .lcmp, 1, 15), (15, .ifCond .eq 5, 3, 18), (18, .iconst 0, 1, 19), (19, .ireturn, 1, 20), (20, .aload_n 0, 1, 21), (21, .iload_n 1, 1, 22), (22, .iconst 2, 1, 23), (23, .invokevirtual 205, 3, 26), (26, .aload_n 0, 1, 27), (27, .getfield 74, 3, 30), (30, .getfield 209, 3, 33), (33, .lconst 0, 1, 34), (34, .lcmp, 1, 35), (35, .ifCond .eq 7, 3, 38), (38, .iconst 1, 1, 39), (39, .goto 4, 3, 42), (42, .iconst 2, 1, 43), (43, .ireturn, 1, 44)]
def M_C_kindOfJoin : zM := (⟨"CamPieces", "kindOfJoin", "(I)I"⟩, prog_1_method_55_code, 2, some .int, I_C_kindOfJoin)
def R_C_kindOfJoin : Room := { frames := 5, cells := 0, slots := 0, locals := 132 }
theorem D_C_kindOfJoin : zDec M_C_kindOfJoin := (by decide +kernel : ∀ q ∈ I_C_kindOfJoin, decode prog_1_method_55_code q.1 = .ok (q.2.1, q.2.2.1) ∧ q.1 + q.2.2.1 = q.2.2.2)
theorem C_C_kindOfJoin : zCv M_C_kindOfJoin 1 := ⟨⟨zTB_of 1 (by decide +kernel) rfl, zTB_of 463 (by decide +kernel) rfl, by decide, by decide, by decide +kernel⟩, zTB_of 462 (by decide +kernel) rfl, zTB_ofS 8 (by decide +kernel) rfl⟩
def I_C_cornersAt : List (Nat × Instr × Nat × Nat) := [(0, .aload_n 0, 1, 1), (1, .iload_n 1, 1, 2), (2, .invokevirtual 202, 3, 5), (5, .ifCond .ne 5, 3, 8), (8, .iconst 0, 1, 9), (9, .ireturn, 1, 10), (10, .aload_n 0, 1, 11), (11, .iload_n 1, 1, 12), (12, .iconst 1, 1, 13), (13, .invokevirtual 205, 3, 16), (16, .aload_n 0, 1, 17), (17, .getfield 74, 3, 20), (20, .getfield 209, 3, 23), (23, .lconst 0, 1, 24), (24, .lcmp, 1, 25), (25, .ifCond .eq 7, 3, 28), (28, .iconst 1, 1, 29), (29, .goto 4, 3, 32), (32, .iconst 0, 1, 33), (33, .istore_n 2, 1, 34), (34, .aload_n 0, 1, 35), (35, .iload_n 1, 1, 36), (36, .invokevirtual 369, 3, 39), (39, .istore_n 3, 1, 40), (40, .aload_n 0, 1, 41), (41, .iload_n 3, 1, 42), (42, .aload_n 0, 1, 43), (43, .getfield 14, 3, 46), (46, .iload_n 3, 1, 47), (47, .invokevirtual 125, 3, 50), (50, .invokevirtual 362, 3, 53), (53, .pop, 1, 54), (54, .aload_n 0, 1, 55), (55, .getfield 53, 3, 58), (58, .getfield 188, 3, 61), (61, .lconst 0, 1, 62), (62, .lcmp, 1, 63), (63, .ifCond .eq 7, 3, 66), (66, .iconst 1, 1, 67), (67, .goto 4, 3, 70), (70, .iconst 0, 1, 71), (71, .istore 4, 2, 73), (73, .aload_n 0, 1, 74), (74, .iload_n 1, 1, 75), (75, .iconst 0, 1, 76), (76, .invokevirtual 362, 3, 79), (79, .pop, 1, 80), (80, .aload_n 0, 1, 81), (81, .getfield 53, 3, 84), (84, .getfield 188, 3, 87), (87, .lconst 0, 1, 88), (88, .lcmp, 1, 89), (89, .ifCond .eq 7, 3, 92), (92, .iconst 1, 1, 93), (93, .goto 4, 3, 96), (96, .iconst 0, 1, 97), (97, .istore 5, 2, 99), (99, .iload_n 2, 1, 100), (100, .ifCond .eq 7, 3, 103), (103, .iconst 1, 1, 104), (104, .goto 4, 3, 107), (107, .iconst 0, 1, 108), (108, .iload 4, 2, 110), (110, .ifCond .eq 7, 3, 113), (113, .iconst 2, 1, 114), (114, .goto 4, 3, 117), (117, .iconst 0, 1, 118), (118, .ior, 1, 119), (119, .iload 5, 2, 121), (121, .ifCond .eq 7, 3, 124), (124, .iconst 4, 1, 125), (125, .goto 4, 3, 128), (128, .iconst 0, 1, 129), (129, .ior, 1, 130), (130, .ireturn, 1, 131)]
def M_C_cornersAt : zM := (⟨"CamPieces", "cornersAt", "(I)I"⟩, prog_1_method_56_code, 6, some .int, I_C_cornersAt)
def R_C_cornersAt : Room := { frames := 5, cells := 0, slots := 0, locals := 132 }
theorem D_C_cornersAt : zDec M_C_cornersAt := (by decide +kernel : ∀ q ∈ I_C_cornersAt, decode prog_1_method_56_code q.1 = .ok (q.2.1, q.2.2.1) ∧ q.1 + q.2.2.1 = q.2.2.2)
theorem C_C_cornersAt : zCv M_C_cornersAt 1 := ⟨⟨zTB_of 1 (by decide +kernel) rfl, zTB_of 604 (by decide +kernel) rfl, by decide, by decide, by decide +kernel⟩, zTB_of 603 (by decide +kernel) rfl, zTB_ofS 17 (by decide +kernel) rfl⟩
def I_C_hasCorner : List (Nat × Instr × Nat × Nat) := [(0, .iconst 0, 1, 1), (1, .istore_n 2, 1, 2), (2, .iload_n 2, 1, 3), (3, .aload_n 0, 1, 4), (4, .getfield 14, 3, 7), (7, .invokevirtual 111, 3, 10), (10, .if_icmp .ge 44, 3, 13), (13, .iconst 2, 1, 14), (14, .iload_n 1, 1, 15), (15, .aload_n 0, 1, 16), (16, .iload_n 2, 1, 17), (17, .invokevirtual 369, 3, 20), (20, .ishr, 1, 21), (21, .iconst 1, 1, 22), (22, .iand, 1, 23), (23, .imul, 1, 24), (24, .iload_n 1, 1, 25), (25, .iload_n 2, 1, 26), (26, .ishr, 1, 27), (27, .iconst 1, 1, 28), (28, .iand, 1, 29), (29, .iadd, 1, 30), (30, .istore_n 3, 1, 31), (31, .aload_n 0, 1, 32), (32, .getfield 85, 3, 35), (35, .iload_n 2, 1, 36), (36, .invokestatic 148, 3, 39), (39, .iload_n 3, 1, 40), (40, .ishr, 1, 41), (41, .iconst 1, 1, 42), (42, .iand, 1, 43), (43, .ifCond .eq 5, 3, 46), (46, .iconst 1, 1, 47), (47, .ireturn, 1, 48), (48, .iinc 2 1, 3, 51), (51, .goto (-49), 3, 54), (54, .iconst 0, 1, 55), (55, .ireturn, 1, 56)]
def M_C_hasCorner : zM := (⟨"CamPieces", "hasCorner", "(I)Z"⟩, prog_1_method_57_code, 4, some .boolean, I_C_hasCorner)
def R_C_hasCorner : Room := { frames := 2, cells := 0, slots := 0, locals := 41 }
theorem D_C_hasCorner : zDec M_C_hasCorner := (by decide +kernel : ∀ q ∈ I_C_hasCorner, decode prog_1_method_57_code q.1 = .ok (q.2.1, q.2.2.1) ∧ q.1 + q.2.2.1 = q.2.2.2)
theorem C_C_hasCorner : zCv M_C_hasCorner 1 := ⟨⟨zTB_of 1 (by decide +kernel) rfl, zTB_of 614 (by decide +kernel) rfl, by decide, by decide, by decide +kernel⟩, zTB_of 613 (by decide +kernel) rfl, zTB_ofS 18 (by decide +kernel) rfl⟩
def I_C_sampleHere : List (Nat × Instr × Nat × Nat) := [(0, .aload_n 0, 1, 1), (1, .getfield 53, 3, 4), (4, .aload_n 0, 1, 5), (5, .iconst 5, 1, 6), (6, .invokevirtual 274, 3, 9), (9, .invokevirtual 379, 3, 12), (12, .lreturn, 1, 13)]
def M_C_sampleHere : zM := (⟨"CamPieces", "sampleHere", "()J"⟩, prog_1_method_58_code, 1, some .long, I_C_sampleHere)
def R_C_sampleHere : Room := { frames := 2, cells := 0, slots := 0, locals := 47 }
theorem D_C_sampleHere : zDec M_C_sampleHere := (by decide +kernel : ∀ q ∈ I_C_sampleHere, decode prog_1_method_58_code q.1 = .ok (q.2.1, q.2.2.1) ∧ q.1 + q.2.2.1 = q.2.2.2)
theorem C_C_sampleHere : zCv M_C_sampleHere 0 := ⟨⟨zTB_of 1 (by decide +kernel) rfl, zTB_of 622 (by decide +kernel) rfl, by decide, by decide, by decide +kernel⟩, zTB_of 621 (by decide +kernel) rfl, zTB_ofS 19 (by decide +kernel) rfl⟩
def I_C_takeSamples : List (Nat × Instr × Nat × Nat) := [(0, .aload_n 0, 1, 1), (1, .getfield 60, 3, 4), (4, .aload_n 0, 1, 5), (5, .getfield 14, 3, 8), (8, .invokevirtual 227, 3, 11), (11, .iconst 0, 1, 12), (12, .istore_n 1, 1, 13), (13, .iload_n 1, 1, 14), (14, .sipush 375, 3, 17), (17, .if_icmp .ge 68, 3, 20), (20, .aload_n 0, 1, 21), (21, .getfield 60, 3, 24), (24, .aload_n 0, 1, 25), (25, .getfield 14, 3, 28), (28, .aload_n 0, 1, 29), (29, .getfield 53, 3, 32), (32, .invokevirtual 231, 3, 35), (35, .ifCond .eq 50, 3, 38), (38, .aload_n 0, 1, 39), (39, .getfield 60, 3, 42), (42, .getfield 235, 3, 45), (45, .ifCond .lt 34, 3, 48), (48, .aload_n 0, 1, 49), (49, .getfield 60, 3, 52), (52, .getfield 235, 3, 55), (55, .aload_n 0, 1, 56), (56, .getfield 81, 3, 59), (59, .arraylength, 1, 60), (60, .if_icmp .ge 19, 3, 63), (63, .aload_n 0, 1, 64), (64, .getfield 81, 3, 67), (67, .aload_n 0, 1, 68), (68, .getfield 60, 3, 71), (71, .getfield 235, 3, 74), (74, .aload_n 0, 1, 75), (75, .invokevirtual 293, 3, 78), (78, .lastore, 1, 79), (79, .iinc 1 1, 3, 82), (82, .goto (-69), 3, 85), (85, .return_, 1, 86)]
def M_C_takeSamples : zM := (⟨"CamPieces", "takeSamples", "()V"⟩, prog_1_method_59_code, 2, none, I_C_takeSamples)
def R_C_takeSamples : Room := { frames := 5, cells := 0, slots := 0, locals := 134 }
theorem D_C_takeSamples : zDec M_C_takeSamples := (by decide +kernel : ∀ q ∈ I_C_takeSamples, decode prog_1_method_59_code q.1 = .ok (q.2.1, q.2.2.1) ∧ q.1 + q.2.2.1 = q.2.2.2)
theorem C_C_takeSamples : zCv M_C_takeSamples 0 := ⟨⟨zTB_of 1 (by decide +kernel) rfl, zTB_of 635 (by decide +kernel) rfl, by decide, by decide, by decide +kernel⟩, zTB_of 634 (by decide +kernel) rfl, zTB_ofS 20 (by decide +kernel) rfl⟩
def I_C_sampleAt : List (Nat × Instr × Nat × Nat) := [(0, .iload_n 1, 1, 1), (1, .ifCond .lt 21, 3, 4), (4, .iload_n 1, 1, 5), (5, .aload_n 0, 1, 6), (6, .getfield 81, 3, 9), (9, .arraylength, 1, 10), (10, .if_icmp .ge 12, 3, 13), (13, .aload_n 0, 1, 14), (14, .getfield 81, 3, 17), (17, .iload_n 1, 1, 18), (18, .laload, 1, 19), (19, .goto 4, 3, 22), (22, .lconst 0, 1, 23), (23, .lreturn, 1, 24)]
def M_C_sampleAt : zM := (⟨"CamPieces", "sampleAt", "(I)J"⟩, prog_1_method_60_code, 2, some .long, I_C_sampleAt)
def R_C_sampleAt : Room := { frames := 0, cells := 0, slots := 0, locals := 0 }
theorem D_C_sampleAt : zDec M_C_sampleAt := (by decide +kernel : ∀ q ∈ I_C_sampleAt, decode prog_1_method_60_code q.1 = .ok (q.2.1, q.2.2.1) ∧ q.1 + q.2.2.1 = q.2.2.2)
theorem C_C_sampleAt : zCv M_C_sampleAt 1 := ⟨⟨zTB_of 1 (by decide +kernel) rfl, zTB_of 652 (by decide +kernel) rfl, by decide, by decide, by decide +kernel⟩, zTB_of 651 (by decide +kernel) rfl, zTB_ofS 22 (by decide +kernel) rfl⟩
def I_C_spanAt : List (Nat × Instr × Nat × Nat) := [(0, .iload_n 1, 1, 1), (1, .iconst 1, 1, 2), (2, .if_icmp .ge 5, 3, 5), (5, .iconst 1, 1, 6), (6, .ireturn, 1, 7), (7, .iload_n 0, 1, 8), (8, .iload_n 0, 1, 9), (9, .iload_n 1, 1, 10), (10, .irem, 1, 11), (11, .isub, 1, 12), (12, .istore_n 3, 1, 13), (13, .iconst 1, 1, 14), (14, .iload_n 1, 1, 15), (15, .iload_n 2, 1, 16), (16, .iload_n 3, 1, 17), (17, .isub, 1, 18), (18, .invokestatic 382, 3, 21), (21, .invokestatic 385, 3, 24), (24, .ireturn, 1, 25)]
def M_C_spanAt : zM := (⟨"CamPieces", "spanAt", "(III)I"⟩, prog_1_method_61_code, 4, some .int, I_C_spanAt)
def R_C_spanAt : Room := { frames := 1, cells := 0, slots := 0, locals := 24 }
theorem D_C_spanAt : zDec M_C_spanAt := (by decide +kernel : ∀ q ∈ I_C_spanAt, decode prog_1_method_61_code q.1 = .ok (q.2.1, q.2.2.1) ∧ q.1 + q.2.2.1 = q.2.2.2)
theorem C_C_spanAt : zCs M_C_spanAt 3 := ⟨⟨zTB_of 1 (by decide +kernel) rfl, zTB_of 642 (by decide +kernel) rfl, by decide, by decide, by decide +kernel⟩, zTB_of 641 (by decide +kernel) rfl⟩
def I_C_gapAt : List (Nat × Instr × Nat × Nat) := [(0, .iload_n 2, 1, 1), (1, .iconst 1, 1, 2), (2, .if_icmp .ge 5, 3, 5), (5, .lconst 0, 1, 6), (6, .lreturn, 1, 7), (7, .iload_n 1, 1, 8), (8, .iload_n 1, 1, 9), (9, .iload_n 2, 1, 10), (10, .irem, 1, 11), (11, .isub, 1, 12), (12, .istore 4, 2, 14), (14, .iload_n 1, 1, 15), (15, .iload_n 2, 1, 16), (16, .iload_n 3, 1, 17), (17, .invokestatic 303, 3, 20), (20, .istore 5, 2, 22), (22, .iload 4, 2, 24), (24, .iload 5, 2, 26), (26, .iadd, 1, 27), (27, .iload_n 3, 1, 28), (28, .invokestatic 382, 3, 31), (31, .istore 6, 2, 33), (33, .aload_n 0, 1, 34), (34, .iload 4, 2, 36), (36, .invokevirtual 388, 3, 39), (39, .iload 5, 2, 41), (41, .i2l, 1, 42), (42, .lmul, 1, 43), (43, .aload_n 0, 1, 44), (44, .iload 6, 2, 46), (46, .invokevirtual 388, 3, 49), (49, .aload_n 0, 1, 50), (50, .iload 4, 2, 52), (52, .invokevirtual 388, 3, 55), (55, .lsub, 1, 56), (56, .iload_n 1, 1, 57), (57, .iload 4, 2, 59), (59, .isub, 1, 60), (60, .i2l, 1, 61), (61, .lmul, 1, 62), (62, .ladd, 1, 63), (63, .lstore 7, 2, 65), (65, .lload 7, 2, 67), (67, .aload_n 0, 1, 68), (68, .iload_n 1, 1, 69), (69, .invokevirtual 388, 3, 72), (72, .iload 5, 2, 74), (74, .i2l, 1, 75), (75, .lmul, 1, 76), (76, .lsub, 1, 77), (77, .invokestatic 250, 3, 80), (80, .lreturn, 1, 81)]
def M_C_gapAt : zM := (⟨"CamPieces", "gapAt", "(III)J"⟩, prog_1_method_62_code, 9, some .long, I_C_gapAt)
def R_C_gapAt : Room := { frames := 2, cells := 0, slots := 0, locals := 47 }
theorem D_C_gapAt : zDec M_C_gapAt := (by decide +kernel : ∀ q ∈ I_C_gapAt, decode prog_1_method_62_code q.1 = .ok (q.2.1, q.2.2.1) ∧ q.1 + q.2.2.1 = q.2.2.2)
theorem C_C_gapAt : zCv M_C_gapAt 3 := ⟨⟨zTB_of 1 (by decide +kernel) rfl, zTB_of 639 (by decide +kernel) rfl, by decide, by decide, by decide +kernel⟩, zTB_of 638 (by decide +kernel) rfl, zTB_ofS 21 (by decide +kernel) rfl⟩
def I_C_isErrorWithin : List (Nat × Instr × Nat × Nat) := [(0, .aload_n 0, 1, 1), (1, .getfield 14, 3, 4), (4, .invokevirtual 103, 3, 7), (7, .istore_n 3, 1, 8), (8, .iconst 0, 1, 9), (9, .istore 4, 2, 11), (11, .iload 4, 2, 13), (13, .iload_n 3, 1, 14), (14, .if_icmp .gt 46, 3, 17), (17, .iload 4, 2, 19), (19, .sipush 360, 3, 22), (22, .if_icmp .gt 38, 3, 25), (25, .ldc2_w 391, 3, 28), (28, .aload_n 0, 1, 29), (29, .iload 4, 2, 31), (31, .iload_n 1, 1, 32), (32, .iload_n 3, 1, 33), (33, .invokevirtual 299, 3, 36), (36, .lmul, 1, 37), (37, .iload_n 2, 1, 38), (38, .i2l, 1, 39), (39, .iload 4, 2, 41), (41, .iload_n 1, 1, 42), (42, .iload_n 3, 1, 43), (43, .invokestatic 303, 3, 46), (46, .i2l, 1, 47), (47, .lmul, 1, 48), (48, .lcmp, 1, 49), (49, .ifCond .le 5, 3, 52), (52, .iconst 0, 1, 53), (53, .ireturn, 1, 54), (54, .iinc 4 1, 3, 57), (57, .goto (-46), 3, 60), (60, .iconst 1, 1, 61), (61, .ireturn, 1, 62)]
def M_C_isErrorWithin : zM := (⟨"CamPieces", "isErrorWithin", "(II)Z"⟩, prog_1_method_63_code, 5, some .boolean, I_C_isErrorWithin)
def R_C_isErrorWithin : Room := { frames := 3, cells := 0, slots := 0, locals := 75 }
theorem D_C_isErrorWithin : zDec M_C_isErrorWithin := (by decide +kernel : ∀ q ∈ I_C_isErrorWithin, decode prog_1_method_63_code q.1 = .ok (q.2.1, q.2.2.1) ∧ q.1 + q.2.2.1 = q.2.2.2)
theorem C_C_isErrorWithin : zCv M_C_isErrorWithin 2 := ⟨⟨zTB_of 1 (by decide +kernel) rfl, zTB_of 660 (by decide +kernel) rfl, by decide, by decide, by decide +kernel⟩, zTB_of 659 (by decide +kernel) rfl, zTB_ofS 23 (by decide +kernel) rfl⟩
def I_C_areAngles : List (Nat × Instr × Nat × Nat) := [(0, .aload_n 0, 1, 1), (1, .getfield 14, 3, 4), (4, .invokevirtual 103, 3, 7), (7, .istore 4, 2, 9), (9, .aload_n 0, 1, 10), (10, .getfield 14, 3, 13), (13, .invokevirtual 111, 3, 16), (16, .ifCond .eq 24, 3, 19), (19, .iload_n 1, 1, 20), (20, .ifCond .lt 20, 3, 23), (23, .iload_n 1, 1, 24), (24, .iload 4, 2, 26), (26, .if_icmp .gt 14, 3, 29), (29, .iload_n 2, 1, 30), (30, .iconst 1, 1, 31), (31, .if_icmp .lt 9, 3, 34), (34, .iload_n 2, 1, 35), (35, .bipush 60, 2, 37), (37, .if_icmp .le 5, 3, 40), (40, .iconst 0, 1, 41), (41, .ireturn, 1, 42), (42, .iload_n 3, 1, 43), (43, .ifCond .eq 15, 3, 46), (46, .iload_n 1, 1, 47), (47, .iload_n 3, 1, 48), (48, .iconst 1, 1, 49), (49, .isub, 1, 50), (50, .iload_n 2, 1, 51), (51, .imul, 1, 52), (52, .iadd, 1, 53), (53, .iload 4, 2, 55), (55, .if_icmp .gt 7, 3, 58), (58, .iconst 1, 1, 59), (59, .goto 4, 3, 62), (62, .iconst 0, 1, 63), (63, .ireturn, 1, 64)]
def M_C_areAngles : zM := (⟨"CamPieces", "areAngles", "(III)Z"⟩, prog_1_method_64_code, 5, some .boolean, I_C_areAngles)
def R_C_areAngles : Room := { frames := 3, cells := 0, slots := 0, locals := 64 }
theorem D_C_areAngles : zDec M_C_areAngles := (by decide +kernel : ∀ q ∈ I_C_areAngles, decode prog_1_method_64_code q.1 = .ok (q.2.1, q.2.2.1) ∧ q.1 + q.2.2.1 = q.2.2.2)
theorem C_C_areAngles : zCv M_C_areAngles 3 := ⟨⟨zTB_of 1 (by decide +kernel) rfl, zTB_of 679 (by decide +kernel) rfl, by decide, by decide, by decide +kernel⟩, zTB_of 678 (by decide +kernel) rfl, zTB_ofS 24 (by decide +kernel) rfl⟩
def I_C_isSeenBy : List (Nat × Instr × Nat × Nat) := [(0, .aload_n 0, 1, 1), (1, .getfield 14, 3, 4), (4, .iload 5, 2, 6), (6, .invokevirtual 125, 3, 9), (9, .istore 6, 2, 11), (11, .aload_n 0, 1, 12), (12, .getfield 14, 3, 15), (15, .iload 5, 2, 17), (17, .invokevirtual 128, 3, 20), (20, .istore 7, 2, 22), (22, .aload_n 0, 1, 23), (23, .getfield 14, 3, 26), (26, .iload 5, 2, 28), (28, .invokevirtual 142, 3, 31), (31, .istore 8, 2, 33), (33, .iconst 0, 1, 34), (34, .istore 9, 2, 36), (36, .iload 9, 2, 38), (38, .iload 4, 2, 40), (40, .if_icmp .ge 58, 3, 43), (43, .iload 9, 2, 45), (45, .bipush 30, 2, 47), (47, .if_icmp .gt 51, 3, 50), (50, .aload_n 0, 1, 51), (51, .getfield 53, 3, 54), (54, .iload_n 1, 1, 55), (55, .iload 6, 2, 57), (57, .i2l, 1, 58), (58, .iload 7, 2, 60), (60, .i2l, 1, 61), (61, .iload 8, 2, 63), (63, .i2l, 1, 64), (64, .iload 9, 2, 66), (66, .i2l, 1, 67), (67, .invokevirtual 365, 3, 70), (70, .aload_n 0, 1, 71), (71, .getfield 46, 3, 74), (74, .iload_n 2, 1, 75), (75, .iload_n 3, 1, 76), (76, .iload 9, 2, 78), (78, .iadd, 1, 79), (79, .invokevirtual 359, 3, 82), (82, .aload_n 0, 1, 83), (83, .invokevirtual 293, 3, 86), (86, .lcmp, 1, 87), (87, .ifCond .eq 5, 3, 90), (90, .iconst 0, 1, 91), (91, .ireturn, 1, 92), (92, .iinc 9 1, 3, 95), (95, .goto (-59), 3, 98), (98, .iconst 1, 1, 99), (99, .ireturn, 1, 100)]
def M_C_isSeenBy : zM := (⟨"CamPieces", "isSeenBy", "(IIIII)Z"⟩, prog_1_method_65_code, 10, some .boolean, I_C_isSeenBy)
def R_C_isSeenBy : Room := { frames := 4, cells := 0, slots := 0, locals := 87 }
theorem D_C_isSeenBy : zDec M_C_isSeenBy := (by decide +kernel : ∀ q ∈ I_C_isSeenBy, decode prog_1_method_65_code q.1 = .ok (q.2.1, q.2.2.1) ∧ q.1 + q.2.2.1 = q.2.2.2)
theorem C_C_isSeenBy : zCv M_C_isSeenBy 5 := ⟨⟨zTB_of 1 (by decide +kernel) rfl, zTB_of 702 (by decide +kernel) rfl, by decide, by decide, by decide +kernel⟩, zTB_of 701 (by decide +kernel) rfl, zTB_ofS 25 (by decide +kernel) rfl⟩
def I_C_mayBe : List (Nat × Instr × Nat × Nat) := [(0, .iload_n 0, 1, 1), (1, .ifCond .lt 21, 3, 4), (4, .iload_n 0, 1, 5), (5, .bipush 6, 2, 7), (7, .if_icmp .ge 15, 3, 10), (10, .iload_n 1, 1, 11), (11, .iconst 1, 1, 12), (12, .if_icmp .lt 10, 3, 15), (15, .iload_n 1, 1, 16), (16, .sipush 360, 3, 19), (19, .if_icmp .le 5, 3, 22), (22, .iconst 0, 1, 23), (23, .ireturn, 1, 24), (24, .iload_n 2, 1, 25), (25, .bipush (-99), 2, 27), (27, .if_icmp .lt 34, 3, 30), (30, .iload_n 2, 1, 31), (31, .bipush 99, 2, 33), (33, .if_icmp .gt 28, 3, 36), (36, .iload_n 0, 1, 37), (37, .ifCond .ne 7, 3, 40), (40, .iconst 1, 1, 41), (41, .goto 4, 3, 44), (44, .iconst 0, 1, 45), (45, .iload_n 2, 1, 46), (46, .ifCond .ne 7, 3, 49), (49, .iconst 1, 1, 50), (50, .goto 4, 3, 53), (53, .iconst 0, 1, 54), (54, .if_icmp .ne 7, 3, 57), (57, .iconst 1, 1, 58), (58, .goto 4, 3, 61), (61, .iconst 0, 1, 62), (62, .ireturn, 1, 63)]
def M_C_mayBe : zM := (⟨"CamPieces", "mayBe", "(III)Z"⟩, prog_1_method_66_code, 3, some .boolean, I_C_mayBe)
def R_C_mayBe : Room := { frames := 0, cells := 0, slots := 0, locals := 0 }
theorem D_C_mayBe : zDec M_C_mayBe := (by decide +kernel : ∀ q ∈ I_C_mayBe, decode prog_1_method_66_code q.1 = .ok (q.2.1, q.2.2.1) ∧ q.1 + q.2.2.1 = q.2.2.2)
theorem C_C_mayBe : zCs M_C_mayBe 3 := ⟨⟨zTB_of 1 (by decide +kernel) rfl, zTB_of 241 (by decide +kernel) rfl, by decide, by decide, by decide +kernel⟩, zTB_of 240 (by decide +kernel) rfl⟩
def I_C_isPart : List (Nat × Instr × Nat × Nat) := [(0, .iload_n 0, 1, 1), (1, .ifCond .eq 8, 3, 4), (4, .iload_n 0, 1, 5), (5, .iconst 1, 1, 6), (6, .if_icmp .ne 7, 3, 9), (9, .iconst 1, 1, 10), (10, .goto 4, 3, 13), (13, .iconst 0, 1, 14), (14, .ireturn, 1, 15)]
def M_C_isPart : zM := (⟨"CamPieces", "isPart", "(I)Z"⟩, prog_1_method_67_code, 1, some .boolean, I_C_isPart)
def R_C_isPart : Room := { frames := 0, cells := 0, slots := 0, locals := 0 }
theorem D_C_isPart : zDec M_C_isPart := (by decide +kernel : ∀ q ∈ I_C_isPart, decode prog_1_method_67_code q.1 = .ok (q.2.1, q.2.2.1) ∧ q.1 + q.2.2.1 = q.2.2.2)
theorem C_C_isPart : zCs M_C_isPart 1 := ⟨⟨zTB_of 1 (by decide +kernel) rfl, zTB_of 380 (by decide +kernel) rfl, by decide, by decide, by decide +kernel⟩, zTB_of 379 (by decide +kernel) rfl⟩
def I_C_pick : List (Nat × Instr × Nat × Nat) := [(0, .iload_n 1, 1, 1), (1, .ifCond .lt 15, 3, 4), (4, .iload_n 1, 1, 5), (5, .aload_n 0, 1, 6), (6, .arraylength, 1, 7), (7, .if_icmp .ge 9, 3, 10), (10, .aload_n 0, 1, 11), (11, .iload_n 1, 1, 12), (12, .iaload, 1, 13), (13, .goto 4, 3, 16), (16, .iconst 0, 1, 17), (17, .ireturn, 1, 18)]
def M_C_pick : zM := (⟨"CamPieces", "pick", "([II)I"⟩, prog_1_method_68_code, 2, some .int, I_C_pick)
def R_C_pick : Room := { frames := 0, cells := 0, slots := 0, locals := 0 }
theorem D_C_pick : zDec M_C_pick := (by decide +kernel : ∀ q ∈ I_C_pick, decode prog_1_method_68_code q.1 = .ok (q.2.1, q.2.2.1) ∧ q.1 + q.2.2.1 = q.2.2.2)
theorem C_C_pick : zCs M_C_pick 2 := ⟨⟨zTB_of 1 (by decide +kernel) rfl, zTB_of 185 (by decide +kernel) rfl, by decide, by decide, by decide +kernel⟩, zTB_of 184 (by decide +kernel) rfl⟩
def I_C_store : List (Nat × Instr × Nat × Nat) := [(0, .iload_n 1, 1, 1), (1, .ifCond .lt 13, 3, 4), (4, .iload_n 1, 1, 5), (5, .aload_n 0, 1, 6), (6, .arraylength, 1, 7), (7, .if_icmp .ge 7, 3, 10), (10, .aload_n 0, 1, 11), (11, .iload_n 1, 1, 12), (12, .iload_n 2, 1, 13), (13, .iastore, 1, 14), (14, .return_, 1, 15)]
def M_C_store : zM := (⟨"CamPieces", "store", "([III)V"⟩, prog_1_method_69_code, 3, none, I_C_store)
def R_C_store : Room := { frames := 0, cells := 0, slots := 0, locals := 0 }
theorem D_C_store : zDec M_C_store := (by decide +kernel : ∀ q ∈ I_C_store, decode prog_1_method_69_code q.1 = .ok (q.2.1, q.2.2.1) ∧ q.1 + q.2.2.1 = q.2.2.2)
theorem C_C_store : zCs M_C_store 3 := ⟨⟨zTB_of 1 (by decide +kernel) rfl, zTB_of 188 (by decide +kernel) rfl, by decide, by decide, by decide +kernel⟩, zTB_of 187 (by decide +kernel) rfl⟩
def I_C_copy : List (Nat × Instr × Nat × Nat) := [(0, .iconst 0, 1, 1), (1, .istore_n 2, 1, 2), (2, .iload_n 2, 1, 3), (3, .aload_n 0, 1, 4), (4, .arraylength, 1, 5), (5, .if_icmp .ge 19, 3, 8), (8, .aload_n 1, 1, 9), (9, .iload_n 2, 1, 10), (10, .aload_n 0, 1, 11), (11, .iload_n 2, 1, 12), (12, .invokestatic 148, 3, 15), (15, .invokestatic 155, 3, 18), (18, .iinc 2 1, 3, 21), (21, .goto (-19), 3, 24), (24, .return_, 1, 25)]
def M_C_copy : zM := (⟨"CamPieces", "copy", "([I[I)V"⟩, prog_1_method_70_code, 3, none, I_C_copy)
def R_C_copy : Room := { frames := 1, cells := 0, slots := 0, locals := 22 }
theorem D_C_copy : zDec M_C_copy := (by decide +kernel : ∀ q ∈ I_C_copy, decode prog_1_method_70_code q.1 = .ok (q.2.1, q.2.2.1) ∧ q.1 + q.2.2.1 = q.2.2.2)
theorem C_C_copy : zCs M_C_copy 2 := ⟨⟨zTB_of 1 (by decide +kernel) rfl, zTB_of 182 (by decide +kernel) rfl, by decide, by decide, by decide +kernel⟩, zTB_of 181 (by decide +kernel) rfl⟩
def I_C_commonDivisor : List (Nat × Instr × Nat × Nat) := [(0, .lload_n 0, 1, 1), (1, .invokestatic 250, 3, 4), (4, .lstore 4, 2, 6), (6, .lload_n 2, 1, 7), (7, .invokestatic 250, 3, 10), (10, .lstore 6, 2, 12), (12, .iconst 0, 1, 13), (13, .istore 8, 2, 15), (15, .iload 8, 2, 17), (17, .sipush 200, 3, 20), (20, .if_icmp .ge 31, 3, 23), (23, .lload 6, 2, 25), (25, .lconst 0, 1, 26), (26, .lcmp, 1, 27), (27, .ifCond .eq 24, 3, 30), (30, .lload 4, 2, 32), (32, .lload 6, 2, 34), (34, .lrem, 1, 35), (35, .lstore 9, 2, 37), (37, .lload 6, 2, 39), (39, .lstore 4, 2, 41), (41, .lload 9, 2, 43), (43, .lstore 6, 2, 45), (45, .iinc 8 1, 3, 48), (48, .goto (-33), 3, 51), (51, .lload 4, 2, 53), (53, .lreturn, 1, 54)]
def M_C_commonDivisor : zM := (⟨"CamPieces", "commonDivisor", "(JJ)J"⟩, prog_1_method_71_code, 11, some .long, I_C_commonDivisor)
def R_C_commonDivisor : Room := { frames := 1, cells := 0, slots := 0, locals := 24 }
theorem D_C_commonDivisor : zDec M_C_commonDivisor := (by decide +kernel : ∀ q ∈ I_C_commonDivisor, decode prog_1_method_71_code q.1 = .ok (q.2.1, q.2.2.1) ∧ q.1 + q.2.2.1 = q.2.2.2)
theorem C_C_commonDivisor : zCs M_C_commonDivisor 2 := ⟨⟨zTB_of 1 (by decide +kernel) rfl, zTB_of 423 (by decide +kernel) rfl, by decide, by decide, by decide +kernel⟩, zTB_of 422 (by decide +kernel) rfl⟩
def I_C_lowest : List (Nat × Instr × Nat × Nat) := [(0, .lload_n 0, 1, 1), (1, .lload_n 2, 1, 2), (2, .invokestatic 393, 3, 5), (5, .lstore 5, 2, 7), (7, .lload 5, 2, 9), (9, .lconst 0, 1, 10), (10, .lcmp, 1, 11), (11, .ifCond .ne 7, 3, 14), (14, .ldc2_w 182, 3, 17), (17, .lreturn, 1, 18), (18, .iload 4, 2, 20), (20, .ifCond .ne 10, 3, 23), (23, .lload_n 0, 1, 24), (24, .lload 5, 2, 26), (26, .ldiv, 1, 27), (27, .goto 7, 3, 30), (30, .lload_n 2, 1, 31), (31, .lload 5, 2, 33), (33, .ldiv, 1, 34), (34, .lreturn, 1, 35)]
def M_C_lowest : zM := (⟨"CamPieces", "lowest", "(JJI)J"⟩, prog_1_method_72_code, 7, some .long, I_C_lowest)
def R_C_lowest : Room := { frames := 2, cells := 0, slots := 0, locals := 54 }
theorem D_C_lowest : zDec M_C_lowest := (by decide +kernel : ∀ q ∈ I_C_lowest, decode prog_1_method_72_code q.1 = .ok (q.2.1, q.2.2.1) ∧ q.1 + q.2.2.1 = q.2.2.2)
theorem C_C_lowest : zCs M_C_lowest 3 := ⟨⟨zTB_of 1 (by decide +kernel) rfl, zTB_of 420 (by decide +kernel) rfl, by decide, by decide, by decide +kernel⟩, zTB_of 419 (by decide +kernel) rfl⟩
def I_C_isMore : List (Nat × Instr × Nat × Nat) := [(0, .iconst 0, 1, 1), (1, .istore 8, 2, 3), (3, .iload 8, 2, 5), (5, .bipush 100, 2, 7), (7, .if_icmp .ge 109, 3, 10), (10, .lload_n 2, 1, 11), (11, .lconst 0, 1, 12), (12, .lcmp, 1, 13), (13, .ifCond .le 103, 3, 16), (16, .lload 6, 2, 18), (18, .lconst 0, 1, 19), (19, .lcmp, 1, 20), (20, .ifCond .le 96, 3, 23), (23, .lload_n 0, 1, 24), (24, .lload_n 2, 1, 25), (25, .ldiv, 1, 26), (26, .lstore 9, 2, 28), (28, .lload 4, 2, 30), (30, .lload 6, 2, 32), (32, .ldiv, 1, 33), (33, .lstore 11, 2, 35), (35, .lload 9, 2, 37), (37, .lload 11, 2, 39), (39, .lcmp, 1, 40), (40, .ifCond .eq 17, 3, 43), (43, .lload 9, 2, 45), (45, .lload 11, 2, 47), (47, .lcmp, 1, 48), (48, .ifCond .le 7, 3, 51), (51, .iconst 1, 1, 52), (52, .goto 4, 3, 55), (55, .iconst 0, 1, 56), (56, .ireturn, 1, 57), (57, .lload_n 0, 1, 58), (58, .lload_n 2, 1, 59), (59, .lrem, 1, 60), (60, .lstore 13, 2, 62), (62, .lload 4, 2, 64), (64, .lload 6, 2, 66), (66, .lrem, 1, 67), (67, .lstore 15, 2, 69), (69, .lload 13, 2, 71), (71, .lconst 0, 1, 72), (72, .lcmp, 1, 73), (73, .ifCond .eq 10, 3, 76), (76, .lload 15, 2, 78), (78, .lconst 0, 1, 79), (79, .lcmp, 1, 80), (80, .ifCond .ne 17, 3, 83), (83, .lload 13, 2, 85), (85, .lload 15, 2, 87), (87, .lcmp, 1, 88), (88, .ifCond .le 7, 3, 91), (91, .iconst 1, 1, 92), (92, .goto 4, 3, 95), (95, .iconst 0, 1, 96), (96, .ireturn, 1, 97), (97, .lload 6, 2, 99), (99, .lstore_n 0, 1, 100), (100, .lload_n 2, 1, 101), (101, .lstore 4, 2, 103), (103, .lload 15, 2, 105), (105, .lstore_n 2, 1, 106), (106, .lload 13, 2, 108), (108, .lstore 6, 2, 110), (110, .iinc 8 1, 3, 113), (113, .goto (-110), 3, 116), (116, .iconst 0, 1, 117), (117, .ireturn, 1, 118)]
def M_C_isMore : zM := (⟨"CamPieces", "isMore", "(JJJJ)Z"⟩, prog_1_method_73_code, 17, some .boolean, I_C_isMore)
def R_C_isMore : Room := { frames := 0, cells := 0, slots := 0, locals := 0 }
theorem D_C_isMore : zDec M_C_isMore := (by decide +kernel : ∀ q ∈ I_C_isMore, decode prog_1_method_73_code q.1 = .ok (q.2.1, q.2.2.1) ∧ q.1 + q.2.2.1 = q.2.2.2)
theorem C_C_isMore : zCs M_C_isMore 4 := ⟨⟨zTB_of 1 (by decide +kernel) rfl, zTB_of 574 (by decide +kernel) rfl, by decide, by decide, by decide +kernel⟩, zTB_of 573 (by decide +kernel) rfl⟩
theorem l_C_5 : Cond.methodLink "CamPieces" 5 ⟨"java/lang/Object", "<init>", "()V"⟩ ∈ zTB := zTB_of 22 (by decide +kernel) rfl
theorem n_C_11 : Cond.classLink "CamPieces" 11 "CamPieces$Train" ∈ zTB := zTB_of 25 (by decide +kernel) rfl
theorem l_C_13 : Cond.methodLinkNest "CamPieces" 13 ⟨"CamPieces$Train", "<init>", "()V"⟩ "CamPieces" ∈ zNW := zNW_of 27 (by decide +kernel) rfl
theorem f_C_14 : zF "CamPieces" 14 7 0 (tyX7 0) true := ⟨_, _, _, _, zck_7, by decide, rfl, rfl, zTB_of 189 (by decide +kernel) rfl⟩
theorem fl_C_14 : Cond.fieldLink "CamPieces" 14 (TX7 0).1 (TX7 0).2.1 (TX7 0).2.2.1 ∈ zTB := zTB_of 189 (by decide +kernel) rfl
theorem f_C_18 : zF "CamPieces" 18 7 1 (tyX7 1) true := ⟨_, _, _, _, zck_7, by decide, rfl, rfl, zTB_of 190 (by decide +kernel) rfl⟩
theorem fl_C_18 : Cond.fieldLink "CamPieces" 18 (TX7 1).1 (TX7 1).2.1 (TX7 1).2.2.1 ∈ zTB := zTB_of 190 (by decide +kernel) rfl
theorem f_C_22 : zF "CamPieces" 22 7 2 (tyX7 2) true := ⟨_, _, _, _, zck_7, by decide, rfl, rfl, zTB_of 191 (by decide +kernel) rfl⟩
theorem fl_C_22 : Cond.fieldLink "CamPieces" 22 (TX7 2).1 (TX7 2).2.1 (TX7 2).2.2.1 ∈ zTB := zTB_of 191 (by decide +kernel) rfl
theorem f_C_25 : zF "CamPieces" 25 7 3 (tyX7 3) true := ⟨_, _, _, _, zck_7, by decide, rfl, rfl, zTB_of 192 (by decide +kernel) rfl⟩
theorem fl_C_25 : Cond.fieldLink "CamPieces" 25 (TX7 3).1 (TX7 3).2.1 (TX7 3).2.2.1 ∈ zTB := zTB_of 192 (by decide +kernel) rfl
theorem f_C_28 : zF "CamPieces" 28 7 4 (tyX7 4) false := ⟨_, _, _, _, zck_7, by decide, rfl, rfl, zTB_of 193 (by decide +kernel) rfl⟩
theorem n_C_32 : Cond.classLink "CamPieces" 32 "CamPieces$Reader" ∈ zTB := zTB_of 45 (by decide +kernel) rfl
theorem l_C_34 : Cond.methodLinkNest "CamPieces" 34 ⟨"CamPieces$Reader", "<init>", "()V"⟩ "CamPieces" ∈ zNW := zNW_of 47 (by decide +kernel) rfl
theorem f_C_35 : zF "CamPieces" 35 7 5 (tyX7 5) true := ⟨_, _, _, _, zck_7, by decide, rfl, rfl, zTB_of 194 (by decide +kernel) rfl⟩
theorem fl_C_35 : Cond.fieldLink "CamPieces" 35 (TX7 5).1 (TX7 5).2.1 (TX7 5).2.2.1 ∈ zTB := zTB_of 194 (by decide +kernel) rfl
theorem f_C_39 : zF "CamPieces" 39 7 6 (tyX7 6) false := ⟨_, _, _, _, zck_7, by decide, rfl, rfl, zTB_of 195 (by decide +kernel) rfl⟩
theorem n_C_43 : Cond.classLink "CamPieces" 43 "CamPieces$Rows" ∈ zTB := zTB_of 82 (by decide +kernel) rfl
theorem l_C_45 : Cond.methodLinkNest "CamPieces" 45 ⟨"CamPieces$Rows", "<init>", "()V"⟩ "CamPieces" ∈ zNW := zNW_of 84 (by decide +kernel) rfl
theorem f_C_46 : zF "CamPieces" 46 7 7 (tyX7 7) true := ⟨_, _, _, _, zck_7, by decide, rfl, rfl, zTB_of 196 (by decide +kernel) rfl⟩
theorem fl_C_46 : Cond.fieldLink "CamPieces" 46 (TX7 7).1 (TX7 7).2.1 (TX7 7).2.2.1 ∈ zTB := zTB_of 196 (by decide +kernel) rfl
theorem n_C_50 : Cond.classLink "CamPieces" 50 "CamPieces$Spot" ∈ zTB := zTB_of 96 (by decide +kernel) rfl
theorem l_C_52 : Cond.methodLinkNest "CamPieces" 52 ⟨"CamPieces$Spot", "<init>", "()V"⟩ "CamPieces" ∈ zNW := zNW_of 98 (by decide +kernel) rfl
theorem f_C_53 : zF "CamPieces" 53 7 8 (tyX7 8) true := ⟨_, _, _, _, zck_7, by decide, rfl, rfl, zTB_of 197 (by decide +kernel) rfl⟩
theorem fl_C_53 : Cond.fieldLink "CamPieces" 53 (TX7 8).1 (TX7 8).2.1 (TX7 8).2.2.1 ∈ zTB := zTB_of 197 (by decide +kernel) rfl
theorem n_C_57 : Cond.classLink "CamPieces" 57 "CamPieces$Walk" ∈ zTB := zTB_of 121 (by decide +kernel) rfl
theorem l_C_59 : Cond.methodLinkNest "CamPieces" 59 ⟨"CamPieces$Walk", "<init>", "()V"⟩ "CamPieces" ∈ zNW := zNW_of 123 (by decide +kernel) rfl
theorem f_C_60 : zF "CamPieces" 60 7 9 (tyX7 9) true := ⟨_, _, _, _, zck_7, by decide, rfl, rfl, zTB_of 198 (by decide +kernel) rfl⟩
theorem fl_C_60 : Cond.fieldLink "CamPieces" 60 (TX7 9).1 (TX7 9).2.1 (TX7 9).2.2.1 ∈ zTB := zTB_of 198 (by decide +kernel) rfl
theorem n_C_64 : Cond.classLink "CamPieces" 64 "CamPieces$Range" ∈ zTB := zTB_of 147 (by decide +kernel) rfl
theorem l_C_66 : Cond.methodLinkNest "CamPieces" 66 ⟨"CamPieces$Range", "<init>", "()V"⟩ "CamPieces" ∈ zNW := zNW_of 149 (by decide +kernel) rfl
theorem f_C_67 : zF "CamPieces" 67 7 10 (tyX7 10) true := ⟨_, _, _, _, zck_7, by decide, rfl, rfl, zTB_of 199 (by decide +kernel) rfl⟩
theorem fl_C_67 : Cond.fieldLink "CamPieces" 67 (TX7 10).1 (TX7 10).2.1 (TX7 10).2.2.1 ∈ zTB := zTB_of 199 (by decide +kernel) rfl
theorem n_C_71 : Cond.classLink "CamPieces" 71 "CamPieces$Ratio" ∈ zTB := zTB_of 163 (by decide +kernel) rfl
theorem l_C_73 : Cond.methodLinkNest "CamPieces" 73 ⟨"CamPieces$Ratio", "<init>", "()V"⟩ "CamPieces" ∈ zNW := zNW_of 165 (by decide +kernel) rfl
theorem f_C_74 : zF "CamPieces" 74 7 11 (tyX7 11) true := ⟨_, _, _, _, zck_7, by decide, rfl, rfl, zTB_of 200 (by decide +kernel) rfl⟩
theorem fl_C_74 : Cond.fieldLink "CamPieces" 74 (TX7 11).1 (TX7 11).2.1 (TX7 11).2.2.1 ∈ zTB := zTB_of 200 (by decide +kernel) rfl
theorem f_C_78 : zF "CamPieces" 78 7 12 (tyX7 12) true := ⟨_, _, _, _, zck_7, by decide, rfl, rfl, zTB_of 201 (by decide +kernel) rfl⟩
theorem fl_C_78 : Cond.fieldLink "CamPieces" 78 (TX7 12).1 (TX7 12).2.1 (TX7 12).2.2.1 ∈ zTB := zTB_of 201 (by decide +kernel) rfl
theorem f_C_81 : zF "CamPieces" 81 7 13 (tyX7 13) true := ⟨_, _, _, _, zck_7, by decide, rfl, rfl, zTB_of 202 (by decide +kernel) rfl⟩
theorem fl_C_81 : Cond.fieldLink "CamPieces" 81 (TX7 13).1 (TX7 13).2.1 (TX7 13).2.2.1 ∈ zTB := zTB_of 202 (by decide +kernel) rfl
theorem f_C_85 : zF "CamPieces" 85 7 14 (tyX7 14) true := ⟨_, _, _, _, zck_7, by decide, rfl, rfl, zTB_of 203 (by decide +kernel) rfl⟩
theorem fl_C_85 : Cond.fieldLink "CamPieces" 85 (TX7 14).1 (TX7 14).2.1 (TX7 14).2.2.1 ∈ zTB := zTB_of 203 (by decide +kernel) rfl
theorem f_C_88 : Cond.fieldLink "CamPieces" 88 "CamPieces" "FIRST_SETTINGS" "[I" ∈ zTB := zTB_of 178 (by decide +kernel) rfl
theorem l_C_91 : Cond.methodLink "CamPieces" 91 ⟨"CamPieces", "copy", "([I[I)V"⟩ ∈ zTB := zTB_of 180 (by decide +kernel) rfl
theorem l_C_95 : Cond.methodLink "CamPieces" 95 ⟨"CamPieces", "mayBe", "(III)Z"⟩ ∈ zTB := zTB_of 239 (by decide +kernel) rfl
theorem l_C_99 : Cond.methodLink "CamPieces" 99 ⟨"CamPieces$Train", "isFull", "()Z"⟩ ∈ zTB := zTB_of 242 (by decide +kernel) rfl
theorem l_C_103 : Cond.methodLink "CamPieces" 103 ⟨"CamPieces$Train", "total", "()I"⟩ ∈ zTB := zTB_of 246 (by decide +kernel) rfl
theorem l_C_107 : Cond.methodLink "CamPieces" 107 ⟨"CamPieces$Train", "append", "(III)V"⟩ ∈ zTB := zTB_of 258 (by decide +kernel) rfl
theorem l_C_111 : Cond.methodLink "CamPieces" 111 ⟨"CamPieces$Train", "size", "()I"⟩ ∈ zTB := zTB_of 268 (by decide +kernel) rfl
theorem l_C_114 : Cond.methodLink "CamPieces" 114 ⟨"CamPieces$Train", "shorten", "()V"⟩ ∈ zTB := zTB_of 276 (by decide +kernel) rfl
theorem l_C_117 : Cond.methodLink "CamPieces" 117 ⟨"CamPieces$Train", "has", "(I)Z"⟩ ∈ zTB := zTB_of 284 (by decide +kernel) rfl
theorem l_C_121 : Cond.methodLink "CamPieces" 121 ⟨"CamPieces$Train", "kindOf", "(I)I"⟩ ∈ zTB := zTB_of 288 (by decide +kernel) rfl
theorem l_C_125 : Cond.methodLink "CamPieces" 125 ⟨"CamPieces$Train", "longOf", "(I)I"⟩ ∈ zTB := zTB_of 292 (by decide +kernel) rfl
theorem l_C_128 : Cond.methodLink "CamPieces" 128 ⟨"CamPieces$Train", "riseOf", "(I)I"⟩ ∈ zTB := zTB_of 293 (by decide +kernel) rfl
theorem l_C_131 : Cond.methodLink "CamPieces" 131 ⟨"CamPieces$Train", "partOf", "(II)I"⟩ ∈ zTB := zTB_of 297 (by decide +kernel) rfl
theorem l_C_135 : Cond.methodLink "CamPieces" 135 ⟨"CamPieces$Train", "write", "(IIII)V"⟩ ∈ zTB := zTB_of 303 (by decide +kernel) rfl
theorem l_C_139 : Cond.methodLink "CamPieces" 139 ⟨"CamPieces$Train", "beginOf", "(I)I"⟩ ∈ zTB := zTB_of 308 (by decide +kernel) rfl
theorem l_C_142 : Cond.methodLink "CamPieces" 142 ⟨"CamPieces$Train", "liftOf", "(I)I"⟩ ∈ zTB := zTB_of 309 (by decide +kernel) rfl
theorem f_C_145 : Cond.fieldLink "CamPieces" 145 "CamPieces" "LEAST_SETTINGS" "[I" ∈ zTB := zTB_of 317 (by decide +kernel) rfl
theorem l_C_148 : Cond.methodLink "CamPieces" 148 ⟨"CamPieces", "pick", "([II)I"⟩ ∈ zTB := zTB_of 183 (by decide +kernel) rfl
theorem f_C_152 : Cond.fieldLink "CamPieces" 152 "CamPieces" "MOST_SETTINGS" "[I" ∈ zTB := zTB_of 319 (by decide +kernel) rfl
theorem l_C_155 : Cond.methodLink "CamPieces" 155 ⟨"CamPieces", "store", "([III)V"⟩ ∈ zTB := zTB_of 186 (by decide +kernel) rfl
theorem l_C_159 : Cond.methodLink "CamPieces" 159 ⟨"CamPieces$Train", "isClosed", "()Z"⟩ ∈ zTB := zTB_of 325 (by decide +kernel) rfl
theorem l_C_162 : Cond.methodLink "CamPieces" 162 ⟨"CamPieces$Reader", "size", "()I"⟩ ∈ zTB := zTB_of 331 (by decide +kernel) rfl
theorem l_C_163 : Cond.methodLink "CamPieces" 163 ⟨"CamPieces$Train", "turn", "()V"⟩ ∈ zTB := zTB_of 339 (by decide +kernel) rfl
theorem l_C_166 : Cond.methodLink "CamPieces" 166 ⟨"CamPieces$Train", "areAlike", "(II)Z"⟩ ∈ zTB := zTB_of 350 (by decide +kernel) rfl
theorem l_C_170 : Cond.methodLink "CamPieces" 170 ⟨"CamPieces$Train", "isFirstOfItsLike", "(I)Z"⟩ ∈ zTB := zTB_of 358 (by decide +kernel) rfl
theorem l_C_173 : Cond.methodLink "CamPieces" 173 ⟨"CamPieces$Train", "isSteeper", "(II)Z"⟩ ∈ zTB := zTB_of 367 (by decide +kernel) rfl
theorem l_C_176 : Cond.methodLink "CamPieces" 176 ⟨"CamPieces", "isPart", "(I)Z"⟩ ∈ zTB := zTB_of 378 (by decide +kernel) rfl
theorem l_C_179 : Cond.methodLink "CamPieces" 179 ⟨"CamPieces", "standAt", "(II)Z"⟩ ∈ zTB := zTB_of 381 (by decide +kernel) rfl
theorem k_C_182 : Cond.constantLong "CamPieces" 182 (-9223372036854775808) ∈ zTB := zTB_of 413 (by decide +kernel) rfl
theorem l_C_184 : Cond.methodLink "CamPieces" 184 ⟨"CamPieces$Spot", "lift", "()J"⟩ ∈ zTB := zTB_of 414 (by decide +kernel) rfl
theorem f_C_188 : zFN "CamPieces" 188 4 2 (tyX4 2) false := ⟨_, _, _, _, "CamPieces", zck_4, by decide, rfl, rfl, zNW_of 106 (by decide +kernel) rfl⟩
theorem f_C_192 : zFN "CamPieces" 192 4 3 (tyX4 3) false := ⟨_, _, _, _, "CamPieces", zck_4, by decide, rfl, rfl, zNW_of 108 (by decide +kernel) rfl⟩
theorem f_C_195 : zFN "CamPieces" 195 4 0 (tyX4 0) false := ⟨_, _, _, _, "CamPieces", zck_4, by decide, rfl, rfl, zNW_of 103 (by decide +kernel) rfl⟩
theorem l_C_198 : Cond.methodLink "CamPieces" 198 ⟨"CamPieces", "lowest", "(JJI)J"⟩ ∈ zTB := zTB_of 418 (by decide +kernel) rfl
theorem l_C_202 : Cond.methodLink "CamPieces" 202 ⟨"CamPieces", "hasJoin", "(I)Z"⟩ ∈ zTB := zTB_of 431 (by decide +kernel) rfl
theorem l_C_205 : Cond.methodLink "CamPieces" 205 ⟨"CamPieces", "reckonJump", "(II)V"⟩ ∈ zTB := zTB_of 435 (by decide +kernel) rfl
theorem f_C_209 : zFN "CamPieces" 209 1 0 (tyX1 0) false := ⟨_, _, _, _, "CamPieces", zck_1, by decide, rfl, rfl, zNW_of 170 (by decide +kernel) rfl⟩
theorem f_C_212 : zFN "CamPieces" 212 1 1 (tyX1 1) false := ⟨_, _, _, _, "CamPieces", zck_1, by decide, rfl, rfl, zNW_of 172 (by decide +kernel) rfl⟩
theorem l_C_213 : Cond.methodLink "CamPieces" 213 ⟨"CamPieces", "kindOfJoin", "(I)I"⟩ ∈ zTB := zTB_of 460 (by decide +kernel) rfl
theorem l_C_216 : Cond.methodLink "CamPieces" 216 ⟨"CamPieces", "curveHere", "()J"⟩ ∈ zTB := zTB_of 476 (by decide +kernel) rfl
theorem l_C_219 : Cond.methodLink "CamPieces" 219 ⟨"CamPieces", "reachHere", "()J"⟩ ∈ zTB := zTB_of 480 (by decide +kernel) rfl
theorem k_C_222 : Cond.constantLong "CamPieces" 222 (57) ∈ zTB := zTB_of 493 (by decide +kernel) rfl
theorem l_C_224 : Cond.methodLink "CamPieces" 224 ⟨"CamPieces", "forceHere", "()J"⟩ ∈ zTB := zTB_of 498 (by decide +kernel) rfl
theorem l_C_227 : Cond.methodLink "CamPieces" 227 ⟨"CamPieces$Walk", "start", "(LCamPieces$Train;)V"⟩ ∈ zTB := zTB_of 518 (by decide +kernel) rfl
theorem l_C_231 : Cond.methodLink "CamPieces" 231 ⟨"CamPieces$Walk", "goOn", "(LCamPieces$Train;LCamPieces$Spot;)Z"⟩ ∈ zTB := zTB_of 523 (by decide +kernel) rfl
theorem f_C_235 : zFN "CamPieces" 235 6 0 (tyX6 0) false := ⟨_, _, _, _, "CamPieces", zck_6, by decide, rfl, rfl, zNW_of 128 (by decide +kernel) rfl⟩
theorem l_C_238 : Cond.methodLink "CamPieces" 238 ⟨"CamPieces$Range", "open", "(JJ)V"⟩ ∈ zTB := zTB_of 543 (by decide +kernel) rfl
theorem k_C_242 : Cond.constantLong "CamPieces" 242 (3249) ∈ zTB := zTB_of 488 (by decide +kernel) rfl
theorem l_C_244 : Cond.methodLink "CamPieces" 244 ⟨"CamPieces$Range", "keepAboveZero", "(JJ)V"⟩ ∈ zTB := zTB_of 547 (by decide +kernel) rfl
theorem l_C_247 : Cond.methodLink "CamPieces" 247 ⟨"CamPieces$Range", "leastOne", "()I"⟩ ∈ zTB := zTB_of 560 (by decide +kernel) rfl
theorem l_C_250 : Cond.methodLink "CamPieces" 250 ⟨"java/lang/Math", "abs", "(J)J"⟩ ∈ zTB := zTB_of 424 (by decide +kernel) rfl
theorem l_C_256 : Cond.methodLink "CamPieces" 256 ⟨"CamPieces", "isMore", "(JJJJ)Z"⟩ ∈ zTB := zTB_of 572 (by decide +kernel) rfl
theorem l_C_260 : Cond.methodLink "CamPieces" 260 ⟨"CamPieces$Ratio", "become", "(JJ)V"⟩ ∈ zTB := zTB_of 443 (by decide +kernel) rfl
theorem k_C_263 : Cond.constantLong "CamPieces" 263 (5700) ∈ zTB := zTB_of 579 (by decide +kernel) rfl
theorem l_C_265 : Cond.methodLink "CamPieces" 265 ⟨"CamPieces", "springHere", "()J"⟩ ∈ zTB := zTB_of 506 (by decide +kernel) rfl
theorem l_C_268 : Cond.methodLink "CamPieces" 268 ⟨"CamPieces", "inertiaHere", "()J"⟩ ∈ zTB := zTB_of 510 (by decide +kernel) rfl
theorem l_C_271 : Cond.methodLink "CamPieces" 271 ⟨"CamPieces", "preloadHere", "()J"⟩ ∈ zTB := zTB_of 502 (by decide +kernel) rfl
theorem l_C_274 : Cond.methodLink "CamPieces" 274 ⟨"CamPieces", "setting", "(I)J"⟩ ∈ zTB := zTB_of 484 (by decide +kernel) rfl
theorem l_C_278 : Cond.methodLink "CamPieces" 278 ⟨"CamPieces$Range", "holds", "(J)Z"⟩ ∈ zTB := zTB_of 596 (by decide +kernel) rfl
theorem l_C_282 : Cond.methodLink "CamPieces" 282 ⟨"CamPieces", "cornersAt", "(I)I"⟩ ∈ zTB := zTB_of 601 (by decide +kernel) rfl
theorem l_C_285 : Cond.methodLink "CamPieces" 285 ⟨"java/lang/Integer", "bitCount", "(I)I"⟩ ∈ zTB := zTB_of 605 (by decide +kernel) rfl
theorem l_C_290 : Cond.methodLink "CamPieces" 290 ⟨"CamPieces", "hasCorner", "(I)Z"⟩ ∈ zTB := zTB_of 611 (by decide +kernel) rfl
theorem l_C_293 : Cond.methodLink "CamPieces" 293 ⟨"CamPieces", "sampleHere", "()J"⟩ ∈ zTB := zTB_of 619 (by decide +kernel) rfl
theorem l_C_296 : Cond.methodLink "CamPieces" 296 ⟨"CamPieces", "takeSamples", "()V"⟩ ∈ zTB := zTB_of 632 (by decide +kernel) rfl
theorem l_C_299 : Cond.methodLink "CamPieces" 299 ⟨"CamPieces", "gapAt", "(III)J"⟩ ∈ zTB := zTB_of 636 (by decide +kernel) rfl
theorem l_C_303 : Cond.methodLink "CamPieces" 303 ⟨"CamPieces", "spanAt", "(III)I"⟩ ∈ zTB := zTB_of 640 (by decide +kernel) rfl
theorem l_C_307 : Cond.methodLink "CamPieces" 307 ⟨"CamPieces", "isErrorWithin", "(II)Z"⟩ ∈ zTB := zTB_of 657 (by decide +kernel) rfl
theorem l_C_310 : Cond.methodLink "CamPieces" 310 ⟨"CamPieces$Rows", "mayHave", "(I)Z"⟩ ∈ zTB := zTB_of 666 (by decide +kernel) rfl
theorem l_C_313 : Cond.methodLink "CamPieces" 313 ⟨"CamPieces$Rows", "has", "(I)Z"⟩ ∈ zTB := zTB_of 670 (by decide +kernel) rfl
theorem l_C_314 : Cond.methodLink "CamPieces" 314 ⟨"CamPieces", "areAngles", "(III)Z"⟩ ∈ zTB := zTB_of 676 (by decide +kernel) rfl
theorem l_C_317 : Cond.methodLink "CamPieces" 317 ⟨"CamPieces$Rows", "hasPlace", "(II)Z"⟩ ∈ zTB := zTB_of 680 (by decide +kernel) rfl
theorem l_C_320 : Cond.methodLink "CamPieces" 320 ⟨"CamPieces", "sample", "(I)J"⟩ ∈ zTB := zTB_of 685 (by decide +kernel) rfl
theorem l_C_323 : Cond.methodLink "CamPieces" 323 ⟨"CamPieces$Rows", "write", "(IIJ)V"⟩ ∈ zTB := zTB_of 686 (by decide +kernel) rfl
theorem l_C_326 : Cond.methodLink "CamPieces" 326 ⟨"CamPieces$Rows", "hasPlaces", "(III)Z"⟩ ∈ zTB := zTB_of 691 (by decide +kernel) rfl
theorem l_C_329 : Cond.methodLink "CamPieces" 329 ⟨"CamPieces", "isSeenBy", "(IIIII)Z"⟩ ∈ zTB := zTB_of 699 (by decide +kernel) rfl
theorem l_C_333 : Cond.methodLink "CamPieces" 333 ⟨"CamPieces$Reader", "append", "(I)V"⟩ ∈ zTB := zTB_of 712 (by decide +kernel) rfl
theorem l_C_336 : Cond.methodLink "CamPieces" 336 ⟨"CamPieces$Reader", "empty", "()V"⟩ ∈ zTB := zTB_of 721 (by decide +kernel) rfl
theorem l_C_339 : Cond.methodLink "CamPieces" 339 ⟨"CamPieces$Reader", "readTape", "()Z"⟩ ∈ zTB := zTB_of 729 (by decide +kernel) rfl
theorem f_C_342 : zFN "CamPieces" 342 2 6 (tyX2 6) false := ⟨_, _, _, _, "CamPieces", zck_2, by decide, rfl, rfl, zNW_of 62 (by decide +kernel) rfl⟩
theorem f_C_345 : zFN "CamPieces" 345 2 7 (tyX2 7) false := ⟨_, _, _, _, "CamPieces", zck_2, by decide, rfl, rfl, zNW_of 64 (by decide +kernel) rfl⟩
theorem f_C_348 : zFN "CamPieces" 348 2 5 (tyX2 5) false := ⟨_, _, _, _, "CamPieces", zck_2, by decide, rfl, rfl, zNW_of 60 (by decide +kernel) rfl⟩
theorem f_C_351 : zFN "CamPieces" 351 2 2 (tyX2 2) true := ⟨_, _, _, _, "CamPieces", zck_2, by decide, rfl, rfl, zNW_of 56 (by decide +kernel) rfl⟩
theorem l_C_354 : Cond.methodLink "CamPieces" 354 ⟨"CamPieces$Train", "become", "(LCamPieces$Train;)V"⟩ ∈ zTB := zTB_of 834 (by decide +kernel) rfl
theorem l_C_356 : Cond.methodLink "CamPieces" 356 ⟨"CamPieces$Rows", "make", "(II)V"⟩ ∈ zTB := zTB_of 848 (by decide +kernel) rfl
theorem l_C_359 : Cond.methodLink "CamPieces" 359 ⟨"CamPieces$Rows", "read", "(II)J"⟩ ∈ zTB := zTB_of 703 (by decide +kernel) rfl
theorem l_C_362 : Cond.methodLink "CamPieces" 362 ⟨"CamPieces", "standIn", "(II)Z"⟩ ∈ zTB := zTB_of 385 (by decide +kernel) rfl
theorem l_C_365 : Cond.methodLink "CamPieces" 365 ⟨"CamPieces$Spot", "stand", "(IJJJJ)V"⟩ ∈ zTB := zTB_of 389 (by decide +kernel) rfl
theorem l_C_369 : Cond.methodLink "CamPieces" 369 ⟨"CamPieces", "pieceAhead", "(I)I"⟩ ∈ zTB := zTB_of 439 (by decide +kernel) rfl
theorem l_C_372 : Cond.methodLink "CamPieces" 372 ⟨"CamPieces$Ratio", "lower", "()V"⟩ ∈ zTB := zTB_of 447 (by decide +kernel) rfl
theorem l_C_375 : Cond.methodLink "CamPieces" 375 ⟨"CamPieces$Ratio", "take", "(LCamPieces$Ratio;)V"⟩ ∈ zTB := zTB_of 452 (by decide +kernel) rfl
theorem l_C_379 : Cond.methodLink "CamPieces" 379 ⟨"CamPieces$Spot", "sampled", "(J)J"⟩ ∈ zTB := zTB_of 623 (by decide +kernel) rfl
theorem l_C_382 : Cond.methodLink "CamPieces" 382 ⟨"java/lang/Math", "min", "(II)I"⟩ ∈ zTB := zTB_of 643 (by decide +kernel) rfl
theorem l_C_385 : Cond.methodLink "CamPieces" 385 ⟨"java/lang/Math", "max", "(II)I"⟩ ∈ zTB := zTB_of 646 (by decide +kernel) rfl
theorem l_C_388 : Cond.methodLink "CamPieces" 388 ⟨"CamPieces", "sampleAt", "(I)J"⟩ ∈ zTB := zTB_of 649 (by decide +kernel) rfl
theorem k_C_391 : Cond.constantLong "CamPieces" 391 (100) ∈ zTB := zTB_of 661 (by decide +kernel) rfl
theorem l_C_393 : Cond.methodLink "CamPieces" 393 ⟨"CamPieces", "commonDivisor", "(JJ)J"⟩ ∈ zTB := zTB_of 421 (by decide +kernel) rfl
end
section
/-! the code of the methods, the entries of the classes' files (by program) -/
def I_M_init : List (Nat × Instr × Nat × Nat) := [(0, .aload_n 0, 1, 1), (1, .invokespecial 3, 3, 4), (4, .aload_n 0, 1, 5), (5, .bipush 13, 2, 7), (7, .newarray .int, 2, 9), (9, .putfield 11, 3, 12), (12, .aload_n 0, 1, 13), (13, .bipush 13, 2, 15), (15, .newarray .int, 2, 17), (17, .putfield 15, 3, 20), (20, .aload_n 0, 1, 21), (21, .bipush 13, 2, 23), (23, .newarray .int, 2, 25), (25, .putfield 18, 3, 28), (28, .aload_n 0, 1, 29), (29, .bipush 6, 2, 31), (31, .newarray .int, 2, 33), (33, .dup, 1, 34), (34, .iconst 0, 1, 35), (35, .bipush 100, 2, 37), (37, .iastore, 1, 38), (38, .dup, 1, 39), (39, .iconst 1, 1, 40), (40, .iconst 1, 1, 41), (41, .iastore, 1, 42), (42, .dup, 1, 43), (43, .iconst 2, 1, 44), (44, .iconst 1, 1, 45), (45, .iastore, 1, 46), (46, .dup, 1, 47), (47, .iconst 3, 1, 48), (48, .bipush 10, 2, 50), (50, .iastore, 1, 51), (51, .dup, 1, 52), (52, .iconst 4, 1, 53), (53, .iconst 1, 1, 54), (54, .iastore, 1, 55), (55, .dup, 1, 56), (56, .iconst 5, 1, 57), (57, .bipush 100, 2, 59), (59, .iastore, 1, 60), (60, .putfield 21, 3, 63), (63, .aload_n 0, 1, 64), (64, .bipush 6, 2, 66), (66, .newarray .int, 2, 68), (68, .dup, 1, 69), (69, .iconst 0, 1, 70), (70, .iconst 1, 1, 71), (71, .iastore, 1, 72), (72, .dup, 1, 73), (73, .iconst 1, 1, 74), (74, .iconst 1, 1, 75), (75, .iastore, 1, 76), (76, .dup, 1, 77), (77, .iconst 2, 1, 78), (78, .iconst 0, 1, 79), (79, .iastore, 1, 80), (80, .dup, 1, 81), (81, .iconst 3, 1, 82), (82, .iconst 0, 1, 83), (83, .iastore, 1, 84), (84, .dup, 1, 85), (85, .iconst 4, 1, 86), (86, .iconst 0, 1, 87), (87, .iastore, 1, 88), (88, .dup, 1, 89), (89, .iconst 5, 1, 90), (90, .iconst 1, 1, 91), (91, .iastore, 1, 92), (92, .putfield 24, 3, 95), (95, .aload_n 0, 1, 96), (96, .bipush 6, 2, 98), (98, .newarray .int, 2, 100), (100, .dup, 1, 101), (101, .iconst 0, 1, 102), (102, .sipush 999, 3, 105), (105, .iastore, 1, 106), (106, .dup, 1, 107), (107, .iconst 1, 1, 108), (108, .bipush 20, 2, 110), (110, .iastore, 1, 111), (111, .dup, 1, 112), (112, .iconst 2, 1, 113), (113, .bipush 99, 2, 115), (115, .iastore, 1, 116), (116, .dup, 1, 117), (117, .iconst 3, 1, 118), (118, .sipush 9999, 3, 121), (121, .iastore, 1, 122), (122, .dup, 1, 123), (123, .iconst 4, 1, 124), (124, .bipush 30, 2, 126), (126, .iastore, 1, 127), (127, .dup, 1, 128), (128, .iconst 5, 1, 129), (129, .sipush 1000, 3, 132), (132, .iastore, 1, 133), (133, .putfield 27, 3, 136), (136, .aload_n 0, 1, 137), (137, .bipush 13, 2, 139), (139, .newarray .int, 2, 141), (141, .putfield 30, 3, 144), (144, .aload_n 0, 1, 145), (145, .sipush 361, 3, 148), (148, .newarray .long, 2, 150), (150, .putfield 33, 3, 153), (153, .aload_n 0, 1, 154), (154, .bipush 120, 2, 156), (156, .newarray .int, 2, 158), (158, .putfield 37, 3, 161), (161, .aload_n 0, 1, 162), (162, .bipush (-5), 2, 164), (164, .putfield 40, 3, 167), (167, .aload_n 0, 1, 168), (168, .bipush 120, 2, 170), (170, .newarray .int, 2, 172), (172, .putfield 44, 3, 175), (175, .aload_n 0, 1, 176), (176, .bipush 120, 2, 178), (178, .newarray .int, 2, 180), (180, .putfield 47, 3, 183), (183, .aload_n 0, 1, 184), (184, .bipush 120, 2, 186), (186, .newarray .int, 2, 188), (188, .putfield 50, 3, 191), (191, .aload_n 0, 1, 192), (192, .bipush 42, 2, 194), (194, .newarray .int, 2, 196), (196, .dup, 1, 197), (197, .iconst 0, 1, 198), (198, .bipush 100, 2, 200), (200, .iastore, 1, 201), (201, .dup, 1, 202), (202, .iconst 1, 1, 203), (203, .bipush 119, 2, 205), (205, .iastore, 1, 206), (206, .dup, 1, 207), (207, .iconst 2, 1, 208), (208, .bipush 101, 2, 210), (210, .iastore, 1, 211), (211, .dup, 1, 212), (212, .iconst 3, 1, 213), (213, .bipush 108, 2, 215), (215, .iastore, 1, 216), (216, .dup, 1, 217), (217, .iconst 4, 1, 218), (218, .bipush 108, 2, 220), (220, .iastore, 1, 221), (221, .dup, 1, 222), (222, .iconst 5, 1, 223), (223, .iconst 0, 1, 224), (224, .iastore, 1, 225), (225, .dup, 1, 226), (226, .bipush 6, 2, 228), (228, .iconst 0, 1, 229), (229, .iastore, 1, 230), (230, .dup, 1, 231), (231, .bipush 7, 2, 233), (233, .bipush 108, 2, 235), (235, .iastore, 1, 236), (236, .dup, 1, 237), (237, .bipush 8, 2, 239), (239, .bipush 105, 2, 241), (241, .iastore, 1, 242), (242, .dup, 1, 243), (243, .bipush 9, 2, 245), (245, .bipush 110, 2, 247), (247, .iastore, 1, 248), (248, .dup, 1, 249), (249, .bipush 10, 2, 251), (251, .bipush 101, 2, 253), (253, .iastore, 1, 254), (254, .dup, 1, 255), (255, .bipush 11, 2, 257), (257, .iconst 0, 1, 258), (258, .iastore, 1, 259), (259, .dup, 1, 260), (260, .bipush 12, 2, 262), (262, .iconst 0, 1, 263), (263, .iastore, 1, 264), (264, .dup, 1, 265), (265, .bipush 13, 2, 267), (267, .iconst 0, 1, 268), (268, .iastore, 1, 269), (269, .dup, 1, 270), (270, .bipush 14, 2, 272), (272, .bipush 115, 2, 274), (274, .iastore, 1, 275), (275, .dup, 1, 276), (276, .bipush 15, 2, 278), (278, .bipush 116, 2, 280), (280, .iastore, 1, 281), (281, .dup, 1, 282), (282, .bipush 16, 2, 284), (284, .bipush 97, 2, 286), (286, .iastore, 1, 287), (287, .dup, 1, 288), (288, .bipush 17, 2, 290), (290, .bipush 114, 2, 292), (292, .iastore, 1, 293), (293, .dup, 1, 294), (294, .bipush 18, 2, 296), (296, .bipush 116, 2, 298), (298, .iastore, 1, 299), (299, .dup, 1, 300), (300, .bipush 19, 2, 302), (302, .iconst 0, 1, 303), (303, .iastore, 1, 304), (304, .dup, 1, 305), (305, .bipush 20, 2, 307), (307, .iconst 0, 1, 308), (308, .iastore, 1, 309), (309, .dup, 1, 310), (310, .bipush 21, 2, 312), (312, .bipush 115, 2, 314), (314, .iastore, 1, 315), (315, .dup, 1, 316), (316, .bipush 22, 2, 318), (318, .bipush 116, 2, 320), (320, .iastore, 1, 321), (321, .dup, 1, 322), (322, .bipush 23, 2, 324), (324, .bipush 111, 2, 326), (326, .iastore, 1, 327), (327, .dup, 1, 328), (328, .bipush 24, 2, 330), (330, .bipush 112, 2, 332), (332, .iastore, 1, 333), (333, .dup, 1, 334), (334, .bipush 25, 2, 336), (336, .iconst 0, 1, 337), (337, .iastore, 1, 338), (338, .dup, 1, 339), (339, .bipush 26, 2, 341), (341, .iconst 0, 1, 342), (342, .iastore, 1, 343), (343, .dup, 1, 344), (344, .bipush 27, 2, 346), (346, .iconst 0, 1, 347), (347, .iastore, 1, 348), (348, .dup, 1, 349), (349, .bipush 28, 2, 351), (351, .bipush 99, 2, 353), (353, .iastore, 1, 354), (354, .dup, 1, 355), (355, .bipush 29, 2, 357), (357, .bipush 117, 2, 359), (359, .iastore, 1, 360), (360, .dup, 1, 361), (361, .bipush 30, 2, 363), (363, .bipush 98, 2, 365), (365, .iastore, 1, 366), (366, .dup, 1, 367), (367, .bipush 31, 2, 369), (369, .bipush 105, 2, 371), (371, .iastore, 1, 372), (372, .dup, 1, 373), (373, .bipush 32, 2, 375), (375, .bipush 99, 2, 377), (377, .iastore, 1, 378), (378, .dup, 1, 379), (379, .bipush 33, 2, 381), (381, .iconst 0, 1, 382), (382, .iastore, 1, 383), (383, .dup, 1, 384), (384, .bipush 34, 2, 386), (386, .iconst 0, 1, 387), (387, .iastore, 1, 388), (388, .dup, 1, 389), (389, .bipush 35, 2, 391), (391, .bipush 113, 2, 393), (393, .iastore, 1, 394), (394, .dup, 1, 395), (395, .bipush 36, 2, 397), (397, .bipush 117, 2, 399), (399, .iastore, 1, 400), (400, .dup, 1, 401), (401, .bipush 37, 2, 403), (403, .bipush 105, 2, 405), (405, .iastore, 1, 406), (406, .dup, 1, 407), (407, .bipush 38, 2, 409), (409, .bipush 110, 2, 411), (411, .iastore, 1, 412), (412, .dup, 1, 413), (413, .bipush 39, 2, 415), (415, .bipush 116, 2, 417), (417, .iastore, 1, 418), (418, .dup, 1, 419), (419, .bipush 40, 2, 421), (421, .bipush 105, 2, 423), (423, .iastore, 1, 424), (424, .dup, 1, 425), (425, .bipush 41, 2, 427), (427, .bipush 99, 2, 429), (429, .iastore, 1, 430), (430, .putfield 53, 3, 433), (433, .aload_n 0, 1, 434), (434, .iconst 4, 1, 435), (435, .newarray .int, 2, 437), (437, .dup, 1, 438), (438, .iconst 0, 1, 439), (439, .iconst (-1), 1, 440), (440, .iastore, 1, 441), (441, .dup, 1, 442), (442, .iconst 1, 1, 443), (443, .iconst (-1), 1, 444), (444, .iastore, 1, 445), (445, .dup, 1, 446), (446, .iconst 2, 1, 447), (447, .iconst (-1), 1, 448), (448, .iastore, 1, 449), (449, .dup, 1, 450), (450, .iconst 3, 1, 451), (451, .iconst (-1), 1, 452), (452, .iastore, 1, 453), (453, .putfield 56, 3, 456), (456, .aload_n 0, 1, 457), (457, .bipush 120, 2, 459), (459, .newarray .long, 2, 461), (461, .putfield 59, 3, 464), (464, .aload_n 0, 1, 465), (465, .iconst (-1), 1, 466), (466, .putfield 62, 3, 469), (469, .aload_n 0, 1, 470), (470, .bipush 12, 2, 472), (472, .newarray .int, 2, 474), (474, .putfield 65, 3, 477), (477, .aload_n 0, 1, 478), (478, .bipush 12, 2, 480), (480, .newarray .int, 2, 482), (482, .putfield 68, 3, 485), (485, .aload_n 0, 1, 486), (486, .bipush 12, 2, 488), (488, .newarray .int, 2, 490), (490, .putfield 71, 3, 493), (493, .aload_n 0, 1, 494), (494, .bipush 6, 2, 496), (496, .newarray .int, 2, 498), (498, .putfield 74, 3, 501), (501, .return_, 1, 502)]
def M_M_init : zM := (⟨"CamPiecesModel", "<init>", "()V"⟩, prog_10_method_1_code, 1, none, I_M_init)
def R_M_init : Room := { frames := 1, cells := 19, slots := 1119, locals := 24 }
theorem D_M_init : zDec M_M_init := (by decide +kernel : ∀ q ∈ I_M_init, decode prog_10_method_1_code q.1 = .ok (q.2.1, q.2.2.1) ∧ q.1 + q.2.2.1 = q.2.2.2)
theorem C_M_init : zCi M_M_init 0 := ⟨⟨zTB_of 9 (by decide +kernel) rfl, zTB_of 874 (by decide +kernel) rfl, by decide, by decide, by decide +kernel⟩, zTB_of 873 (by decide +kernel) rfl, rfl, rfl⟩
def I_M_in : List (Nat × Instr × Nat × Nat) := [(0, .lload_n 0, 1, 1), (1, .lload_n 2, 1, 2), (2, .lcmp, 1, 3), (3, .ifCond .lt 14, 3, 6), (6, .lload_n 0, 1, 7), (7, .lload 4, 2, 9), (9, .lcmp, 1, 10), (10, .ifCond .gt 7, 3, 13), (13, .iconst 1, 1, 14), (14, .goto 4, 3, 17), (17, .iconst 0, 1, 18), (18, .ireturn, 1, 19)]
def M_M_in : zM := (⟨"CamPiecesModel", "in", "(JJJ)Z"⟩, prog_10_method_2_code, 6, some .boolean, I_M_in)
def R_M_in : Room := { frames := 0, cells := 0, slots := 0, locals := 0 }
theorem D_M_in : zDec M_M_in := (by decide +kernel : ∀ q ∈ I_M_in, decode prog_10_method_2_code q.1 = .ok (q.2.1, q.2.2.1) ∧ q.1 + q.2.2.1 = q.2.2.2)
theorem C_M_in : zCs M_M_in 3 := ⟨⟨zTB_of 9 (by decide +kernel) rfl, zTB_of 989 (by decide +kernel) rfl, by decide, by decide, by decide +kernel⟩, zTB_of 988 (by decide +kernel) rfl⟩
def I_M_isPiece : List (Nat × Instr × Nat × Nat) := [(0, .iload_n 1, 1, 1), (1, .i2l, 1, 2), (2, .lconst 0, 1, 3), (3, .aload_n 0, 1, 4), (4, .getfield 77, 3, 7), (7, .iconst 1, 1, 8), (8, .isub, 1, 9), (9, .i2l, 1, 10), (10, .invokestatic 80, 3, 13), (13, .ireturn, 1, 14)]
def M_M_isPiece : zM := (⟨"CamPiecesModel", "isPiece", "(I)Z"⟩, prog_10_method_3_code, 2, some .boolean, I_M_isPiece)
def R_M_isPiece : Room := { frames := 1, cells := 0, slots := 0, locals := 25 }
theorem D_M_isPiece : zDec M_M_isPiece := (by decide +kernel : ∀ q ∈ I_M_isPiece, decode prog_10_method_3_code q.1 = .ok (q.2.1, q.2.2.1) ∧ q.1 + q.2.2.1 = q.2.2.2)
theorem C_M_isPiece : zCv M_M_isPiece 1 := ⟨⟨zTB_of 9 (by decide +kernel) rfl, zTB_of 1011 (by decide +kernel) rfl, by decide, by decide, by decide +kernel⟩, zTB_of 1010 (by decide +kernel) rfl, zTB_ofS 36 (by decide +kernel) rfl⟩
def I_M_isRise : List (Nat × Instr × Nat × Nat) := [(0, .iload_n 0, 1, 1), (1, .ifCond .ne 15, 3, 4), (4, .iload_n 1, 1, 5), (5, .ifCond .ne 7, 3, 8), (8, .iconst 1, 1, 9), (9, .goto 30, 3, 12), (12, .iconst 0, 1, 13), (13, .goto 26, 3, 16), (16, .iload_n 1, 1, 17), (17, .i2l, 1, 18), (18, .ldc2_w 84, 3, 21), (21, .ldc2_w 86, 3, 24), (24, .invokestatic 80, 3, 27), (27, .ifCond .eq 11, 3, 30), (30, .iload_n 1, 1, 31), (31, .ifCond .eq 7, 3, 34), (34, .iconst 1, 1, 35), (35, .goto 4, 3, 38), (38, .iconst 0, 1, 39), (39, .ireturn, 1, 40)]
def M_M_isRise : zM := (⟨"CamPiecesModel", "isRise", "(II)Z"⟩, prog_10_method_4_code, 2, some .boolean, I_M_isRise)
def R_M_isRise : Room := { frames := 1, cells := 0, slots := 0, locals := 25 }
theorem D_M_isRise : zDec M_M_isRise := (by decide +kernel : ∀ q ∈ I_M_isRise, decode prog_10_method_4_code q.1 = .ok (q.2.1, q.2.2.1) ∧ q.1 + q.2.2.1 = q.2.2.2)
theorem C_M_isRise : zCs M_M_isRise 2 := ⟨⟨zTB_of 9 (by decide +kernel) rfl, zTB_of 993 (by decide +kernel) rfl, by decide, by decide, by decide +kernel⟩, zTB_of 992 (by decide +kernel) rfl⟩
def I_M_total : List (Nat × Instr × Nat × Nat) := [(0, .iconst 0, 1, 1), (1, .istore_n 1, 1, 2), (2, .iconst 0, 1, 3), (3, .istore_n 2, 1, 4), (4, .iload_n 2, 1, 5), (5, .aload_n 0, 1, 6), (6, .getfield 77, 3, 9), (9, .if_icmp .ge 18, 3, 12), (12, .iload_n 1, 1, 13), (13, .aload_n 0, 1, 14), (14, .getfield 15, 3, 17), (17, .iload_n 2, 1, 18), (18, .iaload, 1, 19), (19, .iadd, 1, 20), (20, .istore_n 1, 1, 21), (21, .iinc 2 1, 3, 24), (24, .goto (-20), 3, 27), (27, .iload_n 1, 1, 28), (28, .ireturn, 1, 29)]
def M_M_total : zM := (⟨"CamPiecesModel", "total", "()I"⟩, prog_10_method_5_code, 3, some .int, I_M_total)
def R_M_total : Room := { frames := 0, cells := 0, slots := 0, locals := 0 }
theorem D_M_total : zDec M_M_total := (by decide +kernel : ∀ q ∈ I_M_total, decode prog_10_method_5_code q.1 = .ok (q.2.1, q.2.2.1) ∧ q.1 + q.2.2.1 = q.2.2.2)
theorem C_M_total : zCv M_M_total 0 := ⟨⟨zTB_of 9 (by decide +kernel) rfl, zTB_of 999 (by decide +kernel) rfl, by decide, by decide, by decide +kernel⟩, zTB_of 998 (by decide +kernel) rfl, zTB_ofS 35 (by decide +kernel) rfl⟩
def I_M_begin : List (Nat × Instr × Nat × Nat) := [(0, .iconst 0, 1, 1), (1, .istore_n 2, 1, 2), (2, .iconst 0, 1, 3), (3, .istore_n 3, 1, 4), (4, .iload_n 3, 1, 5), (5, .iload_n 1, 1, 6), (6, .if_icmp .ge 18, 3, 9), (9, .iload_n 2, 1, 10), (10, .aload_n 0, 1, 11), (11, .getfield 15, 3, 14), (14, .iload_n 3, 1, 15), (15, .iaload, 1, 16), (16, .iadd, 1, 17), (17, .istore_n 2, 1, 18), (18, .iinc 3 1, 3, 21), (21, .goto (-17), 3, 24), (24, .iload_n 2, 1, 25), (25, .ireturn, 1, 26)]
def M_M_begin : zM := (⟨"CamPiecesModel", "begin", "(I)I"⟩, prog_10_method_6_code, 4, some .int, I_M_begin)
def R_M_begin : Room := { frames := 0, cells := 0, slots := 0, locals := 0 }
theorem D_M_begin : zDec M_M_begin := (by decide +kernel : ∀ q ∈ I_M_begin, decode prog_10_method_6_code q.1 = .ok (q.2.1, q.2.2.1) ∧ q.1 + q.2.2.1 = q.2.2.2)
theorem C_M_begin : zCv M_M_begin 1 := ⟨⟨zTB_of 9 (by decide +kernel) rfl, zTB_of 1021 (by decide +kernel) rfl, by decide, by decide, by decide +kernel⟩, zTB_of 1020 (by decide +kernel) rfl, zTB_ofS 37 (by decide +kernel) rfl⟩
def I_M_ahead : List (Nat × Instr × Nat × Nat) := [(0, .iconst 0, 1, 1), (1, .istore_n 2, 1, 2), (2, .iconst 0, 1, 3), (3, .istore_n 3, 1, 4), (4, .iload_n 3, 1, 5), (5, .iload_n 1, 1, 6), (6, .if_icmp .ge 18, 3, 9), (9, .iload_n 2, 1, 10), (10, .aload_n 0, 1, 11), (11, .getfield 18, 3, 14), (14, .iload_n 3, 1, 15), (15, .iaload, 1, 16), (16, .iadd, 1, 17), (17, .istore_n 2, 1, 18), (18, .iinc 3 1, 3, 21), (21, .goto (-17), 3, 24), (24, .iload_n 2, 1, 25), (25, .ireturn, 1, 26)]
def M_M_ahead : zM := (⟨"CamPiecesModel", "ahead", "(I)I"⟩, prog_10_method_7_code, 4, some .int, I_M_ahead)
def R_M_ahead : Room := { frames := 0, cells := 0, slots := 0, locals := 0 }
theorem D_M_ahead : zDec M_M_ahead := (by decide +kernel : ∀ q ∈ I_M_ahead, decode prog_10_method_7_code q.1 = .ok (q.2.1, q.2.2.1) ∧ q.1 + q.2.2.1 = q.2.2.2)
theorem C_M_ahead : zCv M_M_ahead 1 := ⟨⟨zTB_of 9 (by decide +kernel) rfl, zTB_of 1025 (by decide +kernel) rfl, by decide, by decide, by decide +kernel⟩, zTB_of 1024 (by decide +kernel) rfl, zTB_ofS 38 (by decide +kernel) rfl⟩
def I_M_isClosed : List (Nat × Instr × Nat × Nat) := [(0, .aload_n 0, 1, 1), (1, .invokevirtual 88, 3, 4), (4, .sipush 360, 3, 7), (7, .if_icmp .ne 18, 3, 10), (10, .aload_n 0, 1, 11), (11, .aload_n 0, 1, 12), (12, .getfield 77, 3, 15), (15, .invokevirtual 92, 3, 18), (18, .ifCond .ne 7, 3, 21), (21, .iconst 1, 1, 22), (22, .goto 4, 3, 25), (25, .iconst 0, 1, 26), (26, .ireturn, 1, 27)]
def M_M_isClosed : zM := (⟨"CamPiecesModel", "isClosed", "()Z"⟩, prog_10_method_8_code, 1, some .boolean, I_M_isClosed)
def R_M_isClosed : Room := { frames := 1, cells := 0, slots := 0, locals := 23 }
theorem D_M_isClosed : zDec M_M_isClosed := (by decide +kernel : ∀ q ∈ I_M_isClosed, decode prog_10_method_8_code q.1 = .ok (q.2.1, q.2.2.1) ∧ q.1 + q.2.2.1 = q.2.2.2)
theorem C_M_isClosed : zCv M_M_isClosed 0 := ⟨⟨zTB_of 9 (by decide +kernel) rfl, zTB_of 1038 (by decide +kernel) rfl, by decide, by decide, by decide +kernel⟩, zTB_of 1037 (by decide +kernel) rfl, zTB_ofS 39 (by decide +kernel) rfl⟩
def I_M_piece : List (Nat × Instr × Nat × Nat) := [(0, .iload_n 1, 1, 1), (1, .i2l, 1, 2), (2, .lconst 0, 1, 3), (3, .ldc2_w 96, 3, 6), (6, .invokestatic 80, 3, 9), (9, .ifCond .ne 5, 3, 12), (12, .iconst (-1), 1, 13), (13, .ireturn, 1, 14), (14, .iload_n 2, 1, 15), (15, .i2l, 1, 16), (16, .lconst 1, 1, 17), (17, .ldc2_w 98, 3, 20), (20, .invokestatic 80, 3, 23), (23, .ifCond .eq 11, 3, 26), (26, .iload_n 1, 1, 27), (27, .iload_n 3, 1, 28), (28, .invokestatic 100, 3, 31), (31, .ifCond .ne 6, 3, 34), (34, .bipush (-2), 2, 36), (36, .ireturn, 1, 37), (37, .aload_n 0, 1, 38), (38, .getfield 77, 3, 41), (41, .bipush 12, 2, 43), (43, .if_icmp .ne 6, 3, 46), (46, .bipush (-4), 2, 48), (48, .ireturn, 1, 49), (49, .aload_n 0, 1, 50), (50, .invokevirtual 88, 3, 53), (53, .iload_n 2, 1, 54), (54, .iadd, 1, 55), (55, .sipush 360, 3, 58), (58, .if_icmp .le 6, 3, 61), (61, .bipush (-3), 2, 63), (63, .ireturn, 1, 64), (64, .aload_n 0, 1, 65), (65, .getfield 11, 3, 68), (68, .aload_n 0, 1, 69), (69, .getfield 77, 3, 72), (72, .iload_n 1, 1, 73), (73, .iastore, 1, 74), (74, .aload_n 0, 1, 75), (75, .getfield 15, 3, 78), (78, .aload_n 0, 1, 79), (79, .getfield 77, 3, 82), (82, .iload_n 2, 1, 83), (83, .iastore, 1, 84), (84, .aload_n 0, 1, 85), (85, .getfield 18, 3, 88), (88, .aload_n 0, 1, 89), (89, .getfield 77, 3, 92), (92, .iload_n 3, 1, 93), (93, .iastore, 1, 94), (94, .aload_n 0, 1, 95), (95, .dup, 1, 96), (96, .getfield 77, 3, 99), (99, .iconst 1, 1, 100), (100, .iadd, 1, 101), (101, .putfield 77, 3, 104), (104, .aload_n 0, 1, 105), (105, .getfield 77, 3, 108), (108, .iconst 1, 1, 109), (109, .isub, 1, 110), (110, .ireturn, 1, 111)]
def M_M_piece : zM := (⟨"CamPiecesModel", "piece", "(III)I"⟩, prog_10_method_9_code, 4, some .int, I_M_piece)
def R_M_piece : Room := { frames := 2, cells := 0, slots := 0, locals := 46 }
theorem D_M_piece : zDec M_M_piece := (by decide +kernel : ∀ q ∈ I_M_piece, decode prog_10_method_9_code q.1 = .ok (q.2.1, q.2.2.1) ∧ q.1 + q.2.2.1 = q.2.2.2)
theorem C_M_piece : zCv M_M_piece 3 := ⟨⟨zTB_of 9 (by decide +kernel) rfl, zTB_of 985 (by decide +kernel) rfl, by decide, by decide, by decide +kernel⟩, zTB_of 983 (by decide +kernel) rfl, zTB_of 984 (by decide +kernel) rfl⟩
def I_M_drop : List (Nat × Instr × Nat × Nat) := [(0, .aload_n 0, 1, 1), (1, .getfield 77, 3, 4), (4, .ifCond .ne 6, 3, 7), (7, .bipush (-3), 2, 9), (9, .ireturn, 1, 10), (10, .aload_n 0, 1, 11), (11, .dup, 1, 12), (12, .getfield 77, 3, 15), (15, .iconst 1, 1, 16), (16, .isub, 1, 17), (17, .putfield 77, 3, 20), (20, .aload_n 0, 1, 21), (21, .getfield 77, 3, 24), (24, .ireturn, 1, 25)]
def M_M_drop : zM := (⟨"CamPiecesModel", "drop", "()I"⟩, prog_10_method_10_code, 1, some .int, I_M_drop)
def R_M_drop : Room := { frames := 0, cells := 0, slots := 0, locals := 0 }
theorem D_M_drop : zDec M_M_drop := (by decide +kernel : ∀ q ∈ I_M_drop, decode prog_10_method_10_code q.1 = .ok (q.2.1, q.2.2.1) ∧ q.1 + q.2.2.1 = q.2.2.2)
theorem C_M_drop : zCv M_M_drop 0 := ⟨⟨zTB_of 9 (by decide +kernel) rfl, zTB_of 1003 (by decide +kernel) rfl, by decide, by decide, by decide +kernel⟩, zTB_of 1001 (by decide +kernel) rfl, zTB_of 1002 (by decide +kernel) rfl⟩
def I_M_put : List (Nat × Instr × Nat × Nat) := [(0, .aload_n 0, 1, 1), (1, .iload_n 1, 1, 2), (2, .invokevirtual 104, 3, 5), (5, .ifCond .eq 15, 3, 8), (8, .iload_n 2, 1, 9), (9, .i2l, 1, 10), (10, .lconst 0, 1, 11), (11, .ldc2_w 108, 3, 14), (14, .invokestatic 80, 3, 17), (17, .ifCond .ne 7, 3, 20), (20, .sipush (-999), 3, 23), (23, .ireturn, 1, 24), (24, .iload_n 2, 1, 25), (25, .ifCond .ne 7, 3, 28), (28, .iload_n 3, 1, 29), (29, .goto 9, 3, 32), (32, .aload_n 0, 1, 33), (33, .getfield 11, 3, 36), (36, .iload_n 1, 1, 37), (37, .iaload, 1, 38), (38, .istore 4, 2, 40), (40, .iload_n 2, 1, 41), (41, .iconst 1, 1, 42), (42, .if_icmp .ne 7, 3, 45), (45, .iload_n 3, 1, 46), (46, .goto 9, 3, 49), (49, .aload_n 0, 1, 50), (50, .getfield 15, 3, 53), (53, .iload_n 1, 1, 54), (54, .iaload, 1, 55), (55, .istore 5, 2, 57), (57, .iload_n 2, 1, 58), (58, .iconst 2, 1, 59), (59, .if_icmp .ne 7, 3, 62), (62, .iload_n 3, 1, 63), (63, .goto 9, 3, 66), (66, .aload_n 0, 1, 67), (67, .getfield 18, 3, 70), (70, .iload_n 1, 1, 71), (71, .iaload, 1, 72), (72, .istore 6, 2, 74), (74, .iload 4, 2, 76), (76, .i2l, 1, 77), (77, .lconst 0, 1, 78), (78, .ldc2_w 96, 3, 81), (81, .invokestatic 80, 3, 84), (84, .ifCond .eq 46, 3, 87), (87, .iload 5, 2, 89), (89, .i2l, 1, 90), (90, .lconst 1, 1, 91), (91, .ldc2_w 98, 3, 94), (94, .invokestatic 80, 3, 97), (97, .ifCond .eq 33, 3, 100), (100, .iload 4, 2, 102), (102, .iload 6, 2, 104), (104, .invokestatic 100, 3, 107), (107, .ifCond .eq 23, 3, 110), (110, .aload_n 0, 1, 111), (111, .invokevirtual 88, 3, 114), (114, .aload_n 0, 1, 115), (115, .getfield 15, 3, 118), (118, .iload_n 1, 1, 119), (119, .iaload, 1, 120), (120, .isub, 1, 121), (121, .iload 5, 2, 123), (123, .iadd, 1, 124), (124, .sipush 360, 3, 127), (127, .if_icmp .le 7, 3, 130), (130, .sipush (-999), 3, 133), (133, .ireturn, 1, 134), (134, .aload_n 0, 1, 135), (135, .iload_n 1, 1, 136), (136, .iload_n 2, 1, 137), (137, .invokevirtual 110, 3, 140), (140, .istore 7, 2, 142), (142, .aload_n 0, 1, 143), (143, .getfield 11, 3, 146), (146, .iload_n 1, 1, 147), (147, .iload 4, 2, 149), (149, .iastore, 1, 150), (150, .aload_n 0, 1, 151), (151, .getfield 15, 3, 154), (154, .iload_n 1, 1, 155), (155, .iload 5, 2, 157), (157, .iastore, 1, 158), (158, .aload_n 0, 1, 159), (159, .getfield 18, 3, 162), (162, .iload_n 1, 1, 163), (163, .iload 6, 2, 165), (165, .iastore, 1, 166), (166, .iload 7, 2, 168), (168, .ireturn, 1, 169)]
def M_M_put : zM := (⟨"CamPiecesModel", "put", "(III)I"⟩, prog_10_method_11_code, 8, some .int, I_M_put)
def R_M_put : Room := { frames := 3, cells := 0, slots := 0, locals := 68 }
theorem D_M_put : zDec M_M_put := (by decide +kernel : ∀ q ∈ I_M_put, decode prog_10_method_11_code q.1 = .ok (q.2.1, q.2.2.1) ∧ q.1 + q.2.2.1 = q.2.2.2)
theorem C_M_put : zCv M_M_put 3 := ⟨⟨zTB_of 9 (by decide +kernel) rfl, zTB_of 1007 (by decide +kernel) rfl, by decide, by decide, by decide +kernel⟩, zTB_of 1005 (by decide +kernel) rfl, zTB_of 1006 (by decide +kernel) rfl⟩
def I_M_of : List (Nat × Instr × Nat × Nat) := [(0, .aload_n 0, 1, 1), (1, .iload_n 1, 1, 2), (2, .invokevirtual 104, 3, 5), (5, .ifCond .eq 15, 3, 8), (8, .iload_n 2, 1, 9), (9, .i2l, 1, 10), (10, .lconst 0, 1, 11), (11, .ldc2_w 114, 3, 14), (14, .invokestatic 80, 3, 17), (17, .ifCond .ne 7, 3, 20), (20, .sipush (-9999), 3, 23), (23, .ireturn, 1, 24), (24, .iload_n 2, 1, 25), (25, .tableswitch 58 0 3 #[31, 38, 45, 52], 31, 56), (56, .aload_n 0, 1, 57), (57, .getfield 11, 3, 60), (60, .iload_n 1, 1, 61), (61, .iaload, 1, 62), (62, .ireturn, 1, 63), (63, .aload_n 0, 1, 64), (64, .getfield 15, 3, 67), (67, .iload_n 1, 1, 68), (68, .iaload, 1, 69), (69, .ireturn, 1, 70), (70, .aload_n 0, 1, 71), (71, .getfield 18, 3, 74), (74, .iload_n 1, 1, 75), (75, .iaload, 1, 76), (76, .ireturn, 1, 77), (77, .aload_n 0, 1, 78), (78, .iload_n 1, 1, 79), (79, .invokevirtual 116, 3, 82), (82, .ireturn, 1, 83), (83, .aload_n 0, 1, 84), (84, .iload_n 1, 1, 85), (85, .invokevirtual 92, 3, 88), (88, .ireturn, 1, 89)]
def M_M_of : zM := (⟨"CamPiecesModel", "of", "(II)I"⟩, prog_10_method_12_code, 3, some .int, I_M_of)
def R_M_of : Room := { frames := 2, cells := 0, slots := 0, locals := 46 }
theorem D_M_of : zDec M_M_of := (by decide +kernel : ∀ q ∈ I_M_of, decode prog_10_method_12_code q.1 = .ok (q.2.1, q.2.2.1) ∧ q.1 + q.2.2.1 = q.2.2.2)
theorem C_M_of : zCv M_M_of 2 := ⟨⟨zTB_of 9 (by decide +kernel) rfl, zTB_of 1016 (by decide +kernel) rfl, by decide, by decide, by decide +kernel⟩, zTB_of 1014 (by decide +kernel) rfl, zTB_of 1015 (by decide +kernel) rfl⟩
def I_M_tell : List (Nat × Instr × Nat × Nat) := [(0, .iload_n 1, 1, 1), (1, .i2l, 1, 2), (2, .lconst 0, 1, 3), (3, .ldc2_w 96, 3, 6), (6, .invokestatic 80, 3, 9), (9, .ifCond .ne 5, 3, 12), (12, .iconst (-1), 1, 13), (13, .ireturn, 1, 14), (14, .iload_n 2, 1, 15), (15, .i2l, 1, 16), (16, .aload_n 0, 1, 17), (17, .getfield 24, 3, 20), (20, .iload_n 1, 1, 21), (21, .iaload, 1, 22), (22, .i2l, 1, 23), (23, .aload_n 0, 1, 24), (24, .getfield 27, 3, 27), (27, .iload_n 1, 1, 28), (28, .iaload, 1, 29), (29, .i2l, 1, 30), (30, .invokestatic 80, 3, 33), (33, .ifCond .ne 6, 3, 36), (36, .bipush (-2), 2, 38), (38, .ireturn, 1, 39), (39, .aload_n 0, 1, 40), (40, .getfield 21, 3, 43), (43, .iload_n 1, 1, 44), (44, .iaload, 1, 45), (45, .istore_n 3, 1, 46), (46, .aload_n 0, 1, 47), (47, .getfield 21, 3, 50), (50, .iload_n 1, 1, 51), (51, .iload_n 2, 1, 52), (52, .iastore, 1, 53), (53, .iload_n 3, 1, 54), (54, .ireturn, 1, 55)]
def M_M_tell : zM := (⟨"CamPiecesModel", "tell", "(II)I"⟩, prog_10_method_13_code, 4, some .int, I_M_tell)
def R_M_tell : Room := { frames := 1, cells := 0, slots := 0, locals := 25 }
theorem D_M_tell : zDec M_M_tell := (by decide +kernel : ∀ q ∈ I_M_tell, decode prog_10_method_13_code q.1 = .ok (q.2.1, q.2.2.1) ∧ q.1 + q.2.2.1 = q.2.2.2)
theorem C_M_tell : zCv M_M_tell 2 := ⟨⟨zTB_of 9 (by decide +kernel) rfl, zTB_of 1030 (by decide +kernel) rfl, by decide, by decide, by decide +kernel⟩, zTB_of 1028 (by decide +kernel) rfl, zTB_of 1029 (by decide +kernel) rfl⟩
def I_M_told : List (Nat × Instr × Nat × Nat) := [(0, .iload_n 1, 1, 1), (1, .i2l, 1, 2), (2, .lconst 0, 1, 3), (3, .ldc2_w 96, 3, 6), (6, .invokestatic 80, 3, 9), (9, .ifCond .eq 10, 3, 12), (12, .aload_n 0, 1, 13), (13, .getfield 21, 3, 16), (16, .iload_n 1, 1, 17), (17, .iaload, 1, 18), (18, .ireturn, 1, 19), (19, .iload_n 1, 1, 20), (20, .tableswitch 60 6 9 #[32, 37, 42, 55], 32, 52), (52, .aload_n 0, 1, 53), (53, .getfield 77, 3, 56), (56, .ireturn, 1, 57), (57, .aload_n 0, 1, 58), (58, .invokevirtual 88, 3, 61), (61, .ireturn, 1, 62), (62, .aload_n 0, 1, 63), (63, .invokevirtual 119, 3, 66), (66, .ifCond .eq 7, 3, 69), (69, .iconst 1, 1, 70), (70, .goto 4, 3, 73), (73, .iconst 0, 1, 74), (74, .ireturn, 1, 75), (75, .aload_n 0, 1, 76), (76, .getfield 123, 3, 79), (79, .ireturn, 1, 80), (80, .iconst (-1), 1, 81), (81, .ireturn, 1, 82)]
def M_M_told : zM := (⟨"CamPiecesModel", "told", "(I)I"⟩, prog_10_method_14_code, 2, some .int, I_M_told)
def R_M_told : Room := { frames := 2, cells := 0, slots := 0, locals := 43 }
theorem D_M_told : zDec M_M_told := (by decide +kernel : ∀ q ∈ I_M_told, decode prog_10_method_14_code q.1 = .ok (q.2.1, q.2.2.1) ∧ q.1 + q.2.2.1 = q.2.2.2)
theorem C_M_told : zCv M_M_told 1 := ⟨⟨zTB_of 9 (by decide +kernel) rfl, zTB_of 1034 (by decide +kernel) rfl, by decide, by decide, by decide +kernel⟩, zTB_of 1032 (by decide +kernel) rfl, zTB_of 1033 (by decide +kernel) rfl⟩
def I_M_mirrored : List (Nat × Instr × Nat × Nat) := [(0, .iload_n 0, 1, 1), (1, .iconst 2, 1, 2), (2, .if_icmp .ne 7, 3, 5), (5, .iconst 3, 1, 6), (6, .goto 13, 3, 9), (9, .iload_n 0, 1, 10), (10, .iconst 3, 1, 11), (11, .if_icmp .ne 7, 3, 14), (14, .iconst 2, 1, 15), (15, .goto 4, 3, 18), (18, .iload_n 0, 1, 19), (19, .ireturn, 1, 20)]
def M_M_mirrored : zM := (⟨"CamPiecesModel", "mirrored", "(I)I"⟩, prog_10_method_15_code, 1, some .int, I_M_mirrored)
def R_M_mirrored : Room := { frames := 0, cells := 0, slots := 0, locals := 0 }
theorem D_M_mirrored : zDec M_M_mirrored := (by decide +kernel : ∀ q ∈ I_M_mirrored, decode prog_10_method_15_code q.1 = .ok (q.2.1, q.2.2.1) ∧ q.1 + q.2.2.1 = q.2.2.2)
theorem C_M_mirrored : zCs M_M_mirrored 1 := ⟨⟨zTB_of 9 (by decide +kernel) rfl, zTB_of 1045 (by decide +kernel) rfl, by decide, by decide, by decide +kernel⟩, zTB_of 1044 (by decide +kernel) rfl⟩
def I_M_mirror : List (Nat × Instr × Nat × Nat) := [(0, .iconst 0, 1, 1), (1, .istore_n 1, 1, 2), (2, .aload_n 0, 1, 3), (3, .getfield 77, 3, 6), (6, .iconst 1, 1, 7), (7, .isub, 1, 8), (8, .istore_n 2, 1, 9), (9, .iload_n 1, 1, 10), (10, .iload_n 2, 1, 11), (11, .if_icmp .gt 102, 3, 14), (14, .aload_n 0, 1, 15), (15, .getfield 11, 3, 18), (18, .iload_n 1, 1, 19), (19, .iaload, 1, 20), (20, .invokestatic 126, 3, 23), (23, .istore_n 3, 1, 24), (24, .aload_n 0, 1, 25), (25, .getfield 15, 3, 28), (28, .iload_n 1, 1, 29), (29, .iaload, 1, 30), (30, .istore 4, 2, 32), (32, .aload_n 0, 1, 33), (33, .getfield 18, 3, 36), (36, .iload_n 1, 1, 37), (37, .iaload, 1, 38), (38, .ineg, 1, 39), (39, .istore 5, 2, 41), (41, .aload_n 0, 1, 42), (42, .getfield 11, 3, 45), (45, .iload_n 1, 1, 46), (46, .aload_n 0, 1, 47), (47, .getfield 11, 3, 50), (50, .iload_n 2, 1, 51), (51, .iaload, 1, 52), (52, .invokestatic 126, 3, 55), (55, .iastore, 1, 56), (56, .aload_n 0, 1, 57), (57, .getfield 15, 3, 60), (60, .iload_n 1, 1, 61), (61, .aload_n 0, 1, 62), (62, .getfield 15, 3, 65), (65, .iload_n 2, 1, 66), (66, .iaload, 1, 67), (67, .iastore, 1, 68), (68, .aload_n 0, 1, 69), (69, .getfield 18, 3, 72), (72, .iload_n 1, 1, 73), (73, .aload_n 0, 1, 74), (74, .getfield 18, 3, 77), (77, .iload_n 2, 1, 78), (78, .iaload, 1, 79), (79, .ineg, 1, 80), (80, .iastore, 1, 81), (81, .aload_n 0, 1, 82), (82, .getfield 11, 3, 85), (85, .iload_n 2, 1, 86), (86, .iload_n 3, 1, 87), (87, .iastore, 1, 88), (88, .aload_n 0, 1, 89), (89, .getfield 15, 3, 92), (92, .iload_n 2, 1, 93), (93, .iload 4, 2, 95), (95, .iastore, 1, 96), (96, .aload_n 0, 1, 97), (97, .getfield 18, 3, 100), (100, .iload_n 2, 1, 101), (101, .iload 5, 2, 103), (103, .iastore, 1, 104), (104, .iinc 1 1, 3, 107), (107, .iinc 2 (-1), 3, 110), (110, .goto (-101), 3, 113), (113, .aload_n 0, 1, 114), (114, .invokevirtual 88, 3, 117), (117, .ireturn, 1, 118)]
def M_M_mirror : zM := (⟨"CamPiecesModel", "mirror", "()I"⟩, prog_10_method_16_code, 6, some .int, I_M_mirror)
def R_M_mirror : Room := { frames := 1, cells := 0, slots := 0, locals := 22 }
theorem D_M_mirror : zDec M_M_mirror := (by decide +kernel : ∀ q ∈ I_M_mirror, decode prog_10_method_16_code q.1 = .ok (q.2.1, q.2.2.1) ∧ q.1 + q.2.2.1 = q.2.2.2)
theorem C_M_mirror : zCv M_M_mirror 0 := ⟨⟨zTB_of 9 (by decide +kernel) rfl, zTB_of 1042 (by decide +kernel) rfl, by decide, by decide, by decide +kernel⟩, zTB_of 1040 (by decide +kernel) rfl, zTB_of 1041 (by decide +kernel) rfl⟩
def I_M_areAlike : List (Nat × Instr × Nat × Nat) := [(0, .aload_n 0, 1, 1), (1, .getfield 11, 3, 4), (4, .iload_n 1, 1, 5), (5, .iaload, 1, 6), (6, .aload_n 0, 1, 7), (7, .getfield 11, 3, 10), (10, .iload_n 2, 1, 11), (11, .iaload, 1, 12), (12, .if_icmp .ne 37, 3, 15), (15, .aload_n 0, 1, 16), (16, .getfield 15, 3, 19), (19, .iload_n 1, 1, 20), (20, .iaload, 1, 21), (21, .aload_n 0, 1, 22), (22, .getfield 15, 3, 25), (25, .iload_n 2, 1, 26), (26, .iaload, 1, 27), (27, .if_icmp .ne 22, 3, 30), (30, .aload_n 0, 1, 31), (31, .getfield 18, 3, 34), (34, .iload_n 1, 1, 35), (35, .iaload, 1, 36), (36, .aload_n 0, 1, 37), (37, .getfield 18, 3, 40), (40, .iload_n 2, 1, 41), (41, .iaload, 1, 42), (42, .if_icmp .ne 7, 3, 45), (45, .iconst 1, 1, 46), (46, .goto 4, 3, 49), (49, .iconst 0, 1, 50), (50, .ireturn, 1, 51)]
def M_M_areAlike : zM := (⟨"CamPiecesModel", "areAlike", "(II)Z"⟩, prog_10_method_17_code, 3, some .boolean, I_M_areAlike)
def R_M_areAlike : Room := { frames := 0, cells := 0, slots := 0, locals := 0 }
theorem D_M_areAlike : zDec M_M_areAlike := (by decide +kernel : ∀ q ∈ I_M_areAlike, decode prog_10_method_17_code q.1 = .ok (q.2.1, q.2.2.1) ∧ q.1 + q.2.2.1 = q.2.2.2)
theorem C_M_areAlike : zCv M_M_areAlike 2 := ⟨⟨zTB_of 9 (by decide +kernel) rfl, zTB_of 1053 (by decide +kernel) rfl, by decide, by decide, by decide +kernel⟩, zTB_of 1052 (by decide +kernel) rfl, zTB_ofS 40 (by decide +kernel) rfl⟩
def I_M_alike : List (Nat × Instr × Nat × Nat) := [(0, .aload_n 0, 1, 1), (1, .iload_n 1, 1, 2), (2, .invokevirtual 104, 3, 5), (5, .ifCond .ne 5, 3, 8), (8, .iconst (-1), 1, 9), (9, .ireturn, 1, 10), (10, .iconst 0, 1, 11), (11, .istore_n 2, 1, 12), (12, .iconst 0, 1, 13), (13, .istore_n 3, 1, 14), (14, .iload_n 3, 1, 15), (15, .aload_n 0, 1, 16), (16, .getfield 77, 3, 19), (19, .if_icmp .ge 21, 3, 22), (22, .aload_n 0, 1, 23), (23, .iload_n 3, 1, 24), (24, .iload_n 1, 1, 25), (25, .invokevirtual 129, 3, 28), (28, .ifCond .eq 6, 3, 31), (31, .iinc 2 1, 3, 34), (34, .iinc 3 1, 3, 37), (37, .goto (-23), 3, 40), (40, .iload_n 2, 1, 41), (41, .ireturn, 1, 42)]
def M_M_alike : zM := (⟨"CamPiecesModel", "alike", "(I)I"⟩, prog_10_method_18_code, 4, some .int, I_M_alike)
def R_M_alike : Room := { frames := 2, cells := 0, slots := 0, locals := 46 }
theorem D_M_alike : zDec M_M_alike := (by decide +kernel : ∀ q ∈ I_M_alike, decode prog_10_method_18_code q.1 = .ok (q.2.1, q.2.2.1) ∧ q.1 + q.2.2.1 = q.2.2.2)
theorem C_M_alike : zCv M_M_alike 1 := ⟨⟨zTB_of 9 (by decide +kernel) rfl, zTB_of 1049 (by decide +kernel) rfl, by decide, by decide, by decide +kernel⟩, zTB_of 1047 (by decide +kernel) rfl, zTB_of 1048 (by decide +kernel) rfl⟩
def I_M_unlike : List (Nat × Instr × Nat × Nat) := [(0, .iload_n 1, 1, 1), (1, .iconst (-1), 1, 2), (2, .if_icmp .ge 5, 3, 5), (5, .iconst (-1), 1, 6), (6, .ireturn, 1, 7), (7, .iconst 0, 1, 8), (8, .istore_n 2, 1, 9), (9, .iconst 0, 1, 10), (10, .istore_n 3, 1, 11), (11, .iload_n 3, 1, 12), (12, .aload_n 0, 1, 13), (13, .getfield 77, 3, 16), (16, .if_icmp .ge 69, 3, 19), (19, .iconst 1, 1, 20), (20, .istore 4, 2, 22), (22, .iconst 0, 1, 23), (23, .istore 5, 2, 25), (25, .iload 5, 2, 27), (27, .iload_n 3, 1, 28), (28, .if_icmp .ge 31, 3, 31), (31, .iload 4, 2, 33), (33, .ifCond .eq 17, 3, 36), (36, .aload_n 0, 1, 37), (37, .iload_n 3, 1, 38), (38, .iload 5, 2, 40), (40, .invokevirtual 129, 3, 43), (43, .ifCond .ne 7, 3, 46), (46, .iconst 1, 1, 47), (47, .goto 4, 3, 50), (50, .iconst 0, 1, 51), (51, .istore 4, 2, 53), (53, .iinc 5 1, 3, 56), (56, .goto (-31), 3, 59), (59, .iload 4, 2, 61), (61, .ifCond .eq 10, 3, 64), (64, .iload_n 2, 1, 65), (65, .iload_n 1, 1, 66), (66, .if_icmp .ne 5, 3, 69), (69, .iload_n 3, 1, 70), (70, .ireturn, 1, 71), (71, .iload 4, 2, 73), (73, .ifCond .eq 6, 3, 76), (76, .iinc 2 1, 3, 79), (79, .iinc 3 1, 3, 82), (82, .goto (-71), 3, 85), (85, .iload_n 1, 1, 86), (86, .iconst (-1), 1, 87), (87, .if_icmp .ne 7, 3, 90), (90, .iload_n 2, 1, 91), (91, .goto 4, 3, 94), (94, .iconst (-1), 1, 95), (95, .ireturn, 1, 96)]
def M_M_unlike : zM := (⟨"CamPiecesModel", "unlike", "(I)I"⟩, prog_10_method_19_code, 6, some .int, I_M_unlike)
def R_M_unlike : Room := { frames := 1, cells := 0, slots := 0, locals := 22 }
theorem D_M_unlike : zDec M_M_unlike := (by decide +kernel : ∀ q ∈ I_M_unlike, decode prog_10_method_19_code q.1 = .ok (q.2.1, q.2.2.1) ∧ q.1 + q.2.2.1 = q.2.2.2)
theorem C_M_unlike : zCv M_M_unlike 1 := ⟨⟨zTB_of 9 (by decide +kernel) rfl, zTB_of 1057 (by decide +kernel) rfl, by decide, by decide, by decide +kernel⟩, zTB_of 1055 (by decide +kernel) rfl, zTB_of 1056 (by decide +kernel) rfl⟩
def I_M_steepestPiece : List (Nat × Instr × Nat × Nat) := [(0, .bipush (-5), 2, 2), (2, .istore_n 1, 1, 3), (3, .iconst 0, 1, 4), (4, .istore_n 2, 1, 5), (5, .iload_n 2, 1, 6), (6, .aload_n 0, 1, 7), (7, .getfield 77, 3, 10), (10, .if_icmp .ge 52, 3, 13), (13, .iload_n 1, 1, 14), (14, .bipush (-5), 2, 16), (16, .if_icmp .eq 38, 3, 19), (19, .aload_n 0, 1, 20), (20, .getfield 18, 3, 23), (23, .iload_n 2, 1, 24), (24, .iaload, 1, 25), (25, .invokestatic 132, 3, 28), (28, .aload_n 0, 1, 29), (29, .getfield 15, 3, 32), (32, .iload_n 1, 1, 33), (33, .iaload, 1, 34), (34, .imul, 1, 35), (35, .aload_n 0, 1, 36), (36, .getfield 18, 3, 39), (39, .iload_n 1, 1, 40), (40, .iaload, 1, 41), (41, .invokestatic 132, 3, 44), (44, .aload_n 0, 1, 45), (45, .getfield 15, 3, 48), (48, .iload_n 2, 1, 49), (49, .iaload, 1, 50), (50, .imul, 1, 51), (51, .if_icmp .le 5, 3, 54), (54, .iload_n 2, 1, 55), (55, .istore_n 1, 1, 56), (56, .iinc 2 1, 3, 59), (59, .goto (-54), 3, 62), (62, .iload_n 1, 1, 63), (63, .ireturn, 1, 64)]
def M_M_steepestPiece : zM := (⟨"CamPiecesModel", "steepestPiece", "()I"⟩, prog_10_method_20_code, 3, some .int, I_M_steepestPiece)
def R_M_steepestPiece : Room := { frames := 1, cells := 0, slots := 0, locals := 24 }
theorem D_M_steepestPiece : zDec M_M_steepestPiece := (by decide +kernel : ∀ q ∈ I_M_steepestPiece, decode prog_10_method_20_code q.1 = .ok (q.2.1, q.2.2.1) ∧ q.1 + q.2.2.1 = q.2.2.2)
theorem C_M_steepestPiece : zCv M_M_steepestPiece 0 := ⟨⟨zTB_of 9 (by decide +kernel) rfl, zTB_of 1061 (by decide +kernel) rfl, by decide, by decide, by decide +kernel⟩, zTB_of 1059 (by decide +kernel) rfl, zTB_of 1060 (by decide +kernel) rfl⟩
def I_M_isLess : List (Nat × Instr × Nat × Nat) := [(0, .lload_n 0, 1, 1), (1, .lstore 8, 2, 3), (3, .lload_n 2, 1, 4), (4, .lstore 10, 2, 6), (6, .lload 4, 2, 8), (8, .lstore 12, 2, 10), (10, .lload 6, 2, 12), (12, .lstore 14, 2, 14), (14, .lload 8, 2, 16), (16, .lload 10, 2, 18), (18, .ldiv, 1, 19), (19, .lload 12, 2, 21), (21, .lload 14, 2, 23), (23, .ldiv, 1, 24), (24, .lcmp, 1, 25), (25, .ifCond .eq 23, 3, 28), (28, .lload 8, 2, 30), (30, .lload 10, 2, 32), (32, .ldiv, 1, 33), (33, .lload 12, 2, 35), (35, .lload 14, 2, 37), (37, .ldiv, 1, 38), (38, .lcmp, 1, 39), (39, .ifCond .ge 7, 3, 42), (42, .iconst 1, 1, 43), (43, .goto 4, 3, 46), (46, .iconst 0, 1, 47), (47, .ireturn, 1, 48), (48, .lload 8, 2, 50), (50, .lload 10, 2, 52), (52, .lrem, 1, 53), (53, .lstore 16, 2, 55), (55, .lload 12, 2, 57), (57, .lload 14, 2, 59), (59, .lrem, 1, 60), (60, .lstore 18, 2, 62), (62, .lload 16, 2, 64), (64, .lconst 0, 1, 65), (65, .lcmp, 1, 66), (66, .ifCond .eq 10, 3, 69), (69, .lload 18, 2, 71), (71, .lconst 0, 1, 72), (72, .lcmp, 1, 73), (73, .ifCond .ne 23, 3, 76), (76, .lload 16, 2, 78), (78, .lconst 0, 1, 79), (79, .lcmp, 1, 80), (80, .ifCond .ne 14, 3, 83), (83, .lload 18, 2, 85), (85, .lconst 0, 1, 86), (86, .lcmp, 1, 87), (87, .ifCond .le 7, 3, 90), (90, .iconst 1, 1, 91), (91, .goto 4, 3, 94), (94, .iconst 0, 1, 95), (95, .ireturn, 1, 96), (96, .lload 14, 2, 98), (98, .lstore 8, 2, 100), (100, .lload 10, 2, 102), (102, .lstore 12, 2, 104), (104, .lload 18, 2, 106), (106, .lstore 10, 2, 108), (108, .lload 16, 2, 110), (110, .lstore 14, 2, 112), (112, .goto (-98), 3, 115)]
def M_M_isLess : zM := (⟨"CamPiecesModel", "isLess", "(JJJJ)Z"⟩, prog_10_method_21_code, 20, some .boolean, I_M_isLess)
def R_M_isLess : Room := { frames := 0, cells := 0, slots := 0, locals := 0 }
theorem D_M_isLess : zDec M_M_isLess := (by decide +kernel : ∀ q ∈ I_M_isLess, decode prog_10_method_21_code q.1 = .ok (q.2.1, q.2.2.1) ∧ q.1 + q.2.2.1 = q.2.2.2)
theorem C_M_isLess : zCs M_M_isLess 4 := ⟨⟨zTB_of 9 (by decide +kernel) rfl, zTB_of 1140 (by decide +kernel) rfl, by decide, by decide, by decide +kernel⟩, zTB_of 1139 (by decide +kernel) rfl⟩
def I_M_common : List (Nat × Instr × Nat × Nat) := [(0, .lload_n 0, 1, 1), (1, .invokestatic 137, 3, 4), (4, .lstore 4, 2, 6), (6, .lload_n 2, 1, 7), (7, .lstore 6, 2, 9), (9, .lload 6, 2, 11), (11, .lconst 0, 1, 12), (12, .lcmp, 1, 13), (13, .ifCond .eq 21, 3, 16), (16, .lload 4, 2, 18), (18, .lload 6, 2, 20), (20, .lrem, 1, 21), (21, .lstore 8, 2, 23), (23, .lload 6, 2, 25), (25, .lstore 4, 2, 27), (27, .lload 8, 2, 29), (29, .lstore 6, 2, 31), (31, .goto (-22), 3, 34), (34, .lload 4, 2, 36), (36, .lreturn, 1, 37)]
def M_M_common : zM := (⟨"CamPiecesModel", "common", "(JJ)J"⟩, prog_10_method_22_code, 10, some .long, I_M_common)
def R_M_common : Room := { frames := 1, cells := 0, slots := 0, locals := 24 }
theorem D_M_common : zDec M_M_common := (by decide +kernel : ∀ q ∈ I_M_common, decode prog_10_method_22_code q.1 = .ok (q.2.1, q.2.2.1) ∧ q.1 + q.2.2.1 = q.2.2.2)
theorem C_M_common : zCs M_M_common 2 := ⟨⟨zTB_of 9 (by decide +kernel) rfl, zTB_of 1107 (by decide +kernel) rfl, by decide, by decide, by decide +kernel⟩, zTB_of 1106 (by decide +kernel) rfl⟩
def I_M_lowest : List (Nat × Instr × Nat × Nat) := [(0, .iload 4, 2, 2), (2, .ifCond .ne 7, 3, 5), (5, .lload_n 0, 1, 6), (6, .goto 4, 3, 9), (9, .lload_n 2, 1, 10), (10, .lload_n 0, 1, 11), (11, .lload_n 2, 1, 12), (12, .invokestatic 140, 3, 15), (15, .ldiv, 1, 16), (16, .lreturn, 1, 17)]
def M_M_lowest : zM := (⟨"CamPiecesModel", "lowest", "(JJI)J"⟩, prog_10_method_23_code, 5, some .long, I_M_lowest)
def R_M_lowest : Room := { frames := 2, cells := 0, slots := 0, locals := 53 }
theorem D_M_lowest : zDec M_M_lowest := (by decide +kernel : ∀ q ∈ I_M_lowest, decode prog_10_method_23_code q.1 = .ok (q.2.1, q.2.2.1) ∧ q.1 + q.2.2.1 = q.2.2.2)
theorem C_M_lowest : zCs M_M_lowest 3 := ⟨⟨zTB_of 9 (by decide +kernel) rfl, zTB_of 1104 (by decide +kernel) rfl, by decide, by decide, by decide +kernel⟩, zTB_of 1103 (by decide +kernel) rfl⟩
def I_M_fifth : List (Nat × Instr × Nat × Nat) := [(0, .lload_n 0, 1, 1), (1, .lload_n 0, 1, 2), (2, .lmul, 1, 3), (3, .lload_n 0, 1, 4), (4, .lmul, 1, 5), (5, .lload_n 0, 1, 6), (6, .lmul, 1, 7), (7, .lload_n 0, 1, 8), (8, .lmul, 1, 9), (9, .lreturn, 1, 10)]
def M_M_fifth : zM := (⟨"CamPiecesModel", "fifth", "(J)J"⟩, prog_10_method_24_code, 2, some .long, I_M_fifth)
def R_M_fifth : Room := { frames := 0, cells := 0, slots := 0, locals := 0 }
theorem D_M_fifth : zDec M_M_fifth := (by decide +kernel : ∀ q ∈ I_M_fifth, decode prog_10_method_24_code q.1 = .ok (q.2.1, q.2.2.1) ∧ q.1 + q.2.2.1 = q.2.2.2)
theorem C_M_fifth : zCs M_M_fifth 1 := ⟨⟨zTB_of 9 (by decide +kernel) rfl, zTB_of 1081 (by decide +kernel) rfl, by decide, by decide, by decide +kernel⟩, zTB_of 1080 (by decide +kernel) rfl⟩
def I_M_share : List (Nat × Instr × Nat × Nat) := [(0, .iload_n 0, 1, 1), (1, .tableswitch 134 1 5 #[35, 45, 55, 73, 97], 35, 36), (36, .lload_n 1, 1, 37), (37, .lload_n 3, 1, 38), (38, .lmul, 1, 39), (39, .lload_n 3, 1, 40), (40, .lmul, 1, 41), (41, .lload_n 3, 1, 42), (42, .lmul, 1, 43), (43, .lload_n 3, 1, 44), (44, .lmul, 1, 45), (45, .lreturn, 1, 46), (46, .lload_n 1, 1, 47), (47, .lload_n 1, 1, 48), (48, .lmul, 1, 49), (49, .lload_n 3, 1, 50), (50, .lmul, 1, 51), (51, .lload_n 3, 1, 52), (52, .lmul, 1, 53), (53, .lload_n 3, 1, 54), (54, .lmul, 1, 55), (55, .lreturn, 1, 56), (56, .ldc2_w 108, 3, 59), (59, .lload_n 1, 1, 60), (60, .lmul, 1, 61), (61, .lload_n 3, 1, 62), (62, .lmul, 1, 63), (63, .lload_n 1, 1, 64), (64, .lload_n 1, 1, 65), (65, .lmul, 1, 66), (66, .lsub, 1, 67), (67, .lload_n 3, 1, 68), (68, .lmul, 1, 69), (69, .lload_n 3, 1, 70), (70, .lmul, 1, 71), (71, .lload_n 3, 1, 72), (72, .lmul, 1, 73), (73, .lreturn, 1, 74), (74, .ldc2_w 144, 3, 77), (77, .lload_n 1, 1, 78), (78, .lmul, 1, 79), (79, .lload_n 1, 1, 80), (80, .lmul, 1, 81), (81, .lload_n 3, 1, 82), (82, .lmul, 1, 83), (83, .ldc2_w 108, 3, 86), (86, .lload_n 1, 1, 87), (87, .lmul, 1, 88), (88, .lload_n 1, 1, 89), (89, .lmul, 1, 90), (90, .lload_n 1, 1, 91), (91, .lmul, 1, 92), (92, .lsub, 1, 93), (93, .lload_n 3, 1, 94), (94, .lmul, 1, 95), (95, .lload_n 3, 1, 96), (96, .lmul, 1, 97), (97, .lreturn, 1, 98), (98, .ldc2_w 146, 3, 101), (101, .lload_n 1, 1, 102), (102, .lmul, 1, 103), (103, .lload_n 1, 1, 104), (104, .lmul, 1, 105), (105, .lload_n 1, 1, 106), (106, .lmul, 1, 107), (107, .lload_n 3, 1, 108), (108, .lmul, 1, 109), (109, .lload_n 3, 1, 110), (110, .lmul, 1, 111), (111, .ldc2_w 148, 3, 114), (114, .lload_n 1, 1, 115), (115, .lmul, 1, 116), (116, .lload_n 1, 1, 117), (117, .lmul, 1, 118), (118, .lload_n 1, 1, 119), (119, .lmul, 1, 120), (120, .lload_n 1, 1, 121), (121, .lmul, 1, 122), (122, .lload_n 3, 1, 123), (123, .lmul, 1, 124), (124, .lsub, 1, 125), (125, .ldc2_w 150, 3, 128), (128, .lload_n 1, 1, 129), (129, .invokestatic 152, 3, 132), (132, .lmul, 1, 133), (133, .ladd, 1, 134), (134, .lreturn, 1, 135), (135, .lconst 0, 1, 136), (136, .lreturn, 1, 137)]
def M_M_share : zM := (⟨"CamPiecesModel", "share", "(IJJ)J"⟩, prog_10_method_25_code, 5, some .long, I_M_share)
def R_M_share : Room := { frames := 1, cells := 0, slots := 0, locals := 21 }
theorem D_M_share : zDec M_M_share := (by decide +kernel : ∀ q ∈ I_M_share, decode prog_10_method_25_code q.1 = .ok (q.2.1, q.2.2.1) ∧ q.1 + q.2.2.1 = q.2.2.2)
theorem C_M_share : zCs M_M_share 3 := ⟨⟨zTB_of 9 (by decide +kernel) rfl, zTB_of 1084 (by decide +kernel) rfl, by decide, by decide, by decide +kernel⟩, zTB_of 1083 (by decide +kernel) rfl⟩
def I_M_shareSlope : List (Nat × Instr × Nat × Nat) := [(0, .iload_n 0, 1, 1), (1, .tableswitch 99 1 5 #[35, 43, 55, 69, 83], 35, 36), (36, .lload_n 3, 1, 37), (37, .lload_n 3, 1, 38), (38, .lmul, 1, 39), (39, .lload_n 3, 1, 40), (40, .lmul, 1, 41), (41, .lload_n 3, 1, 42), (42, .lmul, 1, 43), (43, .lreturn, 1, 44), (44, .ldc2_w 108, 3, 47), (47, .lload_n 1, 1, 48), (48, .lmul, 1, 49), (49, .lload_n 3, 1, 50), (50, .lmul, 1, 51), (51, .lload_n 3, 1, 52), (52, .lmul, 1, 53), (53, .lload_n 3, 1, 54), (54, .lmul, 1, 55), (55, .lreturn, 1, 56), (56, .ldc2_w 108, 3, 59), (59, .lload_n 3, 1, 60), (60, .lload_n 1, 1, 61), (61, .lsub, 1, 62), (62, .lmul, 1, 63), (63, .lload_n 3, 1, 64), (64, .lmul, 1, 65), (65, .lload_n 3, 1, 66), (66, .lmul, 1, 67), (67, .lload_n 3, 1, 68), (68, .lmul, 1, 69), (69, .lreturn, 1, 70), (70, .ldc2_w 150, 3, 73), (73, .lload_n 1, 1, 74), (74, .lmul, 1, 75), (75, .lload_n 3, 1, 76), (76, .lload_n 1, 1, 77), (77, .lsub, 1, 78), (78, .lmul, 1, 79), (79, .lload_n 3, 1, 80), (80, .lmul, 1, 81), (81, .lload_n 3, 1, 82), (82, .lmul, 1, 83), (83, .lreturn, 1, 84), (84, .ldc2_w 155, 3, 87), (87, .lload_n 1, 1, 88), (88, .lmul, 1, 89), (89, .lload_n 1, 1, 90), (90, .lmul, 1, 91), (91, .lload_n 3, 1, 92), (92, .lload_n 1, 1, 93), (93, .lsub, 1, 94), (94, .lmul, 1, 95), (95, .lload_n 3, 1, 96), (96, .lload_n 1, 1, 97), (97, .lsub, 1, 98), (98, .lmul, 1, 99), (99, .lreturn, 1, 100), (100, .lconst 0, 1, 101), (101, .lreturn, 1, 102)]
def M_M_shareSlope : zM := (⟨"CamPiecesModel", "shareSlope", "(IJJ)J"⟩, prog_10_method_26_code, 5, some .long, I_M_shareSlope)
def R_M_shareSlope : Room := { frames := 0, cells := 0, slots := 0, locals := 0 }
theorem D_M_shareSlope : zDec M_M_shareSlope := (by decide +kernel : ∀ q ∈ I_M_shareSlope, decode prog_10_method_26_code q.1 = .ok (q.2.1, q.2.2.1) ∧ q.1 + q.2.2.1 = q.2.2.2)
theorem C_M_shareSlope : zCs M_M_shareSlope 3 := ⟨⟨zTB_of 9 (by decide +kernel) rfl, zTB_of 1091 (by decide +kernel) rfl, by decide, by decide, by decide +kernel⟩, zTB_of 1090 (by decide +kernel) rfl⟩
def I_M_shareBend : List (Nat × Instr × Nat × Nat) := [(0, .iload_n 0, 1, 1), (1, .tableswitch 97 2 5 #[31, 41, 51, 67], 31, 32), (32, .ldc2_w 108, 3, 35), (35, .lload_n 3, 1, 36), (36, .lmul, 1, 37), (37, .lload_n 3, 1, 38), (38, .lmul, 1, 39), (39, .lload_n 3, 1, 40), (40, .lmul, 1, 41), (41, .lreturn, 1, 42), (42, .ldc2_w 157, 3, 45), (45, .lload_n 3, 1, 46), (46, .lmul, 1, 47), (47, .lload_n 3, 1, 48), (48, .lmul, 1, 49), (49, .lload_n 3, 1, 50), (50, .lmul, 1, 51), (51, .lreturn, 1, 52), (52, .ldc2_w 150, 3, 55), (55, .lload_n 3, 1, 56), (56, .lmul, 1, 57), (57, .ldc2_w 159, 3, 60), (60, .lload_n 1, 1, 61), (61, .lmul, 1, 62), (62, .lsub, 1, 63), (63, .lload_n 3, 1, 64), (64, .lmul, 1, 65), (65, .lload_n 3, 1, 66), (66, .lmul, 1, 67), (67, .lreturn, 1, 68), (68, .ldc2_w 161, 3, 71), (71, .lload_n 1, 1, 72), (72, .lmul, 1, 73), (73, .lload_n 3, 1, 74), (74, .lmul, 1, 75), (75, .lload_n 3, 1, 76), (76, .lmul, 1, 77), (77, .ldc2_w 163, 3, 80), (80, .lload_n 1, 1, 81), (81, .lmul, 1, 82), (82, .lload_n 1, 1, 83), (83, .lmul, 1, 84), (84, .lload_n 3, 1, 85), (85, .lmul, 1, 86), (86, .lsub, 1, 87), (87, .ldc2_w 165, 3, 90), (90, .lload_n 1, 1, 91), (91, .lmul, 1, 92), (92, .lload_n 1, 1, 93), (93, .lmul, 1, 94), (94, .lload_n 1, 1, 95), (95, .lmul, 1, 96), (96, .ladd, 1, 97), (97, .lreturn, 1, 98), (98, .lconst 0, 1, 99), (99, .lreturn, 1, 100)]
def M_M_shareBend : zM := (⟨"CamPiecesModel", "shareBend", "(IJJ)J"⟩, prog_10_method_27_code, 5, some .long, I_M_shareBend)
def R_M_shareBend : Room := { frames := 0, cells := 0, slots := 0, locals := 0 }
theorem D_M_shareBend : zDec M_M_shareBend := (by decide +kernel : ∀ q ∈ I_M_shareBend, decode prog_10_method_27_code q.1 = .ok (q.2.1, q.2.2.1) ∧ q.1 + q.2.2.1 = q.2.2.2)
theorem C_M_shareBend : zCs M_M_shareBend 3 := ⟨⟨zTB_of 9 (by decide +kernel) rfl, zTB_of 1095 (by decide +kernel) rfl, by decide, by decide, by decide +kernel⟩, zTB_of 1094 (by decide +kernel) rfl⟩
def I_M_isAngle : List (Nat × Instr × Nat × Nat) := [(0, .aload_n 0, 1, 1), (1, .getfield 77, 3, 4), (4, .ifCond .le 21, 3, 7), (7, .iload_n 1, 1, 8), (8, .i2l, 1, 9), (9, .lconst 0, 1, 10), (10, .aload_n 0, 1, 11), (11, .invokevirtual 88, 3, 14), (14, .i2l, 1, 15), (15, .invokestatic 80, 3, 18), (18, .ifCond .eq 7, 3, 21), (21, .iconst 1, 1, 22), (22, .goto 4, 3, 25), (25, .iconst 0, 1, 26), (26, .ireturn, 1, 27)]
def M_M_isAngle : zM := (⟨"CamPiecesModel", "isAngle", "(I)Z"⟩, prog_10_method_28_code, 2, some .boolean, I_M_isAngle)
def R_M_isAngle : Room := { frames := 1, cells := 0, slots := 0, locals := 25 }
theorem D_M_isAngle : zDec M_M_isAngle := (by decide +kernel : ∀ q ∈ I_M_isAngle, decode prog_10_method_28_code q.1 = .ok (q.2.1, q.2.2.1) ∧ q.1 + q.2.2.1 = q.2.2.2)
theorem C_M_isAngle : zCv M_M_isAngle 1 := ⟨⟨zTB_of 9 (by decide +kernel) rfl, zTB_of 1078 (by decide +kernel) rfl, by decide, by decide, by decide +kernel⟩, zTB_of 1077 (by decide +kernel) rfl, zTB_ofS 43 (by decide +kernel) rfl⟩
def I_M_finds : List (Nat × Instr × Nat × Nat) := [(0, .aload_n 0, 1, 1), (1, .iload_n 1, 1, 2), (2, .invokevirtual 167, 3, 5), (5, .ifCond .eq 13, 3, 8), (8, .iload_n 2, 1, 9), (9, .i2l, 1, 10), (10, .lconst 0, 1, 11), (11, .lconst 1, 1, 12), (12, .invokestatic 80, 3, 15), (15, .ifCond .ne 5, 3, 18), (18, .iconst 0, 1, 19), (19, .ireturn, 1, 20), (20, .iload_n 2, 1, 21), (21, .ifCond .ne 7, 3, 24), (24, .iload_n 1, 1, 25), (25, .ifCond .eq 16, 3, 28), (28, .iload_n 2, 1, 29), (29, .iconst 1, 1, 30), (30, .if_icmp .ne 62, 3, 33), (33, .iload_n 1, 1, 34), (34, .aload_n 0, 1, 35), (35, .invokevirtual 88, 3, 38), (38, .if_icmp .ne 54, 3, 41), (41, .aload_n 0, 1, 42), (42, .invokevirtual 119, 3, 45), (45, .ifCond .ne 5, 3, 48), (48, .iconst 0, 1, 49), (49, .ireturn, 1, 50), (50, .aload_n 0, 1, 51), (51, .iload_n 2, 1, 52), (52, .ifCond .ne 12, 3, 55), (55, .aload_n 0, 1, 56), (56, .getfield 77, 3, 59), (59, .iconst 1, 1, 60), (60, .isub, 1, 61), (61, .goto 4, 3, 64), (64, .iconst 0, 1, 65), (65, .putfield 170, 3, 68), (68, .aload_n 0, 1, 69), (69, .iload_n 2, 1, 70), (70, .ifCond .ne 15, 3, 73), (73, .aload_n 0, 1, 74), (74, .getfield 15, 3, 77), (77, .aload_n 0, 1, 78), (78, .getfield 170, 3, 81), (81, .iaload, 1, 82), (82, .goto 4, 3, 85), (85, .iconst 0, 1, 86), (86, .putfield 173, 3, 89), (89, .goto 81, 3, 92), (92, .aload_n 0, 1, 93), (93, .iconst 0, 1, 94), (94, .putfield 170, 3, 97), (97, .aload_n 0, 1, 98), (98, .iload_n 1, 1, 99), (99, .putfield 173, 3, 102), (102, .aload_n 0, 1, 103), (103, .getfield 173, 3, 106), (106, .aload_n 0, 1, 107), (107, .getfield 15, 3, 110), (110, .aload_n 0, 1, 111), (111, .getfield 170, 3, 114), (114, .iaload, 1, 115), (115, .if_icmp .gt 24, 3, 118), (118, .iload_n 2, 1, 119), (119, .iconst 1, 1, 120), (120, .if_icmp .ne 50, 3, 123), (123, .aload_n 0, 1, 124), (124, .getfield 173, 3, 127), (127, .aload_n 0, 1, 128), (128, .getfield 15, 3, 131), (131, .aload_n 0, 1, 132), (132, .getfield 170, 3, 135), (135, .iaload, 1, 136), (136, .if_icmp .ne 34, 3, 139), (139, .aload_n 0, 1, 140), (140, .dup, 1, 141), (141, .getfield 173, 3, 144), (144, .aload_n 0, 1, 145), (145, .getfield 15, 3, 148), (148, .aload_n 0, 1, 149), (149, .getfield 170, 3, 152), (152, .iaload, 1, 153), (153, .isub, 1, 154), (154, .putfield 173, 3, 157), (157, .aload_n 0, 1, 158), (158, .dup, 1, 159), (159, .getfield 170, 3, 162), (162, .iconst 1, 1, 163), (163, .iadd, 1, 164), (164, .putfield 170, 3, 167), (167, .goto (-65), 3, 170), (170, .iconst 1, 1, 171), (171, .ireturn, 1, 172)]
def M_M_finds : zM := (⟨"CamPiecesModel", "finds", "(II)Z"⟩, prog_10_method_29_code, 3, some .boolean, I_M_finds)
def R_M_finds : Room := { frames := 2, cells := 0, slots := 0, locals := 46 }
theorem D_M_finds : zDec M_M_finds := (by decide +kernel : ∀ q ∈ I_M_finds, decode prog_10_method_29_code q.1 = .ok (q.2.1, q.2.2.1) ∧ q.1 + q.2.2.1 = q.2.2.2)
theorem C_M_finds : zCv M_M_finds 2 := ⟨⟨zTB_of 9 (by decide +kernel) rfl, zTB_of 1074 (by decide +kernel) rfl, by decide, by decide, by decide +kernel⟩, zTB_of 1073 (by decide +kernel) rfl, zTB_ofS 42 (by decide +kernel) rfl⟩
def I_M_looks : List (Nat × Instr × Nat × Nat) := [(0, .aload_n 0, 1, 1), (1, .iload_n 1, 1, 2), (2, .iload_n 2, 1, 3), (3, .invokevirtual 176, 3, 6), (6, .ifCond .ne 5, 3, 9), (9, .iconst 0, 1, 10), (10, .ireturn, 1, 11), (11, .aload_n 0, 1, 12), (12, .getfield 15, 3, 15), (15, .aload_n 0, 1, 16), (16, .getfield 170, 3, 19), (19, .iaload, 1, 20), (20, .istore_n 3, 1, 21), (21, .aload_n 0, 1, 22), (22, .iload_n 3, 1, 23), (23, .i2l, 1, 24), (24, .invokestatic 152, 3, 27), (27, .putfield 179, 3, 30), (30, .aload_n 0, 1, 31), (31, .aload_n 0, 1, 32), (32, .aload_n 0, 1, 33), (33, .getfield 170, 3, 36), (36, .invokevirtual 92, 3, 39), (39, .i2l, 1, 40), (40, .aload_n 0, 1, 41), (41, .getfield 179, 3, 44), (44, .lmul, 1, 45), (45, .aload_n 0, 1, 46), (46, .getfield 18, 3, 49), (49, .aload_n 0, 1, 50), (50, .getfield 170, 3, 53), (53, .iaload, 1, 54), (54, .i2l, 1, 55), (55, .aload_n 0, 1, 56), (56, .getfield 11, 3, 59), (59, .aload_n 0, 1, 60), (60, .getfield 170, 3, 63), (63, .iaload, 1, 64), (64, .aload_n 0, 1, 65), (65, .getfield 173, 3, 68), (68, .i2l, 1, 69), (69, .iload_n 3, 1, 70), (70, .i2l, 1, 71), (71, .invokestatic 183, 3, 74), (74, .lmul, 1, 75), (75, .ladd, 1, 76), (76, .putfield 187, 3, 79), (79, .aload_n 0, 1, 80), (80, .aload_n 0, 1, 81), (81, .getfield 18, 3, 84), (84, .aload_n 0, 1, 85), (85, .getfield 170, 3, 88), (88, .iaload, 1, 89), (89, .i2l, 1, 90), (90, .aload_n 0, 1, 91), (91, .getfield 11, 3, 94), (94, .aload_n 0, 1, 95), (95, .getfield 170, 3, 98), (98, .iaload, 1, 99), (99, .aload_n 0, 1, 100), (100, .getfield 173, 3, 103), (103, .i2l, 1, 104), (104, .iload_n 3, 1, 105), (105, .i2l, 1, 106), (106, .invokestatic 190, 3, 109), (109, .lmul, 1, 110), (110, .putfield 193, 3, 113), (113, .aload_n 0, 1, 114), (114, .aload_n 0, 1, 115), (115, .getfield 18, 3, 118), (118, .aload_n 0, 1, 119), (119, .getfield 170, 3, 122), (122, .iaload, 1, 123), (123, .i2l, 1, 124), (124, .aload_n 0, 1, 125), (125, .getfield 11, 3, 128), (128, .aload_n 0, 1, 129), (129, .getfield 170, 3, 132), (132, .iaload, 1, 133), (133, .aload_n 0, 1, 134), (134, .getfield 173, 3, 137), (137, .i2l, 1, 138), (138, .iload_n 3, 1, 139), (139, .i2l, 1, 140), (140, .invokestatic 196, 3, 143), (143, .lmul, 1, 144), (144, .putfield 199, 3, 147), (147, .iconst 1, 1, 148), (148, .ireturn, 1, 149)]
def M_M_looks : zM := (⟨"CamPiecesModel", "looks", "(II)Z"⟩, prog_10_method_30_code, 4, some .boolean, I_M_looks)
def R_M_looks : Room := { frames := 3, cells := 0, slots := 0, locals := 68 }
theorem D_M_looks : zDec M_M_looks := (by decide +kernel : ∀ q ∈ I_M_looks, decode prog_10_method_30_code q.1 = .ok (q.2.1, q.2.2.1) ∧ q.1 + q.2.2.1 = q.2.2.2)
theorem C_M_looks : zCv M_M_looks 2 := ⟨⟨zTB_of 9 (by decide +kernel) rfl, zTB_of 1070 (by decide +kernel) rfl, by decide, by decide, by decide +kernel⟩, zTB_of 1069 (by decide +kernel) rfl, zTB_ofS 41 (by decide +kernel) rfl⟩
def I_M_at : List (Nat × Instr × Nat × Nat) := [(0, .iload_n 3, 1, 1), (1, .i2l, 1, 2), (2, .lconst 0, 1, 3), (3, .ldc2_w 108, 3, 6), (6, .invokestatic 80, 3, 9), (9, .ifCond .eq 23, 3, 12), (12, .iload 4, 2, 14), (14, .i2l, 1, 15), (15, .lconst 0, 1, 16), (16, .lconst 1, 1, 17), (17, .invokestatic 80, 3, 20), (20, .ifCond .eq 12, 3, 23), (23, .aload_n 0, 1, 24), (24, .iload_n 1, 1, 25), (25, .iload_n 2, 1, 26), (26, .invokevirtual 202, 3, 29), (29, .ifCond .ne 7, 3, 32), (32, .ldc2_w 205, 3, 35), (35, .lreturn, 1, 36), (36, .iload_n 3, 1, 37), (37, .ifCond .ne 10, 3, 40), (40, .aload_n 0, 1, 41), (41, .getfield 187, 3, 44), (44, .goto 19, 3, 47), (47, .iload_n 3, 1, 48), (48, .iconst 1, 1, 49), (49, .if_icmp .ne 10, 3, 52), (52, .aload_n 0, 1, 53), (53, .getfield 193, 3, 56), (56, .goto 7, 3, 59), (59, .aload_n 0, 1, 60), (60, .getfield 199, 3, 63), (63, .aload_n 0, 1, 64), (64, .getfield 179, 3, 67), (67, .iload 4, 2, 69), (69, .invokestatic 207, 3, 72), (72, .lreturn, 1, 73)]
def M_M_at : zM := (⟨"CamPiecesModel", "at", "(IIII)J"⟩, prog_10_method_31_code, 5, some .long, I_M_at)
def R_M_at : Room := { frames := 4, cells := 0, slots := 0, locals := 91 }
theorem D_M_at : zDec M_M_at := (by decide +kernel : ∀ q ∈ I_M_at, decode prog_10_method_31_code q.1 = .ok (q.2.1, q.2.2.1) ∧ q.1 + q.2.2.1 = q.2.2.2)
theorem C_M_at : zCv M_M_at 4 := ⟨⟨zTB_of 9 (by decide +kernel) rfl, zTB_of 1066 (by decide +kernel) rfl, by decide, by decide, by decide +kernel⟩, zTB_of 1064 (by decide +kernel) rfl, zTB_of 1065 (by decide +kernel) rfl⟩
def I_M_isJoin : List (Nat × Instr × Nat × Nat) := [(0, .iload_n 1, 1, 1), (1, .ifCond .ne 10, 3, 4), (4, .aload_n 0, 1, 5), (5, .invokevirtual 119, 3, 8), (8, .goto 8, 3, 11), (11, .aload_n 0, 1, 12), (12, .iload_n 1, 1, 13), (13, .invokevirtual 104, 3, 16), (16, .ireturn, 1, 17)]
def M_M_isJoin : zM := (⟨"CamPiecesModel", "isJoin", "(I)Z"⟩, prog_10_method_32_code, 2, some .boolean, I_M_isJoin)
def R_M_isJoin : Room := { frames := 2, cells := 0, slots := 0, locals := 46 }
theorem D_M_isJoin : zDec M_M_isJoin := (by decide +kernel : ∀ q ∈ I_M_isJoin, decode prog_10_method_32_code q.1 = .ok (q.2.1, q.2.2.1) ∧ q.1 + q.2.2.1 = q.2.2.2)
theorem C_M_isJoin : zCv M_M_isJoin 1 := ⟨⟨zTB_of 9 (by decide +kernel) rfl, zTB_of 1116 (by decide +kernel) rfl, by decide, by decide, by decide +kernel⟩, zTB_of 1115 (by decide +kernel) rfl, zTB_ofS 44 (by decide +kernel) rfl⟩
def I_M_jumps : List (Nat × Instr × Nat × Nat) := [(0, .aload_n 0, 1, 1), (1, .iload_n 1, 1, 2), (2, .invokevirtual 116, 3, 5), (5, .istore_n 3, 1, 6), (6, .aload_n 0, 1, 7), (7, .iload_n 3, 1, 8), (8, .iconst 0, 1, 9), (9, .invokevirtual 202, 3, 12), (12, .istore 4, 2, 14), (14, .iload_n 2, 1, 15), (15, .ifCond .ne 10, 3, 18), (18, .aload_n 0, 1, 19), (19, .getfield 193, 3, 22), (22, .goto 7, 3, 25), (25, .aload_n 0, 1, 26), (26, .getfield 199, 3, 29), (29, .lstore 5, 2, 31), (31, .lload 5, 2, 33), (33, .aload_n 0, 1, 34), (34, .getfield 179, 3, 37), (37, .iconst 0, 1, 38), (38, .invokestatic 207, 3, 41), (41, .lstore 7, 2, 43), (43, .lload 5, 2, 45), (45, .aload_n 0, 1, 46), (46, .getfield 179, 3, 49), (49, .iconst 1, 1, 50), (50, .invokestatic 207, 3, 53), (53, .lstore 9, 2, 55), (55, .aload_n 0, 1, 56), (56, .iload_n 3, 1, 57), (57, .iconst 1, 1, 58), (58, .invokevirtual 202, 3, 61), (61, .istore 4, 2, 63), (63, .iload_n 2, 1, 64), (64, .ifCond .ne 10, 3, 67), (67, .aload_n 0, 1, 68), (68, .getfield 193, 3, 71), (71, .goto 7, 3, 74), (74, .aload_n 0, 1, 75), (75, .getfield 199, 3, 78), (78, .lstore 11, 2, 80), (80, .lload 11, 2, 82), (82, .aload_n 0, 1, 83), (83, .getfield 179, 3, 86), (86, .iconst 0, 1, 87), (87, .invokestatic 207, 3, 90), (90, .lstore 13, 2, 92), (92, .lload 11, 2, 94), (94, .aload_n 0, 1, 95), (95, .getfield 179, 3, 98), (98, .iconst 1, 1, 99), (99, .invokestatic 207, 3, 102), (102, .lstore 15, 2, 104), (104, .aload_n 0, 1, 105), (105, .lload 13, 2, 107), (107, .lload 9, 2, 109), (109, .lmul, 1, 110), (110, .lload 7, 2, 112), (112, .lload 15, 2, 114), (114, .lmul, 1, 115), (115, .lsub, 1, 116), (116, .putfield 211, 3, 119), (119, .aload_n 0, 1, 120), (120, .lload 9, 2, 122), (122, .lload 15, 2, 124), (124, .lmul, 1, 125), (125, .putfield 214, 3, 128), (128, .return_, 1, 129)]
def M_M_jumps : zM := (⟨"CamPiecesModel", "jumps", "(II)V"⟩, prog_10_method_33_code, 17, none, I_M_jumps)
def R_M_jumps : Room := { frames := 4, cells := 0, slots := 0, locals := 91 }
theorem D_M_jumps : zDec M_M_jumps := (by decide +kernel : ∀ q ∈ I_M_jumps, decode prog_10_method_33_code q.1 = .ok (q.2.1, q.2.2.1) ∧ q.1 + q.2.2.1 = q.2.2.2)
theorem C_M_jumps : zCv M_M_jumps 2 := ⟨⟨zTB_of 9 (by decide +kernel) rfl, zTB_of 1120 (by decide +kernel) rfl, by decide, by decide, by decide +kernel⟩, zTB_of 1119 (by decide +kernel) rfl, zTB_ofS 45 (by decide +kernel) rfl⟩
def I_M_jump : List (Nat × Instr × Nat × Nat) := [(0, .aload_n 0, 1, 1), (1, .iload_n 1, 1, 2), (2, .invokevirtual 217, 3, 5), (5, .ifCond .eq 23, 3, 8), (8, .iload_n 2, 1, 9), (9, .i2l, 1, 10), (10, .lconst 0, 1, 11), (11, .lconst 1, 1, 12), (12, .invokestatic 80, 3, 15), (15, .ifCond .eq 13, 3, 18), (18, .iload_n 3, 1, 19), (19, .i2l, 1, 20), (20, .lconst 0, 1, 21), (21, .lconst 1, 1, 22), (22, .invokestatic 80, 3, 25), (25, .ifCond .ne 7, 3, 28), (28, .ldc2_w 205, 3, 31), (31, .lreturn, 1, 32), (32, .aload_n 0, 1, 33), (33, .iload_n 1, 1, 34), (34, .iload_n 2, 1, 35), (35, .invokevirtual 220, 3, 38), (38, .aload_n 0, 1, 39), (39, .getfield 211, 3, 42), (42, .aload_n 0, 1, 43), (43, .getfield 214, 3, 46), (46, .iload_n 3, 1, 47), (47, .invokestatic 207, 3, 50), (50, .lreturn, 1, 51)]
def M_M_jump : zM := (⟨"CamPiecesModel", "jump", "(III)J"⟩, prog_10_method_34_code, 4, some .long, I_M_jump)
def R_M_jump : Room := { frames := 5, cells := 0, slots := 0, locals := 127 }
theorem D_M_jump : zDec M_M_jump := (by decide +kernel : ∀ q ∈ I_M_jump, decode prog_10_method_34_code q.1 = .ok (q.2.1, q.2.2.1) ∧ q.1 + q.2.2.1 = q.2.2.2)
theorem C_M_jump : zCv M_M_jump 3 := ⟨⟨zTB_of 9 (by decide +kernel) rfl, zTB_of 1112 (by decide +kernel) rfl, by decide, by decide, by decide +kernel⟩, zTB_of 1110 (by decide +kernel) rfl, zTB_of 1111 (by decide +kernel) rfl⟩
def I_M_joinOf : List (Nat × Instr × Nat × Nat) := [(0, .aload_n 0, 1, 1), (1, .iload_n 1, 1, 2), (2, .iconst 0, 1, 3), (3, .invokevirtual 220, 3, 6), (6, .aload_n 0, 1, 7), (7, .getfield 211, 3, 10), (10, .lconst 0, 1, 11), (11, .lcmp, 1, 12), (12, .ifCond .eq 5, 3, 15), (15, .iconst 0, 1, 16), (16, .ireturn, 1, 17), (17, .aload_n 0, 1, 18), (18, .iload_n 1, 1, 19), (19, .iconst 1, 1, 20), (20, .invokevirtual 220, 3, 23), (23, .aload_n 0, 1, 24), (24, .getfield 211, 3, 27), (27, .lconst 0, 1, 28), (28, .lcmp, 1, 29), (29, .ifCond .eq 7, 3, 32), (32, .iconst 1, 1, 33), (33, .goto 4, 3, 36), (36, .iconst 2, 1, 37), (37, .ireturn, 1, 38)]
def M_M_joinOf : zM := (⟨"CamPiecesModel", "joinOf", "(I)I"⟩, prog_10_method_35_code, 2, some .int, I_M_joinOf)
def R_M_joinOf : Room := { frames := 5, cells := 0, slots := 0, locals := 127 }
theorem D_M_joinOf : zDec M_M_joinOf := (by decide +kernel : ∀ q ∈ I_M_joinOf, decode prog_10_method_35_code q.1 = .ok (q.2.1, q.2.2.1) ∧ q.1 + q.2.2.1 = q.2.2.2)
theorem C_M_joinOf : zCv M_M_joinOf 1 := ⟨⟨zTB_of 9 (by decide +kernel) rfl, zTB_of 1128 (by decide +kernel) rfl, by decide, by decide, by decide +kernel⟩, zTB_of 1127 (by decide +kernel) rfl, zTB_ofS 46 (by decide +kernel) rfl⟩
def I_M_join : List (Nat × Instr × Nat × Nat) := [(0, .aload_n 0, 1, 1), (1, .iload_n 1, 1, 2), (2, .invokevirtual 217, 3, 5), (5, .ifCond .eq 11, 3, 8), (8, .aload_n 0, 1, 9), (9, .iload_n 1, 1, 10), (10, .invokevirtual 224, 3, 13), (13, .goto 4, 3, 16), (16, .iconst (-1), 1, 17), (17, .ireturn, 1, 18)]
def M_M_join : zM := (⟨"CamPiecesModel", "join", "(I)I"⟩, prog_10_method_36_code, 2, some .int, I_M_join)
def R_M_join : Room := { frames := 6, cells := 0, slots := 0, locals := 148 }
theorem D_M_join : zDec M_M_join := (by decide +kernel : ∀ q ∈ I_M_join, decode prog_10_method_36_code q.1 = .ok (q.2.1, q.2.2.1) ∧ q.1 + q.2.2.1 = q.2.2.2)
theorem C_M_join : zCv M_M_join 1 := ⟨⟨zTB_of 9 (by decide +kernel) rfl, zTB_of 1124 (by decide +kernel) rfl, by decide, by decide, by decide +kernel⟩, zTB_of 1122 (by decide +kernel) rfl, zTB_of 1123 (by decide +kernel) rfl⟩
def I_M_joins : List (Nat × Instr × Nat × Nat) := [(0, .iload_n 1, 1, 1), (1, .i2l, 1, 2), (2, .lconst 0, 1, 3), (3, .ldc2_w 108, 3, 6), (6, .invokestatic 80, 3, 9), (9, .ifCond .ne 5, 3, 12), (12, .iconst (-1), 1, 13), (13, .ireturn, 1, 14), (14, .iconst 0, 1, 15), (15, .istore_n 2, 1, 16), (16, .iconst 0, 1, 17), (17, .istore_n 3, 1, 18), (18, .iload_n 3, 1, 19), (19, .aload_n 0, 1, 20), (20, .getfield 77, 3, 23), (23, .if_icmp .ge 32, 3, 26), (26, .aload_n 0, 1, 27), (27, .iload_n 3, 1, 28), (28, .invokevirtual 217, 3, 31), (31, .ifCond .eq 18, 3, 34), (34, .aload_n 0, 1, 35), (35, .iload_n 3, 1, 36), (36, .invokevirtual 224, 3, 39), (39, .iload_n 1, 1, 40), (40, .if_icmp .ne 9, 3, 43), (43, .iload_n 2, 1, 44), (44, .iconst 1, 1, 45), (45, .iload_n 3, 1, 46), (46, .ishl, 1, 47), (47, .ior, 1, 48), (48, .istore_n 2, 1, 49), (49, .iinc 3 1, 3, 52), (52, .goto (-34), 3, 55), (55, .iload_n 2, 1, 56), (56, .ireturn, 1, 57)]
def M_M_joins : zM := (⟨"CamPiecesModel", "joins", "(I)I"⟩, prog_10_method_37_code, 4, some .int, I_M_joins)
def R_M_joins : Room := { frames := 6, cells := 0, slots := 0, locals := 148 }
theorem D_M_joins : zDec M_M_joins := (by decide +kernel : ∀ q ∈ I_M_joins, decode prog_10_method_37_code q.1 = .ok (q.2.1, q.2.2.1) ∧ q.1 + q.2.2.1 = q.2.2.2)
theorem C_M_joins : zCv M_M_joins 1 := ⟨⟨zTB_of 9 (by decide +kernel) rfl, zTB_of 1132 (by decide +kernel) rfl, by decide, by decide, by decide +kernel⟩, zTB_of 1130 (by decide +kernel) rfl, zTB_of 1131 (by decide +kernel) rfl⟩
def I_M_extreme : List (Nat × Instr × Nat × Nat) := [(0, .iload_n 1, 1, 1), (1, .i2l, 1, 2), (2, .lconst 0, 1, 3), (3, .lconst 1, 1, 4), (4, .invokestatic 80, 3, 7), (7, .ifCond .ne 5, 3, 10), (10, .iconst (-1), 1, 11), (11, .ireturn, 1, 12), (12, .aload_n 0, 1, 13), (13, .getfield 77, 3, 16), (16, .ifCond .ne 6, 3, 19), (19, .bipush (-5), 2, 21), (21, .ireturn, 1, 22), (22, .iconst 0, 1, 23), (23, .istore_n 2, 1, 24), (24, .lconst 0, 1, 25), (25, .lstore_n 3, 1, 26), (26, .lconst 1, 1, 27), (27, .lstore 5, 2, 29), (29, .iconst 0, 1, 30), (30, .istore 7, 2, 32), (32, .iload 7, 2, 34), (34, .aload_n 0, 1, 35), (35, .invokevirtual 88, 3, 38), (38, .if_icmp .gt 115, 3, 41), (41, .aload_n 0, 1, 42), (42, .iload 7, 2, 44), (44, .iload 7, 2, 46), (46, .ifCond .ne 7, 3, 49), (49, .iconst 1, 1, 50), (50, .goto 4, 3, 53), (53, .iconst 0, 1, 54), (54, .invokevirtual 202, 3, 57), (57, .ifCond .ne 6, 3, 60), (60, .goto 87, 3, 63), (63, .aload_n 0, 1, 64), (64, .getfield 187, 3, 67), (67, .ldc2_w 227, 3, 70), (70, .aload_n 0, 1, 71), (71, .getfield 179, 3, 74), (74, .lmul, 1, 75), (75, .ladd, 1, 76), (76, .lstore 8, 2, 78), (78, .iload 7, 2, 80), (80, .ifCond .eq 40, 3, 83), (83, .iload_n 1, 1, 84), (84, .ifCond .ne 21, 3, 87), (87, .lload_n 3, 1, 88), (88, .lload 5, 2, 90), (90, .lload 8, 2, 92), (92, .aload_n 0, 1, 93), (93, .getfield 179, 3, 96), (96, .invokestatic 229, 3, 99), (99, .ifCond .eq 25, 3, 102), (102, .goto 18, 3, 105), (105, .lload 8, 2, 107), (107, .aload_n 0, 1, 108), (108, .getfield 179, 3, 111), (111, .lload_n 3, 1, 112), (112, .lload 5, 2, 114), (114, .invokestatic 229, 3, 117), (117, .ifCond .eq 7, 3, 120), (120, .iconst 1, 1, 121), (121, .goto 4, 3, 124), (124, .iconst 0, 1, 125), (125, .istore 10, 2, 127), (127, .iload 10, 2, 129), (129, .ifCond .ne 6, 3, 132), (132, .goto 15, 3, 135), (135, .iload 7, 2, 137), (137, .istore_n 2, 1, 138), (138, .lload 8, 2, 140), (140, .lstore_n 3, 1, 141), (141, .aload_n 0, 1, 142), (142, .getfield 179, 3, 145), (145, .lstore 5, 2, 147), (147, .iinc 7 1, 3, 150), (150, .goto (-118), 3, 153), (153, .iload_n 2, 1, 154), (154, .ireturn, 1, 155)]
def M_M_extreme : zM := (⟨"CamPiecesModel", "extreme", "(I)I"⟩, prog_10_method_38_code, 11, some .int, I_M_extreme)
def R_M_extreme : Room := { frames := 4, cells := 0, slots := 0, locals := 91 }
theorem D_M_extreme : zDec M_M_extreme := (by decide +kernel : ∀ q ∈ I_M_extreme, decode prog_10_method_38_code q.1 = .ok (q.2.1, q.2.2.1) ∧ q.1 + q.2.2.1 = q.2.2.2)
theorem C_M_extreme : zCv M_M_extreme 1 := ⟨⟨zTB_of 9 (by decide +kernel) rfl, zTB_of 1136 (by decide +kernel) rfl, by decide, by decide, by decide +kernel⟩, zTB_of 1134 (by decide +kernel) rfl, zTB_of 1135 (by decide +kernel) rfl⟩
def I_M_curveNow : List (Nat × Instr × Nat × Nat) := [(0, .aload_n 0, 1, 1), (1, .getfield 21, 3, 4), (4, .iconst 0, 1, 5), (5, .iaload, 1, 6), (6, .i2l, 1, 7), (7, .aload_n 0, 1, 8), (8, .getfield 179, 3, 11), (11, .lmul, 1, 12), (12, .aload_n 0, 1, 13), (13, .getfield 187, 3, 16), (16, .ladd, 1, 17), (17, .ldc2_w 233, 3, 20), (20, .aload_n 0, 1, 21), (21, .getfield 199, 3, 24), (24, .lmul, 1, 25), (25, .ladd, 1, 26), (26, .lreturn, 1, 27)]
def M_M_curveNow : zM := (⟨"CamPiecesModel", "curveNow", "()J"⟩, prog_10_method_39_code, 1, some .long, I_M_curveNow)
def R_M_curveNow : Room := { frames := 0, cells := 0, slots := 0, locals := 0 }
theorem D_M_curveNow : zDec M_M_curveNow := (by decide +kernel : ∀ q ∈ I_M_curveNow, decode prog_10_method_39_code q.1 = .ok (q.2.1, q.2.2.1) ∧ q.1 + q.2.2.1 = q.2.2.2)
theorem C_M_curveNow : zCv M_M_curveNow 0 := ⟨⟨zTB_of 9 (by decide +kernel) rfl, zTB_of 1148 (by decide +kernel) rfl, by decide, by decide, by decide +kernel⟩, zTB_of 1147 (by decide +kernel) rfl, zTB_ofS 47 (by decide +kernel) rfl⟩
def I_M_forceNow : List (Nat × Instr × Nat × Nat) := [(0, .aload_n 0, 1, 1), (1, .getfield 21, 3, 4), (4, .iconst 3, 1, 5), (5, .iaload, 1, 6), (6, .i2l, 1, 7), (7, .aload_n 0, 1, 8), (8, .getfield 179, 3, 11), (11, .lmul, 1, 12), (12, .iload_n 1, 1, 13), (13, .i2l, 1, 14), (14, .aload_n 0, 1, 15), (15, .getfield 187, 3, 18), (18, .lmul, 1, 19), (19, .ladd, 1, 20), (20, .ldc2_w 233, 3, 23), (23, .aload_n 0, 1, 24), (24, .getfield 21, 3, 27), (27, .iconst 1, 1, 28), (28, .iaload, 1, 29), (29, .i2l, 1, 30), (30, .lmul, 1, 31), (31, .iload_n 2, 1, 32), (32, .i2l, 1, 33), (33, .lmul, 1, 34), (34, .iload_n 2, 1, 35), (35, .i2l, 1, 36), (36, .lmul, 1, 37), (37, .aload_n 0, 1, 38), (38, .getfield 199, 3, 41), (41, .lmul, 1, 42), (42, .ladd, 1, 43), (43, .lreturn, 1, 44)]
def M_M_forceNow : zM := (⟨"CamPiecesModel", "forceNow", "(II)J"⟩, prog_10_method_40_code, 3, some .long, I_M_forceNow)
def R_M_forceNow : Room := { frames := 0, cells := 0, slots := 0, locals := 0 }
theorem D_M_forceNow : zDec M_M_forceNow := (by decide +kernel : ∀ q ∈ I_M_forceNow, decode prog_10_method_40_code q.1 = .ok (q.2.1, q.2.2.1) ∧ q.1 + q.2.2.1 = q.2.2.2)
theorem C_M_forceNow : zCv M_M_forceNow 2 := ⟨⟨zTB_of 9 (by decide +kernel) rfl, zTB_of 1162 (by decide +kernel) rfl, by decide, by decide, by decide +kernel⟩, zTB_of 1161 (by decide +kernel) rfl, zTB_ofS 48 (by decide +kernel) rfl⟩
def I_M_curve : List (Nat × Instr × Nat × Nat) := [(0, .iload_n 3, 1, 1), (1, .i2l, 1, 2), (2, .lconst 0, 1, 3), (3, .lconst 1, 1, 4), (4, .invokestatic 80, 3, 7), (7, .ifCond .eq 27, 3, 10), (10, .aload_n 0, 1, 11), (11, .iload_n 1, 1, 12), (12, .iload_n 2, 1, 13), (13, .invokevirtual 202, 3, 16), (16, .ifCond .eq 18, 3, 19), (19, .aload_n 0, 1, 20), (20, .invokevirtual 235, 3, 23), (23, .aload_n 0, 1, 24), (24, .getfield 179, 3, 27), (27, .iload_n 3, 1, 28), (28, .invokestatic 207, 3, 31), (31, .goto 6, 3, 34), (34, .ldc2_w 205, 3, 37), (37, .lreturn, 1, 38)]
def M_M_curve : zM := (⟨"CamPiecesModel", "curve", "(III)J"⟩, prog_10_method_41_code, 4, some .long, I_M_curve)
def R_M_curve : Room := { frames := 4, cells := 0, slots := 0, locals := 91 }
theorem D_M_curve : zDec M_M_curve := (by decide +kernel : ∀ q ∈ I_M_curve, decode prog_10_method_41_code q.1 = .ok (q.2.1, q.2.2.1) ∧ q.1 + q.2.2.1 = q.2.2.2)
theorem C_M_curve : zCv M_M_curve 3 := ⟨⟨zTB_of 9 (by decide +kernel) rfl, zTB_of 1144 (by decide +kernel) rfl, by decide, by decide, by decide +kernel⟩, zTB_of 1142 (by decide +kernel) rfl, zTB_of 1143 (by decide +kernel) rfl⟩
def I_M_pressure : List (Nat × Instr × Nat × Nat) := [(0, .iload_n 3, 1, 1), (1, .i2l, 1, 2), (2, .lconst 0, 1, 3), (3, .lconst 1, 1, 4), (4, .invokestatic 80, 3, 7), (7, .ifCond .eq 12, 3, 10), (10, .aload_n 0, 1, 11), (11, .iload_n 1, 1, 12), (12, .iload_n 2, 1, 13), (13, .invokevirtual 202, 3, 16), (16, .ifCond .ne 7, 3, 19), (19, .ldc2_w 205, 3, 22), (22, .lreturn, 1, 23), (23, .aload_n 0, 1, 24), (24, .getfield 21, 3, 27), (27, .iconst 0, 1, 28), (28, .iaload, 1, 29), (29, .i2l, 1, 30), (30, .aload_n 0, 1, 31), (31, .getfield 179, 3, 34), (34, .lmul, 1, 35), (35, .aload_n 0, 1, 36), (36, .getfield 187, 3, 39), (39, .ladd, 1, 40), (40, .lstore 4, 2, 42), (42, .lload 4, 2, 44), (44, .lconst 0, 1, 45), (45, .lcmp, 1, 46), (46, .ifCond .gt 9, 3, 49), (49, .ldc2_w 205, 3, 52), (52, .goto 17, 3, 55), (55, .ldc2_w 239, 3, 58), (58, .aload_n 0, 1, 59), (59, .getfield 193, 3, 62), (62, .lmul, 1, 63), (63, .lload 4, 2, 65), (65, .iload_n 3, 1, 66), (66, .invokestatic 207, 3, 69), (69, .lreturn, 1, 70)]
def M_M_pressure : zM := (⟨"CamPiecesModel", "pressure", "(III)J"⟩, prog_10_method_42_code, 6, some .long, I_M_pressure)
def R_M_pressure : Room := { frames := 4, cells := 0, slots := 0, locals := 91 }
theorem D_M_pressure : zDec M_M_pressure := (by decide +kernel : ∀ q ∈ I_M_pressure, decode prog_10_method_42_code q.1 = .ok (q.2.1, q.2.2.1) ∧ q.1 + q.2.2.1 = q.2.2.2)
theorem C_M_pressure : zCv M_M_pressure 3 := ⟨⟨zTB_of 9 (by decide +kernel) rfl, zTB_of 1153 (by decide +kernel) rfl, by decide, by decide, by decide +kernel⟩, zTB_of 1151 (by decide +kernel) rfl, zTB_of 1152 (by decide +kernel) rfl⟩
def I_M_force : List (Nat × Instr × Nat × Nat) := [(0, .iload_n 3, 1, 1), (1, .i2l, 1, 2), (2, .lconst 0, 1, 3), (3, .lconst 1, 1, 4), (4, .invokestatic 80, 3, 7), (7, .ifCond .eq 39, 3, 10), (10, .aload_n 0, 1, 11), (11, .iload_n 1, 1, 12), (12, .iload_n 2, 1, 13), (13, .invokevirtual 202, 3, 16), (16, .ifCond .eq 30, 3, 19), (19, .aload_n 0, 1, 20), (20, .aload_n 0, 1, 21), (21, .getfield 21, 3, 24), (24, .iconst 2, 1, 25), (25, .iaload, 1, 26), (26, .aload_n 0, 1, 27), (27, .getfield 21, 3, 30), (30, .iconst 4, 1, 31), (31, .iaload, 1, 32), (32, .invokevirtual 241, 3, 35), (35, .aload_n 0, 1, 36), (36, .getfield 179, 3, 39), (39, .iload_n 3, 1, 40), (40, .invokestatic 207, 3, 43), (43, .goto 6, 3, 46), (46, .ldc2_w 205, 3, 49), (49, .lreturn, 1, 50)]
def M_M_force : zM := (⟨"CamPiecesModel", "force", "(III)J"⟩, prog_10_method_43_code, 4, some .long, I_M_force)
def R_M_force : Room := { frames := 4, cells := 0, slots := 0, locals := 91 }
theorem D_M_force : zDec M_M_force := (by decide +kernel : ∀ q ∈ I_M_force, decode prog_10_method_43_code q.1 = .ok (q.2.1, q.2.2.1) ∧ q.1 + q.2.2.1 = q.2.2.2)
theorem C_M_force : zCv M_M_force 3 := ⟨⟨zTB_of 9 (by decide +kernel) rfl, zTB_of 1158 (by decide +kernel) rfl, by decide, by decide, by decide +kernel⟩, zTB_of 1156 (by decide +kernel) rfl, zTB_of 1157 (by decide +kernel) rfl⟩
def I_M_isSo : List (Nat × Instr × Nat × Nat) := [(0, .iconst 0, 1, 1), (1, .istore_n 3, 1, 2), (2, .iload_n 3, 1, 3), (3, .iconst 2, 1, 4), (4, .if_icmp .ge 52, 3, 7), (7, .aload_n 0, 1, 8), (8, .iload_n 1, 1, 9), (9, .iload_n 3, 1, 10), (10, .invokevirtual 202, 3, 13), (13, .ifCond .eq 37, 3, 16), (16, .iload_n 2, 1, 17), (17, .ifCond .ne 10, 3, 20), (20, .aload_n 0, 1, 21), (21, .invokevirtual 235, 3, 24), (24, .goto 19, 3, 27), (27, .aload_n 0, 1, 28), (28, .aload_n 0, 1, 29), (29, .getfield 21, 3, 32), (32, .iconst 2, 1, 33), (33, .iaload, 1, 34), (34, .aload_n 0, 1, 35), (35, .getfield 21, 3, 38), (38, .iconst 4, 1, 39), (39, .iaload, 1, 40), (40, .invokevirtual 241, 3, 43), (43, .lconst 0, 1, 44), (44, .lcmp, 1, 45), (45, .ifCond .gt 5, 3, 48), (48, .iconst 1, 1, 49), (49, .ireturn, 1, 50), (50, .iinc 3 1, 3, 53), (53, .goto (-51), 3, 56), (56, .iconst 0, 1, 57), (57, .ireturn, 1, 58)]
def M_M_isSo : zM := (⟨"CamPiecesModel", "isSo", "(II)Z"⟩, prog_10_method_44_code, 4, some .boolean, I_M_isSo)
def R_M_isSo : Room := { frames := 4, cells := 0, slots := 0, locals := 91 }
theorem D_M_isSo : zDec M_M_isSo := (by decide +kernel : ∀ q ∈ I_M_isSo, decode prog_10_method_44_code q.1 = .ok (q.2.1, q.2.2.1) ∧ q.1 + q.2.2.1 = q.2.2.2)
theorem C_M_isSo : zCv M_M_isSo 2 := ⟨⟨zTB_of 9 (by decide +kernel) rfl, zTB_of 1170 (by decide +kernel) rfl, by decide, by decide, by decide +kernel⟩, zTB_of 1169 (by decide +kernel) rfl, zTB_ofS 49 (by decide +kernel) rfl⟩
def I_M_count : List (Nat × Instr × Nat × Nat) := [(0, .iload_n 1, 1, 1), (1, .i2l, 1, 2), (2, .lconst 0, 1, 3), (3, .lconst 1, 1, 4), (4, .invokestatic 80, 3, 7), (7, .ifCond .ne 5, 3, 10), (10, .iconst (-1), 1, 11), (11, .ireturn, 1, 12), (12, .iconst 0, 1, 13), (13, .istore_n 2, 1, 14), (14, .iconst 0, 1, 15), (15, .istore_n 3, 1, 16), (16, .iload_n 3, 1, 17), (17, .aload_n 0, 1, 18), (18, .invokevirtual 88, 3, 21), (21, .if_icmp .gt 21, 3, 24), (24, .aload_n 0, 1, 25), (25, .iload_n 3, 1, 26), (26, .iload_n 1, 1, 27), (27, .invokevirtual 245, 3, 30), (30, .ifCond .eq 6, 3, 33), (33, .iinc 2 1, 3, 36), (36, .iinc 3 1, 3, 39), (39, .goto (-23), 3, 42), (42, .iload_n 2, 1, 43), (43, .ireturn, 1, 44)]
def M_M_count : zM := (⟨"CamPiecesModel", "count", "(I)I"⟩, prog_10_method_45_code, 4, some .int, I_M_count)
def R_M_count : Room := { frames := 5, cells := 0, slots := 0, locals := 114 }
theorem D_M_count : zDec M_M_count := (by decide +kernel : ∀ q ∈ I_M_count, decode prog_10_method_45_code q.1 = .ok (q.2.1, q.2.2.1) ∧ q.1 + q.2.2.1 = q.2.2.2)
theorem C_M_count : zCv M_M_count 1 := ⟨⟨zTB_of 9 (by decide +kernel) rfl, zTB_of 1166 (by decide +kernel) rfl, by decide, by decide, by decide +kernel⟩, zTB_of 1164 (by decide +kernel) rfl, zTB_of 1165 (by decide +kernel) rfl⟩
def I_M_justAbove : List (Nat × Instr × Nat × Nat) := [(0, .lload_n 0, 1, 1), (1, .lload_n 2, 1, 2), (2, .invokestatic 248, 3, 5), (5, .lconst 1, 1, 6), (6, .ladd, 1, 7), (7, .lreturn, 1, 8)]
def M_M_justAbove : zM := (⟨"CamPiecesModel", "justAbove", "(JJ)J"⟩, prog_10_method_46_code, 4, some .long, I_M_justAbove)
def R_M_justAbove : Room := { frames := 1, cells := 0, slots := 0, locals := 25 }
theorem D_M_justAbove : zDec M_M_justAbove := (by decide +kernel : ∀ q ∈ I_M_justAbove, decode prog_10_method_46_code q.1 = .ok (q.2.1, q.2.2.1) ∧ q.1 + q.2.2.1 = q.2.2.2)
theorem C_M_justAbove : zCs M_M_justAbove 2 := ⟨⟨zTB_of 9 (by decide +kernel) rfl, zTB_of 1181 (by decide +kernel) rfl, by decide, by decide, by decide +kernel⟩, zTB_of 1180 (by decide +kernel) rfl⟩
def I_M_leastAbove : List (Nat × Instr × Nat × Nat) := [(0, .iload_n 1, 1, 1), (1, .ifCond .eq 7, 3, 4), (4, .lconst 1, 1, 5), (5, .goto 4, 3, 8), (8, .lconst 0, 1, 9), (9, .lstore_n 2, 1, 10), (10, .iconst 0, 1, 11), (11, .istore 4, 2, 13), (13, .iload 4, 2, 15), (15, .aload_n 0, 1, 16), (16, .invokevirtual 88, 3, 19), (19, .if_icmp .gt 108, 3, 22), (22, .iconst 0, 1, 23), (23, .istore 5, 2, 25), (25, .iload 5, 2, 27), (27, .iconst 2, 1, 28), (28, .if_icmp .ge 93, 3, 31), (31, .aload_n 0, 1, 32), (32, .iload 4, 2, 34), (34, .iload 5, 2, 36), (36, .invokevirtual 202, 3, 39), (39, .ifCond .ne 6, 3, 42), (42, .goto 73, 3, 45), (45, .iload_n 1, 1, 46), (46, .ifCond .eq 23, 3, 49), (49, .aload_n 0, 1, 50), (50, .invokevirtual 235, 3, 53), (53, .aload_n 0, 1, 54), (54, .getfield 21, 3, 57), (57, .iconst 0, 1, 58), (58, .iaload, 1, 59), (59, .i2l, 1, 60), (60, .aload_n 0, 1, 61), (61, .getfield 179, 3, 64), (64, .lmul, 1, 65), (65, .lsub, 1, 66), (66, .goto 32, 3, 69), (69, .aload_n 0, 1, 70), (70, .aload_n 0, 1, 71), (71, .getfield 21, 3, 74), (74, .iconst 2, 1, 75), (75, .iaload, 1, 76), (76, .aload_n 0, 1, 77), (77, .getfield 21, 3, 80), (80, .iconst 4, 1, 81), (81, .iaload, 1, 82), (82, .invokevirtual 241, 3, 85), (85, .aload_n 0, 1, 86), (86, .getfield 21, 3, 89), (89, .iconst 3, 1, 90), (90, .iaload, 1, 91), (91, .i2l, 1, 92), (92, .aload_n 0, 1, 93), (93, .getfield 179, 3, 96), (96, .lmul, 1, 97), (97, .lsub, 1, 98), (98, .lstore 6, 2, 100), (100, .lload_n 2, 1, 101), (101, .lload 6, 2, 103), (103, .lneg, 1, 104), (104, .aload_n 0, 1, 105), (105, .getfield 179, 3, 108), (108, .invokestatic 251, 3, 111), (111, .invokestatic 254, 3, 114), (114, .lstore_n 2, 1, 115), (115, .iinc 5 1, 3, 118), (118, .goto (-93), 3, 121), (121, .iinc 4 1, 3, 124), (124, .goto (-111), 3, 127), (127, .lload_n 2, 1, 128), (128, .iload_n 1, 1, 129), (129, .ifCond .eq 9, 3, 132), (132, .ldc2_w 257, 3, 135), (135, .goto 6, 3, 138), (138, .ldc2_w 259, 3, 141), (141, .lcmp, 1, 142), (142, .ifCond .le 8, 3, 145), (145, .bipush (-5), 2, 147), (147, .goto 5, 3, 150), (150, .lload_n 2, 1, 151), (151, .l2i, 1, 152), (152, .ireturn, 1, 153)]
def M_M_leastAbove : zM := (⟨"CamPiecesModel", "leastAbove", "(Z)I"⟩, prog_10_method_47_code, 8, some .int, I_M_leastAbove)
def R_M_leastAbove : Room := { frames := 4, cells := 0, slots := 0, locals := 91 }
theorem D_M_leastAbove : zDec M_M_leastAbove := (by decide +kernel : ∀ q ∈ I_M_leastAbove, decode prog_10_method_47_code q.1 = .ok (q.2.1, q.2.2.1) ∧ q.1 + q.2.2.1 = q.2.2.2)
theorem C_M_leastAbove : zCv M_M_leastAbove 1 := ⟨⟨zTB_of 9 (by decide +kernel) rfl, zTB_of 1178 (by decide +kernel) rfl, by decide, by decide, by decide +kernel⟩, zTB_of 1177 (by decide +kernel) rfl, zTB_ofS 50 (by decide +kernel) rfl⟩
def I_M_leastRadius : List (Nat × Instr × Nat × Nat) := [(0, .aload_n 0, 1, 1), (1, .iconst 1, 1, 2), (2, .invokevirtual 261, 3, 5), (5, .ireturn, 1, 6)]
def M_M_leastRadius : zM := (⟨"CamPiecesModel", "leastRadius", "()I"⟩, prog_10_method_48_code, 1, some .int, I_M_leastRadius)
def R_M_leastRadius : Room := { frames := 5, cells := 0, slots := 0, locals := 118 }
theorem D_M_leastRadius : zDec M_M_leastRadius := (by decide +kernel : ∀ q ∈ I_M_leastRadius, decode prog_10_method_48_code q.1 = .ok (q.2.1, q.2.2.1) ∧ q.1 + q.2.2.1 = q.2.2.2)
theorem C_M_leastRadius : zCv M_M_leastRadius 0 := ⟨⟨zTB_of 9 (by decide +kernel) rfl, zTB_of 1174 (by decide +kernel) rfl, by decide, by decide, by decide +kernel⟩, zTB_of 1172 (by decide +kernel) rfl, zTB_of 1173 (by decide +kernel) rfl⟩
def I_M_leastPreload : List (Nat × Instr × Nat × Nat) := [(0, .aload_n 0, 1, 1), (1, .iconst 0, 1, 2), (2, .invokevirtual 261, 3, 5), (5, .ireturn, 1, 6)]
def M_M_leastPreload : zM := (⟨"CamPiecesModel", "leastPreload", "()I"⟩, prog_10_method_49_code, 1, some .int, I_M_leastPreload)
def R_M_leastPreload : Room := { frames := 5, cells := 0, slots := 0, locals := 118 }
theorem D_M_leastPreload : zDec M_M_leastPreload := (by decide +kernel : ∀ q ∈ I_M_leastPreload, decode prog_10_method_49_code q.1 = .ok (q.2.1, q.2.2.1) ∧ q.1 + q.2.2.1 = q.2.2.2)
theorem C_M_leastPreload : zCv M_M_leastPreload 0 := ⟨⟨zTB_of 9 (by decide +kernel) rfl, zTB_of 1189 (by decide +kernel) rfl, by decide, by decide, by decide +kernel⟩, zTB_of 1187 (by decide +kernel) rfl, zTB_of 1188 (by decide +kernel) rfl⟩
def I_M_steepest : List (Nat × Instr × Nat × Nat) := [(0, .bipush (-5), 2, 2), (2, .istore_n 1, 1, 3), (3, .lconst 0, 1, 4), (4, .lstore_n 2, 1, 5), (5, .lconst 1, 1, 6), (6, .lstore 4, 2, 8), (8, .iconst 0, 1, 9), (9, .istore 6, 2, 11), (11, .iload 6, 2, 13), (13, .aload_n 0, 1, 14), (14, .invokevirtual 88, 3, 17), (17, .if_icmp .gt 109, 3, 20), (20, .iconst 0, 1, 21), (21, .istore 7, 2, 23), (23, .iload 7, 2, 25), (25, .iconst 2, 1, 26), (26, .if_icmp .ge 94, 3, 29), (29, .aload_n 0, 1, 30), (30, .iload 6, 2, 32), (32, .iload 7, 2, 34), (34, .invokevirtual 202, 3, 37), (37, .ifCond .ne 6, 3, 40), (40, .goto 74, 3, 43), (43, .aload_n 0, 1, 44), (44, .getfield 21, 3, 47), (47, .iconst 0, 1, 48), (48, .iaload, 1, 49), (49, .i2l, 1, 50), (50, .aload_n 0, 1, 51), (51, .getfield 179, 3, 54), (54, .lmul, 1, 55), (55, .aload_n 0, 1, 56), (56, .getfield 187, 3, 59), (59, .ladd, 1, 60), (60, .lstore 8, 2, 62), (62, .ldc2_w 239, 3, 65), (65, .aload_n 0, 1, 66), (66, .getfield 193, 3, 69), (69, .invokestatic 137, 3, 72), (72, .lmul, 1, 73), (73, .lstore 10, 2, 75), (75, .lload 8, 2, 77), (77, .lconst 0, 1, 78), (78, .lcmp, 1, 79), (79, .ifCond .le 35, 3, 82), (82, .iload_n 1, 1, 83), (83, .bipush (-5), 2, 85), (85, .if_icmp .eq 19, 3, 88), (88, .lload_n 2, 1, 89), (89, .lload 4, 2, 91), (91, .lload 10, 2, 93), (93, .lload 8, 2, 95), (95, .invokestatic 229, 3, 98), (98, .ifCond .ne 6, 3, 101), (101, .goto 13, 3, 104), (104, .iload 6, 2, 106), (106, .istore_n 1, 1, 107), (107, .lload 10, 2, 109), (109, .lstore_n 2, 1, 110), (110, .lload 8, 2, 112), (112, .lstore 4, 2, 114), (114, .iinc 7 1, 3, 117), (117, .goto (-94), 3, 120), (120, .iinc 6 1, 3, 123), (123, .goto (-112), 3, 126), (126, .iload_n 1, 1, 127), (127, .ireturn, 1, 128)]
def M_M_steepest : zM := (⟨"CamPiecesModel", "steepest", "()I"⟩, prog_10_method_50_code, 12, some .int, I_M_steepest)
def R_M_steepest : Room := { frames := 4, cells := 0, slots := 0, locals := 91 }
theorem D_M_steepest : zDec M_M_steepest := (by decide +kernel : ∀ q ∈ I_M_steepest, decode prog_10_method_50_code q.1 = .ok (q.2.1, q.2.2.1) ∧ q.1 + q.2.2.1 = q.2.2.2)
theorem C_M_steepest : zCv M_M_steepest 0 := ⟨⟨zTB_of 9 (by decide +kernel) rfl, zTB_of 1193 (by decide +kernel) rfl, by decide, by decide, by decide +kernel⟩, zTB_of 1191 (by decide +kernel) rfl, zTB_of 1192 (by decide +kernel) rfl⟩
def I_M_isGentle : List (Nat × Instr × Nat × Nat) := [(0, .iload_n 1, 1, 1), (1, .i2l, 1, 2), (2, .aload_n 0, 1, 3), (3, .getfield 179, 3, 6), (6, .lmul, 1, 7), (7, .aload_n 0, 1, 8), (8, .getfield 187, 3, 11), (11, .ladd, 1, 12), (12, .lstore_n 3, 1, 13), (13, .lload_n 3, 1, 14), (14, .lconst 0, 1, 15), (15, .lcmp, 1, 16), (16, .ifCond .le 30, 3, 19), (19, .iload_n 2, 1, 20), (20, .i2l, 1, 21), (21, .ldc2_w 265, 3, 24), (24, .ldc2_w 239, 3, 27), (27, .aload_n 0, 1, 28), (28, .getfield 193, 3, 31), (31, .invokestatic 137, 3, 34), (34, .lmul, 1, 35), (35, .lload_n 3, 1, 36), (36, .invokestatic 229, 3, 39), (39, .ifCond .ne 7, 3, 42), (42, .iconst 1, 1, 43), (43, .goto 4, 3, 46), (46, .iconst 0, 1, 47), (47, .ireturn, 1, 48)]
def M_M_isGentle : zM := (⟨"CamPiecesModel", "isGentle", "(II)Z"⟩, prog_10_method_51_code, 5, some .boolean, I_M_isGentle)
def R_M_isGentle : Room := { frames := 1, cells := 0, slots := 0, locals := 39 }
theorem D_M_isGentle : zDec M_M_isGentle := (by decide +kernel : ∀ q ∈ I_M_isGentle, decode prog_10_method_51_code q.1 = .ok (q.2.1, q.2.2.1) ∧ q.1 + q.2.2.1 = q.2.2.2)
theorem C_M_isGentle : zCv M_M_isGentle 2 := ⟨⟨zTB_of 9 (by decide +kernel) rfl, zTB_of 1201 (by decide +kernel) rfl, by decide, by decide, by decide +kernel⟩, zTB_of 1200 (by decide +kernel) rfl, zTB_ofS 51 (by decide +kernel) rfl⟩
def I_M_gentle : List (Nat × Instr × Nat × Nat) := [(0, .iload_n 1, 1, 1), (1, .i2l, 1, 2), (2, .lconst 0, 1, 3), (3, .ldc2_w 257, 3, 6), (6, .invokestatic 80, 3, 9), (9, .ifCond .ne 6, 3, 12), (12, .bipush (-2), 2, 14), (14, .ireturn, 1, 15), (15, .iconst 1, 1, 16), (16, .istore_n 2, 1, 17), (17, .iconst 0, 1, 18), (18, .istore_n 3, 1, 19), (19, .iload_n 3, 1, 20), (20, .aload_n 0, 1, 21), (21, .invokevirtual 88, 3, 24), (24, .if_icmp .gt 60, 3, 27), (27, .iconst 0, 1, 28), (28, .istore 4, 2, 30), (30, .iload 4, 2, 32), (32, .iconst 2, 1, 33), (33, .if_icmp .ge 45, 3, 36), (36, .aload_n 0, 1, 37), (37, .iload_n 3, 1, 38), (38, .iload 4, 2, 40), (40, .invokevirtual 202, 3, 43), (43, .istore 5, 2, 45), (45, .iload 5, 2, 47), (47, .ifCond .eq 25, 3, 50), (50, .iload_n 2, 1, 51), (51, .sipush 999, 3, 54), (54, .if_icmp .gt 18, 3, 57), (57, .aload_n 0, 1, 58), (58, .iload_n 2, 1, 59), (59, .iload_n 1, 1, 60), (60, .invokevirtual 267, 3, 63), (63, .ifCond .ne 9, 3, 66), (66, .iinc 2 1, 3, 69), (69, .goto (-24), 3, 72), (72, .iinc 4 1, 3, 75), (75, .goto (-45), 3, 78), (78, .iinc 3 1, 3, 81), (81, .goto (-62), 3, 84), (84, .iload_n 2, 1, 85), (85, .sipush 999, 3, 88), (88, .if_icmp .le 8, 3, 91), (91, .bipush (-5), 2, 93), (93, .goto 4, 3, 96), (96, .iload_n 2, 1, 97), (97, .ireturn, 1, 98)]
def M_M_gentle : zM := (⟨"CamPiecesModel", "gentle", "(I)I"⟩, prog_10_method_52_code, 6, some .int, I_M_gentle)
def R_M_gentle : Room := { frames := 4, cells := 0, slots := 0, locals := 91 }
theorem D_M_gentle : zDec M_M_gentle := (by decide +kernel : ∀ q ∈ I_M_gentle, decode prog_10_method_52_code q.1 = .ok (q.2.1, q.2.2.1) ∧ q.1 + q.2.2.1 = q.2.2.2)
theorem C_M_gentle : zCv M_M_gentle 1 := ⟨⟨zTB_of 9 (by decide +kernel) rfl, zTB_of 1197 (by decide +kernel) rfl, by decide, by decide, by decide +kernel⟩, zTB_of 1195 (by decide +kernel) rfl, zTB_of 1196 (by decide +kernel) rfl⟩
def I_M_floatsAt : List (Nat × Instr × Nat × Nat) := [(0, .iconst 0, 1, 1), (1, .istore 4, 2, 3), (3, .iload 4, 2, 5), (5, .iconst 2, 1, 6), (6, .if_icmp .ge 32, 3, 9), (9, .aload_n 0, 1, 10), (10, .iload_n 1, 1, 11), (11, .iload 4, 2, 13), (13, .invokevirtual 202, 3, 16), (16, .ifCond .eq 16, 3, 19), (19, .aload_n 0, 1, 20), (20, .iload_n 2, 1, 21), (21, .iload_n 3, 1, 22), (22, .invokevirtual 241, 3, 25), (25, .lconst 0, 1, 26), (26, .lcmp, 1, 27), (27, .ifCond .gt 5, 3, 30), (30, .iconst 1, 1, 31), (31, .ireturn, 1, 32), (32, .iinc 4 1, 3, 35), (35, .goto (-32), 3, 38), (38, .iconst 0, 1, 39), (39, .ireturn, 1, 40)]
def M_M_floatsAt : zM := (⟨"CamPiecesModel", "floatsAt", "(III)Z"⟩, prog_10_method_53_code, 5, some .boolean, I_M_floatsAt)
def R_M_floatsAt : Room := { frames := 4, cells := 0, slots := 0, locals := 91 }
theorem D_M_floatsAt : zDec M_M_floatsAt := (by decide +kernel : ∀ q ∈ I_M_floatsAt, decode prog_10_method_53_code q.1 = .ok (q.2.1, q.2.2.1) ∧ q.1 + q.2.2.1 = q.2.2.2)
theorem C_M_floatsAt : zCv M_M_floatsAt 3 := ⟨⟨zTB_of 9 (by decide +kernel) rfl, zTB_of 1210 (by decide +kernel) rfl, by decide, by decide, by decide +kernel⟩, zTB_of 1209 (by decide +kernel) rfl, zTB_ofS 52 (by decide +kernel) rfl⟩
def I_M_floatsBy : List (Nat × Instr × Nat × Nat) := [(0, .iconst 0, 1, 1), (1, .istore_n 3, 1, 2), (2, .iload_n 3, 1, 3), (3, .aload_n 0, 1, 4), (4, .invokevirtual 88, 3, 7), (7, .if_icmp .gt 21, 3, 10), (10, .aload_n 0, 1, 11), (11, .iload_n 3, 1, 12), (12, .iload_n 1, 1, 13), (13, .iload_n 2, 1, 14), (14, .invokevirtual 270, 3, 17), (17, .ifCond .eq 5, 3, 20), (20, .iconst 1, 1, 21), (21, .ireturn, 1, 22), (22, .iinc 3 1, 3, 25), (25, .goto (-23), 3, 28), (28, .iconst 0, 1, 29), (29, .ireturn, 1, 30)]
def M_M_floatsBy : zM := (⟨"CamPiecesModel", "floatsBy", "(II)Z"⟩, prog_10_method_54_code, 4, some .boolean, I_M_floatsBy)
def R_M_floatsBy : Room := { frames := 5, cells := 0, slots := 0, locals := 115 }
theorem D_M_floatsBy : zDec M_M_floatsBy := (by decide +kernel : ∀ q ∈ I_M_floatsBy, decode prog_10_method_54_code q.1 = .ok (q.2.1, q.2.2.1) ∧ q.1 + q.2.2.1 = q.2.2.2)
theorem C_M_floatsBy : zCv M_M_floatsBy 2 := ⟨⟨zTB_of 9 (by decide +kernel) rfl, zTB_of 1218 (by decide +kernel) rfl, by decide, by decide, by decide +kernel⟩, zTB_of 1217 (by decide +kernel) rfl, zTB_ofS 53 (by decide +kernel) rfl⟩
def I_M_floating : List (Nat × Instr × Nat × Nat) := [(0, .iconst 0, 1, 1), (1, .istore_n 1, 1, 2), (2, .iload_n 1, 1, 3), (3, .aload_n 0, 1, 4), (4, .invokevirtual 88, 3, 7), (7, .if_icmp .gt 31, 3, 10), (10, .aload_n 0, 1, 11), (11, .iload_n 1, 1, 12), (12, .aload_n 0, 1, 13), (13, .getfield 21, 3, 16), (16, .iconst 2, 1, 17), (17, .iaload, 1, 18), (18, .aload_n 0, 1, 19), (19, .getfield 21, 3, 22), (22, .iconst 4, 1, 23), (23, .iaload, 1, 24), (24, .invokevirtual 270, 3, 27), (27, .ifCond .eq 5, 3, 30), (30, .iload_n 1, 1, 31), (31, .ireturn, 1, 32), (32, .iinc 1 1, 3, 35), (35, .goto (-33), 3, 38), (38, .bipush (-5), 2, 40), (40, .ireturn, 1, 41)]
def M_M_floating : zM := (⟨"CamPiecesModel", "floating", "()I"⟩, prog_10_method_55_code, 2, some .int, I_M_floating)
def R_M_floating : Room := { frames := 5, cells := 0, slots := 0, locals := 115 }
theorem D_M_floating : zDec M_M_floating := (by decide +kernel : ∀ q ∈ I_M_floating, decode prog_10_method_55_code q.1 = .ok (q.2.1, q.2.2.1) ∧ q.1 + q.2.2.1 = q.2.2.2)
theorem C_M_floating : zCv M_M_floating 0 := ⟨⟨zTB_of 9 (by decide +kernel) rfl, zTB_of 1206 (by decide +kernel) rfl, by decide, by decide, by decide +kernel⟩, zTB_of 1204 (by decide +kernel) rfl, zTB_of 1205 (by decide +kernel) rfl⟩
def I_M_leastStiff : List (Nat × Instr × Nat × Nat) := [(0, .iconst 0, 1, 1), (1, .istore_n 1, 1, 2), (2, .iload_n 1, 1, 3), (3, .bipush 99, 2, 5), (5, .if_icmp .gt 25, 3, 8), (8, .aload_n 0, 1, 9), (9, .iload_n 1, 1, 10), (10, .aload_n 0, 1, 11), (11, .getfield 21, 3, 14), (14, .iconst 4, 1, 15), (15, .iaload, 1, 16), (16, .invokevirtual 274, 3, 19), (19, .ifCond .ne 5, 3, 22), (22, .iload_n 1, 1, 23), (23, .ireturn, 1, 24), (24, .iinc 1 1, 3, 27), (27, .goto (-25), 3, 30), (30, .bipush (-5), 2, 32), (32, .ireturn, 1, 33)]
def M_M_leastStiff : zM := (⟨"CamPiecesModel", "leastStiff", "()I"⟩, prog_10_method_56_code, 2, some .int, I_M_leastStiff)
def R_M_leastStiff : Room := { frames := 6, cells := 0, slots := 0, locals := 138 }
theorem D_M_leastStiff : zDec M_M_leastStiff := (by decide +kernel : ∀ q ∈ I_M_leastStiff, decode prog_10_method_56_code q.1 = .ok (q.2.1, q.2.2.1) ∧ q.1 + q.2.2.1 = q.2.2.2)
theorem C_M_leastStiff : zCv M_M_leastStiff 0 := ⟨⟨zTB_of 9 (by decide +kernel) rfl, zTB_of 1214 (by decide +kernel) rfl, by decide, by decide, by decide +kernel⟩, zTB_of 1212 (by decide +kernel) rfl, zTB_of 1213 (by decide +kernel) rfl⟩
def I_M_fastest : List (Nat × Instr × Nat × Nat) := [(0, .bipush 30, 2, 2), (2, .istore_n 1, 1, 3), (3, .iload_n 1, 1, 4), (4, .ifCond .lt 25, 3, 7), (7, .aload_n 0, 1, 8), (8, .aload_n 0, 1, 9), (9, .getfield 21, 3, 12), (12, .iconst 2, 1, 13), (13, .iaload, 1, 14), (14, .iload_n 1, 1, 15), (15, .invokevirtual 274, 3, 18), (18, .ifCond .ne 5, 3, 21), (21, .iload_n 1, 1, 22), (22, .ireturn, 1, 23), (23, .iinc 1 (-1), 3, 26), (26, .goto (-23), 3, 29), (29, .bipush (-5), 2, 31), (31, .ireturn, 1, 32)]
def M_M_fastest : zM := (⟨"CamPiecesModel", "fastest", "()I"⟩, prog_10_method_57_code, 2, some .int, I_M_fastest)
def R_M_fastest : Room := { frames := 6, cells := 0, slots := 0, locals := 138 }
theorem D_M_fastest : zDec M_M_fastest := (by decide +kernel : ∀ q ∈ I_M_fastest, decode prog_10_method_57_code q.1 = .ok (q.2.1, q.2.2.1) ∧ q.1 + q.2.2.1 = q.2.2.2)
theorem C_M_fastest : zCv M_M_fastest 0 := ⟨⟨zTB_of 9 (by decide +kernel) rfl, zTB_of 1222 (by decide +kernel) rfl, by decide, by decide, by decide +kernel⟩, zTB_of 1220 (by decide +kernel) rfl, zTB_of 1221 (by decide +kernel) rfl⟩
def I_M_bits : List (Nat × Instr × Nat × Nat) := [(0, .iconst 0, 1, 1), (1, .istore_n 1, 1, 2), (2, .iconst 0, 1, 3), (3, .istore_n 2, 1, 4), (4, .iload_n 2, 1, 5), (5, .bipush 12, 2, 7), (7, .if_icmp .ge 17, 3, 10), (10, .iload_n 1, 1, 11), (11, .iload_n 0, 1, 12), (12, .iload_n 2, 1, 13), (13, .ishr, 1, 14), (14, .iconst 1, 1, 15), (15, .iand, 1, 16), (16, .iadd, 1, 17), (17, .istore_n 1, 1, 18), (18, .iinc 2 1, 3, 21), (21, .goto (-17), 3, 24), (24, .iload_n 1, 1, 25), (25, .ireturn, 1, 26)]
def M_M_bits : zM := (⟨"CamPiecesModel", "bits", "(I)I"⟩, prog_10_method_58_code, 3, some .int, I_M_bits)
def R_M_bits : Room := { frames := 0, cells := 0, slots := 0, locals := 0 }
theorem D_M_bits : zDec M_M_bits := (by decide +kernel : ∀ q ∈ I_M_bits, decode prog_10_method_58_code q.1 = .ok (q.2.1, q.2.2.1) ∧ q.1 + q.2.2.1 = q.2.2.2)
theorem C_M_bits : zCs M_M_bits 1 := ⟨⟨zTB_of 9 (by decide +kernel) rfl, zTB_of 1232 (by decide +kernel) rfl, by decide, by decide, by decide +kernel⟩, zTB_of 1231 (by decide +kernel) rfl⟩
def I_M_hasCorner : List (Nat × Instr × Nat × Nat) := [(0, .iconst 0, 1, 1), (1, .istore_n 1, 1, 2), (2, .iload_n 1, 1, 3), (3, .aload_n 0, 1, 4), (4, .getfield 77, 3, 7), (7, .if_icmp .ge 37, 3, 10), (10, .aload_n 0, 1, 11), (11, .iload_n 1, 1, 12), (12, .invokevirtual 217, 3, 15), (15, .ifCond .ne 6, 3, 18), (18, .goto 20, 3, 21), (21, .aload_n 0, 1, 22), (22, .iload_n 1, 1, 23), (23, .iconst 0, 1, 24), (24, .invokevirtual 220, 3, 27), (27, .aload_n 0, 1, 28), (28, .getfield 211, 3, 31), (31, .lconst 0, 1, 32), (32, .lcmp, 1, 33), (33, .ifCond .eq 5, 3, 36), (36, .iconst 1, 1, 37), (37, .ireturn, 1, 38), (38, .iinc 1 1, 3, 41), (41, .goto (-39), 3, 44), (44, .iconst 0, 1, 45), (45, .ireturn, 1, 46)]
def M_M_hasCorner : zM := (⟨"CamPiecesModel", "hasCorner", "()Z"⟩, prog_10_method_59_code, 2, some .boolean, I_M_hasCorner)
def R_M_hasCorner : Room := { frames := 5, cells := 0, slots := 0, locals := 127 }
theorem D_M_hasCorner : zDec M_M_hasCorner := (by decide +kernel : ∀ q ∈ I_M_hasCorner, decode prog_10_method_59_code q.1 = .ok (q.2.1, q.2.2.1) ∧ q.1 + q.2.2.1 = q.2.2.2)
theorem C_M_hasCorner : zCv M_M_hasCorner 0 := ⟨⟨zTB_of 9 (by decide +kernel) rfl, zTB_of 1236 (by decide +kernel) rfl, by decide, by decide, by decide +kernel⟩, zTB_of 1235 (by decide +kernel) rfl, zTB_ofS 54 (by decide +kernel) rfl⟩
def I_M_smoothed : List (Nat × Instr × Nat × Nat) := [(0, .aload_n 0, 1, 1), (1, .getfield 11, 3, 4), (4, .iconst 0, 1, 5), (5, .aload_n 0, 1, 6), (6, .getfield 30, 3, 9), (9, .iconst 0, 1, 10), (10, .bipush 12, 2, 12), (12, .invokestatic 277, 3, 15), (15, .bipush (-5), 2, 17), (17, .istore_n 1, 1, 18), (18, .iconst 0, 1, 19), (19, .istore_n 2, 1, 20), (20, .iload_n 2, 1, 21), (21, .iconst 1, 1, 22), (22, .aload_n 0, 1, 23), (23, .getfield 77, 3, 26), (26, .ishl, 1, 27), (27, .if_icmp .ge 138, 3, 30), (30, .iload_n 1, 1, 31), (31, .bipush (-5), 2, 33), (33, .if_icmp .eq 17, 3, 36), (36, .iload_n 2, 1, 37), (37, .invokestatic 283, 3, 40), (40, .iload_n 1, 1, 41), (41, .invokestatic 283, 3, 44), (44, .if_icmp .lt 6, 3, 47), (47, .goto 112, 3, 50), (50, .iconst 1, 1, 51), (51, .istore_n 3, 1, 52), (52, .iconst 0, 1, 53), (53, .istore 4, 2, 55), (55, .iload 4, 2, 57), (57, .aload_n 0, 1, 58), (58, .getfield 77, 3, 61), (61, .if_icmp .ge 85, 3, 64), (64, .iload_n 2, 1, 65), (65, .iload 4, 2, 67), (67, .ishr, 1, 68), (68, .iconst 1, 1, 69), (69, .iand, 1, 70), (70, .iconst 1, 1, 71), (71, .if_icmp .ne 7, 3, 74), (74, .iconst 1, 1, 75), (75, .goto 4, 3, 78), (78, .iconst 0, 1, 79), (79, .istore 5, 2, 81), (81, .iload_n 3, 1, 82), (82, .ifCond .eq 33, 3, 85), (85, .iload 5, 2, 87), (87, .ifCond .eq 24, 3, 90), (90, .aload_n 0, 1, 91), (91, .getfield 30, 3, 94), (94, .iload 4, 2, 96), (96, .iaload, 1, 97), (97, .ifCond .eq 18, 3, 100), (100, .aload_n 0, 1, 101), (101, .getfield 30, 3, 104), (104, .iload 4, 2, 106), (106, .iaload, 1, 107), (107, .iconst 5, 1, 108), (108, .if_icmp .eq 7, 3, 111), (111, .iconst 1, 1, 112), (112, .goto 4, 3, 115), (115, .iconst 0, 1, 116), (116, .istore_n 3, 1, 117), (117, .aload_n 0, 1, 118), (118, .getfield 11, 3, 121), (121, .iload 4, 2, 123), (123, .iload 5, 2, 125), (125, .ifCond .eq 7, 3, 128), (128, .iconst 5, 1, 129), (129, .goto 10, 3, 132), (132, .aload_n 0, 1, 133), (133, .getfield 30, 3, 136), (136, .iload 4, 2, 138), (138, .iaload, 1, 139), (139, .iastore, 1, 140), (140, .iinc 4 1, 3, 143), (143, .goto (-88), 3, 146), (146, .iload_n 3, 1, 147), (147, .ifCond .eq 12, 3, 150), (150, .aload_n 0, 1, 151), (151, .invokevirtual 286, 3, 154), (154, .ifCond .ne 5, 3, 157), (157, .iload_n 2, 1, 158), (158, .istore_n 1, 1, 159), (159, .iinc 2 1, 3, 162), (162, .goto (-142), 3, 165), (165, .aload_n 0, 1, 166), (166, .getfield 30, 3, 169), (169, .iconst 0, 1, 170), (170, .aload_n 0, 1, 171), (171, .getfield 11, 3, 174), (174, .iconst 0, 1, 175), (175, .bipush 12, 2, 177), (177, .invokestatic 277, 3, 180), (180, .iload_n 1, 1, 181), (181, .ireturn, 1, 182)]
def M_M_smoothed : zM := (⟨"CamPiecesModel", "smoothed", "()I"⟩, prog_10_method_60_code, 6, some .int, I_M_smoothed)
def R_M_smoothed : Room := { frames := 6, cells := 0, slots := 0, locals := 148 }
theorem D_M_smoothed : zDec M_M_smoothed := (by decide +kernel : ∀ q ∈ I_M_smoothed, decode prog_10_method_60_code q.1 = .ok (q.2.1, q.2.2.1) ∧ q.1 + q.2.2.1 = q.2.2.2)
theorem C_M_smoothed : zCv M_M_smoothed 0 := ⟨⟨zTB_of 9 (by decide +kernel) rfl, zTB_of 1226 (by decide +kernel) rfl, by decide, by decide, by decide +kernel⟩, zTB_of 1224 (by decide +kernel) rfl, zTB_of 1225 (by decide +kernel) rfl⟩
def I_M_nearest : List (Nat × Instr × Nat × Nat) := [(0, .ldc2_w 108, 3, 3), (3, .lload_n 0, 1, 4), (4, .lmul, 1, 5), (5, .lload_n 2, 1, 6), (6, .ladd, 1, 7), (7, .ldc2_w 108, 3, 10), (10, .lload_n 2, 1, 11), (11, .lmul, 1, 12), (12, .invokestatic 248, 3, 15), (15, .lreturn, 1, 16)]
def M_M_nearest : zM := (⟨"CamPiecesModel", "nearest", "(JJ)J"⟩, prog_10_method_61_code, 4, some .long, I_M_nearest)
def R_M_nearest : Room := { frames := 1, cells := 0, slots := 0, locals := 25 }
theorem D_M_nearest : zDec M_M_nearest := (by decide +kernel : ∀ q ∈ I_M_nearest, decode prog_10_method_61_code q.1 = .ok (q.2.1, q.2.2.1) ∧ q.1 + q.2.2.1 = q.2.2.2)
theorem C_M_nearest : zCs M_M_nearest 2 := ⟨⟨zTB_of 9 (by decide +kernel) rfl, zTB_of 1251 (by decide +kernel) rfl, by decide, by decide, by decide +kernel⟩, zTB_of 1250 (by decide +kernel) rfl⟩
def I_M_sampleOf : List (Nat × Instr × Nat × Nat) := [(0, .aload_n 0, 1, 1), (1, .getfield 15, 3, 4), (4, .iload_n 1, 1, 5), (5, .iaload, 1, 6), (6, .istore 5, 2, 8), (8, .aload_n 0, 1, 9), (9, .iload_n 1, 1, 10), (10, .invokevirtual 92, 3, 13), (13, .i2l, 1, 14), (14, .aload_n 0, 1, 15), (15, .getfield 21, 3, 18), (18, .iconst 5, 1, 19), (19, .iaload, 1, 20), (20, .i2l, 1, 21), (21, .lmul, 1, 22), (22, .iload 4, 2, 24), (24, .i2l, 1, 25), (25, .iload_n 3, 1, 26), (26, .iload_n 2, 1, 27), (27, .i2l, 1, 28), (28, .iload 5, 2, 30), (30, .i2l, 1, 31), (31, .invokestatic 183, 3, 34), (34, .lmul, 1, 35), (35, .aload_n 0, 1, 36), (36, .getfield 21, 3, 39), (39, .iconst 5, 1, 40), (40, .iaload, 1, 41), (41, .i2l, 1, 42), (42, .lmul, 1, 43), (43, .iload 5, 2, 45), (45, .i2l, 1, 46), (46, .invokestatic 152, 3, 49), (49, .invokestatic 289, 3, 52), (52, .ladd, 1, 53), (53, .lreturn, 1, 54)]
def M_M_sampleOf : zM := (⟨"CamPiecesModel", "sampleOf", "(IIII)J"⟩, prog_10_method_62_code, 6, some .long, I_M_sampleOf)
def R_M_sampleOf : Room := { frames := 2, cells := 0, slots := 0, locals := 48 }
theorem D_M_sampleOf : zDec M_M_sampleOf := (by decide +kernel : ∀ q ∈ I_M_sampleOf, decode prog_10_method_62_code q.1 = .ok (q.2.1, q.2.2.1) ∧ q.1 + q.2.2.1 = q.2.2.2)
theorem C_M_sampleOf : zCv M_M_sampleOf 4 := ⟨⟨zTB_of 9 (by decide +kernel) rfl, zTB_of 1248 (by decide +kernel) rfl, by decide, by decide, by decide +kernel⟩, zTB_of 1247 (by decide +kernel) rfl, zTB_ofS 56 (by decide +kernel) rfl⟩
def I_M_sampleAt : List (Nat × Instr × Nat × Nat) := [(0, .aload_n 0, 1, 1), (1, .iload_n 1, 1, 2), (2, .iload_n 1, 1, 3), (3, .ifCond .ne 7, 3, 6), (6, .iconst 1, 1, 7), (7, .goto 4, 3, 10), (10, .iconst 0, 1, 11), (11, .invokevirtual 176, 3, 14), (14, .istore_n 2, 1, 15), (15, .aload_n 0, 1, 16), (16, .aload_n 0, 1, 17), (17, .getfield 170, 3, 20), (20, .aload_n 0, 1, 21), (21, .getfield 173, 3, 24), (24, .aload_n 0, 1, 25), (25, .getfield 11, 3, 28), (28, .aload_n 0, 1, 29), (29, .getfield 170, 3, 32), (32, .iaload, 1, 33), (33, .aload_n 0, 1, 34), (34, .getfield 18, 3, 37), (37, .aload_n 0, 1, 38), (38, .getfield 170, 3, 41), (41, .iaload, 1, 42), (42, .invokevirtual 292, 3, 45), (45, .lreturn, 1, 46)]
def M_M_sampleAt : zM := (⟨"CamPiecesModel", "sampleAt", "(I)J"⟩, prog_10_method_63_code, 3, some .long, I_M_sampleAt)
def R_M_sampleAt : Room := { frames := 3, cells := 0, slots := 0, locals := 73 }
theorem D_M_sampleAt : zDec M_M_sampleAt := (by decide +kernel : ∀ q ∈ I_M_sampleAt, decode prog_10_method_63_code q.1 = .ok (q.2.1, q.2.2.1) ∧ q.1 + q.2.2.1 = q.2.2.2)
theorem C_M_sampleAt : zCv M_M_sampleAt 1 := ⟨⟨zTB_of 9 (by decide +kernel) rfl, zTB_of 1244 (by decide +kernel) rfl, by decide, by decide, by decide +kernel⟩, zTB_of 1243 (by decide +kernel) rfl, zTB_ofS 55 (by decide +kernel) rfl⟩
def I_M_sample : List (Nat × Instr × Nat × Nat) := [(0, .aload_n 0, 1, 1), (1, .iload_n 1, 1, 2), (2, .invokevirtual 167, 3, 5), (5, .ifCond .eq 11, 3, 8), (8, .aload_n 0, 1, 9), (9, .iload_n 1, 1, 10), (10, .invokevirtual 296, 3, 13), (13, .goto 6, 3, 16), (16, .ldc2_w 205, 3, 19), (19, .lreturn, 1, 20)]
def M_M_sample : zM := (⟨"CamPiecesModel", "sample", "(I)J"⟩, prog_10_method_64_code, 2, some .long, I_M_sample)
def R_M_sample : Room := { frames := 4, cells := 0, slots := 0, locals := 95 }
theorem D_M_sample : zDec M_M_sample := (by decide +kernel : ∀ q ∈ I_M_sample, decode prog_10_method_64_code q.1 = .ok (q.2.1, q.2.2.1) ∧ q.1 + q.2.2.1 = q.2.2.2)
theorem C_M_sample : zCv M_M_sample 1 := ⟨⟨zTB_of 9 (by decide +kernel) rfl, zTB_of 1240 (by decide +kernel) rfl, by decide, by decide, by decide +kernel⟩, zTB_of 1238 (by decide +kernel) rfl, zTB_of 1239 (by decide +kernel) rfl⟩
def I_M_errs : List (Nat × Instr × Nat × Nat) := [(0, .aload_n 0, 1, 1), (1, .invokevirtual 88, 3, 4), (4, .istore_n 2, 1, 5), (5, .iconst 0, 1, 6), (6, .istore_n 3, 1, 7), (7, .iload_n 3, 1, 8), (8, .iload_n 2, 1, 9), (9, .if_icmp .gt 20, 3, 12), (12, .aload_n 0, 1, 13), (13, .getfield 33, 3, 16), (16, .iload_n 3, 1, 17), (17, .aload_n 0, 1, 18), (18, .iload_n 3, 1, 19), (19, .invokevirtual 296, 3, 22), (22, .lastore, 1, 23), (23, .iinc 3 1, 3, 26), (26, .goto (-19), 3, 29), (29, .aload_n 0, 1, 30), (30, .lconst 0, 1, 31), (31, .putfield 211, 3, 34), (34, .aload_n 0, 1, 35), (35, .lconst 1, 1, 36), (36, .putfield 214, 3, 39), (39, .iconst 0, 1, 40), (40, .istore_n 3, 1, 41), (41, .iload_n 3, 1, 42), (42, .iload_n 2, 1, 43), (43, .if_icmp .ge 118, 3, 46), (46, .iload_n 2, 1, 47), (47, .iload_n 3, 1, 48), (48, .iload_n 1, 1, 49), (49, .iadd, 1, 50), (50, .invokestatic 300, 3, 53), (53, .istore 4, 2, 55), (55, .iload 4, 2, 57), (57, .iload_n 3, 1, 58), (58, .isub, 1, 59), (59, .i2l, 1, 60), (60, .lstore 5, 2, 62), (62, .iload_n 3, 1, 63), (63, .istore 7, 2, 65), (65, .iload 7, 2, 67), (67, .iload 4, 2, 69), (69, .if_icmp .gt 85, 3, 72), (72, .aload_n 0, 1, 73), (73, .getfield 33, 3, 76), (76, .iload_n 3, 1, 77), (77, .laload, 1, 78), (78, .aload_n 0, 1, 79), (79, .getfield 33, 3, 82), (82, .iload 7, 2, 84), (84, .laload, 1, 85), (85, .lsub, 1, 86), (86, .lload 5, 2, 88), (88, .lmul, 1, 89), (89, .aload_n 0, 1, 90), (90, .getfield 33, 3, 93), (93, .iload 4, 2, 95), (95, .laload, 1, 96), (96, .aload_n 0, 1, 97), (97, .getfield 33, 3, 100), (100, .iload_n 3, 1, 101), (101, .laload, 1, 102), (102, .lsub, 1, 103), (103, .iload 7, 2, 105), (105, .iload_n 3, 1, 106), (106, .isub, 1, 107), (107, .i2l, 1, 108), (108, .lmul, 1, 109), (109, .ladd, 1, 110), (110, .invokestatic 137, 3, 113), (113, .lstore 8, 2, 115), (115, .lload 8, 2, 117), (117, .aload_n 0, 1, 118), (118, .getfield 214, 3, 121), (121, .lmul, 1, 122), (122, .aload_n 0, 1, 123), (123, .getfield 211, 3, 126), (126, .lload 5, 2, 128), (128, .lmul, 1, 129), (129, .lcmp, 1, 130), (130, .ifCond .gt 6, 3, 133), (133, .goto 15, 3, 136), (136, .aload_n 0, 1, 137), (137, .lload 8, 2, 139), (139, .putfield 211, 3, 142), (142, .aload_n 0, 1, 143), (143, .lload 5, 2, 145), (145, .putfield 214, 3, 148), (148, .iinc 7 1, 3, 151), (151, .goto (-86), 3, 154), (154, .iload_n 3, 1, 155), (155, .iload_n 1, 1, 156), (156, .iadd, 1, 157), (157, .istore_n 3, 1, 158), (158, .goto (-117), 3, 161), (161, .return_, 1, 162)]
def M_M_errs : zM := (⟨"CamPiecesModel", "errs", "(I)V"⟩, prog_10_method_65_code, 10, none, I_M_errs)
def R_M_errs : Room := { frames := 4, cells := 0, slots := 0, locals := 95 }
theorem D_M_errs : zDec M_M_errs := (by decide +kernel : ∀ q ∈ I_M_errs, decode prog_10_method_65_code q.1 = .ok (q.2.1, q.2.2.1) ∧ q.1 + q.2.2.1 = q.2.2.2)
theorem C_M_errs : zCv M_M_errs 1 := ⟨⟨zTB_of 9 (by decide +kernel) rfl, zTB_of 1259 (by decide +kernel) rfl, by decide, by decide, by decide +kernel⟩, zTB_of 1258 (by decide +kernel) rfl, zTB_ofS 57 (by decide +kernel) rfl⟩
def I_M_error : List (Nat × Instr × Nat × Nat) := [(0, .iload_n 1, 1, 1), (1, .i2l, 1, 2), (2, .lconst 1, 1, 3), (3, .ldc2_w 161, 3, 6), (6, .invokestatic 80, 3, 9), (9, .ifCond .eq 20, 3, 12), (12, .iload_n 2, 1, 13), (13, .i2l, 1, 14), (14, .lconst 0, 1, 15), (15, .lconst 1, 1, 16), (16, .invokestatic 80, 3, 19), (19, .ifCond .eq 10, 3, 22), (22, .aload_n 0, 1, 23), (23, .getfield 77, 3, 26), (26, .ifCond .ne 7, 3, 29), (29, .ldc2_w 205, 3, 32), (32, .lreturn, 1, 33), (33, .aload_n 0, 1, 34), (34, .iload_n 1, 1, 35), (35, .invokevirtual 303, 3, 38), (38, .aload_n 0, 1, 39), (39, .getfield 211, 3, 42), (42, .aload_n 0, 1, 43), (43, .getfield 214, 3, 46), (46, .iload_n 2, 1, 47), (47, .invokestatic 207, 3, 50), (50, .lreturn, 1, 51)]
def M_M_error : zM := (⟨"CamPiecesModel", "error", "(II)J"⟩, prog_10_method_66_code, 3, some .long, I_M_error)
def R_M_error : Room := { frames := 5, cells := 0, slots := 0, locals := 124 }
theorem D_M_error : zDec M_M_error := (by decide +kernel : ∀ q ∈ I_M_error, decode prog_10_method_66_code q.1 = .ok (q.2.1, q.2.2.1) ∧ q.1 + q.2.2.1 = q.2.2.2)
theorem C_M_error : zCv M_M_error 2 := ⟨⟨zTB_of 9 (by decide +kernel) rfl, zTB_of 1255 (by decide +kernel) rfl, by decide, by decide, by decide +kernel⟩, zTB_of 1253 (by decide +kernel) rfl, zTB_of 1254 (by decide +kernel) rfl⟩
def I_M_widest : List (Nat × Instr × Nat × Nat) := [(0, .iload_n 1, 1, 1), (1, .i2l, 1, 2), (2, .lconst 0, 1, 3), (3, .ldc2_w 259, 3, 6), (6, .invokestatic 80, 3, 9), (9, .ifCond .ne 6, 3, 12), (12, .bipush (-2), 2, 14), (14, .ireturn, 1, 15), (15, .aload_n 0, 1, 16), (16, .getfield 77, 3, 19), (19, .ifCond .ne 6, 3, 22), (22, .bipush (-3), 2, 24), (24, .ireturn, 1, 25), (25, .bipush 60, 2, 27), (27, .istore_n 2, 1, 28), (28, .iload_n 2, 1, 29), (29, .iconst 1, 1, 30), (30, .if_icmp .lt 35, 3, 33), (33, .aload_n 0, 1, 34), (34, .iload_n 2, 1, 35), (35, .invokevirtual 303, 3, 38), (38, .ldc2_w 265, 3, 41), (41, .aload_n 0, 1, 42), (42, .getfield 211, 3, 45), (45, .lmul, 1, 46), (46, .iload_n 1, 1, 47), (47, .i2l, 1, 48), (48, .aload_n 0, 1, 49), (49, .getfield 214, 3, 52), (52, .lmul, 1, 53), (53, .lcmp, 1, 54), (54, .ifCond .gt 5, 3, 57), (57, .iload_n 2, 1, 58), (58, .ireturn, 1, 59), (59, .iinc 2 (-1), 3, 62), (62, .goto (-34), 3, 65), (65, .bipush (-5), 2, 67), (67, .ireturn, 1, 68)]
def M_M_widest : zM := (⟨"CamPiecesModel", "widest", "(I)I"⟩, prog_10_method_67_code, 3, some .int, I_M_widest)
def R_M_widest : Room := { frames := 5, cells := 0, slots := 0, locals := 124 }
theorem D_M_widest : zDec M_M_widest := (by decide +kernel : ∀ q ∈ I_M_widest, decode prog_10_method_67_code q.1 = .ok (q.2.1, q.2.2.1) ∧ q.1 + q.2.2.1 = q.2.2.2)
theorem C_M_widest : zCv M_M_widest 1 := ⟨⟨zTB_of 9 (by decide +kernel) rfl, zTB_of 1264 (by decide +kernel) rfl, by decide, by decide, by decide +kernel⟩, zTB_of 1262 (by decide +kernel) rfl, zTB_of 1263 (by decide +kernel) rfl⟩
def I_M_lay : List (Nat × Instr × Nat × Nat) := [(0, .iload_n 1, 1, 1), (1, .invokestatic 307, 3, 4), (4, .ifCond .ne 5, 3, 7), (7, .iconst (-1), 1, 8), (8, .ireturn, 1, 9), (9, .aload_n 0, 1, 10), (10, .getfield 56, 3, 13), (13, .iload_n 1, 1, 14), (14, .iaload, 1, 15), (15, .ifCond .ge 6, 3, 18), (18, .bipush (-11), 2, 20), (20, .ireturn, 1, 21), (21, .aload_n 0, 1, 22), (22, .iload_n 3, 1, 23), (23, .invokevirtual 167, 3, 26), (26, .ifCond .eq 50, 3, 29), (29, .iload 4, 2, 31), (31, .i2l, 1, 32), (32, .lconst 1, 1, 33), (33, .ldc2_w 161, 3, 36), (36, .invokestatic 80, 3, 39), (39, .ifCond .eq 37, 3, 42), (42, .iload 5, 2, 44), (44, .i2l, 1, 45), (45, .lconst 0, 1, 46), (46, .ldc2_w 155, 3, 49), (49, .invokestatic 80, 3, 52), (52, .ifCond .eq 24, 3, 55), (55, .iload 5, 2, 57), (57, .ifCond .le 22, 3, 60), (60, .aload_n 0, 1, 61), (61, .iload_n 3, 1, 62), (62, .iload 5, 2, 64), (64, .iconst 1, 1, 65), (65, .isub, 1, 66), (66, .iload 4, 2, 68), (68, .imul, 1, 69), (69, .iadd, 1, 70), (70, .invokevirtual 167, 3, 73), (73, .ifCond .ne 6, 3, 76), (76, .bipush (-2), 2, 78), (78, .ireturn, 1, 79), (79, .iload_n 2, 1, 80), (80, .ifCond .ge 11, 3, 83), (83, .iload 5, 2, 85), (85, .ifCond .le 6, 3, 88), (88, .bipush (-13), 2, 90), (90, .ireturn, 1, 91), (91, .iconst 0, 1, 92), (92, .istore 6, 2, 94), (94, .iload 6, 2, 96), (96, .iload 5, 2, 98), (98, .if_icmp .ge 50, 3, 101), (101, .iload_n 2, 1, 102), (102, .aload_n 0, 1, 103), (103, .getfield 56, 3, 106), (106, .iload_n 1, 1, 107), (107, .iaload, 1, 108), (108, .iload 6, 2, 110), (110, .isub, 1, 111), (111, .if_icmp .lt 6, 3, 114), (114, .bipush (-13), 2, 116), (116, .ireturn, 1, 117), (117, .aload_n 0, 1, 118), (118, .getfield 59, 3, 121), (121, .bipush 30, 2, 123), (123, .iload_n 1, 1, 124), (124, .imul, 1, 125), (125, .iload_n 2, 1, 126), (126, .iadd, 1, 127), (127, .iload 6, 2, 129), (129, .iadd, 1, 130), (130, .aload_n 0, 1, 131), (131, .iload_n 3, 1, 132), (132, .iload 6, 2, 134), (134, .iload 4, 2, 136), (136, .imul, 1, 137), (137, .iadd, 1, 138), (138, .invokevirtual 296, 3, 141), (141, .lastore, 1, 142), (142, .iinc 6 1, 3, 145), (145, .goto (-51), 3, 148), (148, .iload 5, 2, 150), (150, .ireturn, 1, 151)]
def M_M_lay : zM := (⟨"CamPiecesModel", "lay", "(IIIII)I"⟩, prog_10_method_68_code, 7, some .int, I_M_lay)
def R_M_lay : Room := { frames := 4, cells := 0, slots := 0, locals := 95 }
theorem D_M_lay : zDec M_M_lay := (by decide +kernel : ∀ q ∈ I_M_lay, decode prog_10_method_68_code q.1 = .ok (q.2.1, q.2.2.1) ∧ q.1 + q.2.2.1 = q.2.2.2)
theorem C_M_lay : zCv M_M_lay 5 := ⟨⟨zTB_of 9 (by decide +kernel) rfl, zTB_of 1268 (by decide +kernel) rfl, by decide, by decide, by decide +kernel⟩, zTB_of 1266 (by decide +kernel) rfl, zTB_of 1267 (by decide +kernel) rfl⟩
def I_M_isSeen : List (Nat × Instr × Nat × Nat) := [(0, .iconst 0, 1, 1), (1, .istore 5, 2, 3), (3, .iload 5, 2, 5), (5, .iload_n 2, 1, 6), (6, .if_icmp .ge 48, 3, 9), (9, .aload_n 0, 1, 10), (10, .getfield 59, 3, 13), (13, .iload_n 1, 1, 14), (14, .iload 5, 2, 16), (16, .iadd, 1, 17), (17, .laload, 1, 18), (18, .aload_n 0, 1, 19), (19, .iload_n 3, 1, 20), (20, .iload 5, 2, 22), (22, .iload 4, 2, 24), (24, .iload 4, 2, 26), (26, .ifCond .ne 7, 3, 29), (29, .iconst 0, 1, 30), (30, .goto 9, 3, 33), (33, .aload_n 0, 1, 34), (34, .getfield 18, 3, 37), (37, .iload_n 3, 1, 38), (38, .iaload, 1, 39), (39, .invokevirtual 292, 3, 42), (42, .lcmp, 1, 43), (43, .ifCond .eq 5, 3, 46), (46, .iconst 0, 1, 47), (47, .ireturn, 1, 48), (48, .iinc 5 1, 3, 51), (51, .goto (-48), 3, 54), (54, .iconst 1, 1, 55), (55, .ireturn, 1, 56)]
def M_M_isSeen : zM := (⟨"CamPiecesModel", "isSeen", "(IIII)Z"⟩, prog_10_method_69_code, 6, some .boolean, I_M_isSeen)
def R_M_isSeen : Room := { frames := 3, cells := 0, slots := 0, locals := 73 }
theorem D_M_isSeen : zDec M_M_isSeen := (by decide +kernel : ∀ q ∈ I_M_isSeen, decode prog_10_method_69_code q.1 = .ok (q.2.1, q.2.2.1) ∧ q.1 + q.2.2.1 = q.2.2.2)
theorem C_M_isSeen : zCv M_M_isSeen 4 := ⟨⟨zTB_of 9 (by decide +kernel) rfl, zTB_of 1279 (by decide +kernel) rfl, by decide, by decide, by decide +kernel⟩, zTB_of 1278 (by decide +kernel) rfl, zTB_ofS 58 (by decide +kernel) rfl⟩
def I_M_seen : List (Nat × Instr × Nat × Nat) := [(0, .iload_n 1, 1, 1), (1, .invokestatic 307, 3, 4), (4, .ifCond .eq 12, 3, 7), (7, .aload_n 0, 1, 8), (8, .iload 4, 2, 10), (10, .invokevirtual 104, 3, 13), (13, .ifCond .ne 5, 3, 16), (16, .iconst (-1), 1, 17), (17, .ireturn, 1, 18), (18, .aload_n 0, 1, 19), (19, .getfield 56, 3, 22), (22, .iload_n 1, 1, 23), (23, .iaload, 1, 24), (24, .ifCond .ge 6, 3, 27), (27, .bipush (-11), 2, 29), (29, .ireturn, 1, 30), (30, .iload_n 3, 1, 31), (31, .i2l, 1, 32), (32, .lconst 1, 1, 33), (33, .ldc2_w 155, 3, 36), (36, .invokestatic 80, 3, 39), (39, .ifCond .eq 16, 3, 42), (42, .iload_n 3, 1, 43), (43, .aload_n 0, 1, 44), (44, .getfield 15, 3, 47), (47, .iload 4, 2, 49), (49, .iaload, 1, 50), (50, .iconst 1, 1, 51), (51, .iadd, 1, 52), (52, .if_icmp .le 6, 3, 55), (55, .bipush (-2), 2, 57), (57, .ireturn, 1, 58), (58, .iload_n 2, 1, 59), (59, .ifCond .lt 15, 3, 62), (62, .iload_n 2, 1, 63), (63, .aload_n 0, 1, 64), (64, .getfield 56, 3, 67), (67, .iload_n 1, 1, 68), (68, .iaload, 1, 69), (69, .iload_n 3, 1, 70), (70, .isub, 1, 71), (71, .if_icmp .le 6, 3, 74), (74, .bipush (-13), 2, 76), (76, .ireturn, 1, 77), (77, .iconst 0, 1, 78), (78, .istore 5, 2, 80), (80, .iconst 0, 1, 81), (81, .istore 6, 2, 83), (83, .iload 6, 2, 85), (85, .iconst 5, 1, 86), (86, .if_icmp .gt 36, 3, 89), (89, .aload_n 0, 1, 90), (90, .bipush 30, 2, 92), (92, .iload_n 1, 1, 93), (93, .imul, 1, 94), (94, .iload_n 2, 1, 95), (95, .iadd, 1, 96), (96, .iload_n 3, 1, 97), (97, .iload 4, 2, 99), (99, .iload 6, 2, 101), (101, .invokevirtual 310, 3, 104), (104, .ifCond .eq 12, 3, 107), (107, .iload 5, 2, 109), (109, .iconst 1, 1, 110), (110, .iload 6, 2, 112), (112, .ishl, 1, 113), (113, .ior, 1, 114), (114, .istore 5, 2, 116), (116, .iinc 6 1, 3, 119), (119, .goto (-36), 3, 122), (122, .iload 5, 2, 124), (124, .ireturn, 1, 125)]
def M_M_seen : zM := (⟨"CamPiecesModel", "seen", "(IIII)I"⟩, prog_10_method_70_code, 7, some .int, I_M_seen)
def R_M_seen : Room := { frames := 4, cells := 0, slots := 0, locals := 98 }
theorem D_M_seen : zDec M_M_seen := (by decide +kernel : ∀ q ∈ I_M_seen, decode prog_10_method_70_code q.1 = .ok (q.2.1, q.2.2.1) ∧ q.1 + q.2.2.1 = q.2.2.2)
theorem C_M_seen : zCv M_M_seen 4 := ⟨⟨zTB_of 9 (by decide +kernel) rfl, zTB_of 1275 (by decide +kernel) rfl, by decide, by decide, by decide +kernel⟩, zTB_of 1273 (by decide +kernel) rfl, zTB_of 1274 (by decide +kernel) rfl⟩
def I_M_feed : List (Nat × Instr × Nat × Nat) := [(0, .iload_n 1, 1, 1), (1, .i2l, 1, 2), (2, .lconst 1, 1, 3), (3, .ldc2_w 314, 3, 6), (6, .invokestatic 80, 3, 9), (9, .ifCond .ne 6, 3, 12), (12, .bipush (-2), 2, 14), (14, .ireturn, 1, 15), (15, .aload_n 0, 1, 16), (16, .getfield 123, 3, 19), (19, .bipush 120, 2, 21), (21, .if_icmp .ne 6, 3, 24), (24, .bipush (-4), 2, 26), (26, .ireturn, 1, 27), (27, .aload_n 0, 1, 28), (28, .getfield 37, 3, 31), (31, .aload_n 0, 1, 32), (32, .getfield 123, 3, 35), (35, .iload_n 1, 1, 36), (36, .iastore, 1, 37), (37, .aload_n 0, 1, 38), (38, .dup, 1, 39), (39, .getfield 123, 3, 42), (42, .iconst 1, 1, 43), (43, .iadd, 1, 44), (44, .putfield 123, 3, 47), (47, .aload_n 0, 1, 48), (48, .getfield 123, 3, 51), (51, .ireturn, 1, 52)]
def M_M_feed : zM := (⟨"CamPiecesModel", "feed", "(I)I"⟩, prog_10_method_71_code, 2, some .int, I_M_feed)
def R_M_feed : Room := { frames := 1, cells := 0, slots := 0, locals := 25 }
theorem D_M_feed : zDec M_M_feed := (by decide +kernel : ∀ q ∈ I_M_feed, decode prog_10_method_71_code q.1 = .ok (q.2.1, q.2.2.1) ∧ q.1 + q.2.2.1 = q.2.2.2)
theorem C_M_feed : zCv M_M_feed 1 := ⟨⟨zTB_of 9 (by decide +kernel) rfl, zTB_of 1283 (by decide +kernel) rfl, by decide, by decide, by decide +kernel⟩, zTB_of 1281 (by decide +kernel) rfl, zTB_of 1282 (by decide +kernel) rfl⟩
def I_M_clear : List (Nat × Instr × Nat × Nat) := [(0, .aload_n 0, 1, 1), (1, .getfield 123, 3, 4), (4, .istore_n 1, 1, 5), (5, .aload_n 0, 1, 6), (6, .iconst 0, 1, 7), (7, .putfield 123, 3, 10), (10, .iload_n 1, 1, 11), (11, .ireturn, 1, 12)]
def M_M_clear : zM := (⟨"CamPiecesModel", "clear", "()I"⟩, prog_10_method_72_code, 2, some .int, I_M_clear)
def R_M_clear : Room := { frames := 0, cells := 0, slots := 0, locals := 0 }
theorem D_M_clear : zDec M_M_clear := (by decide +kernel : ∀ q ∈ I_M_clear, decode prog_10_method_72_code q.1 = .ok (q.2.1, q.2.2.1) ∧ q.1 + q.2.2.1 = q.2.2.2)
theorem C_M_clear : zCv M_M_clear 0 := ⟨⟨zTB_of 9 (by decide +kernel) rfl, zTB_of 1288 (by decide +kernel) rfl, by decide, by decide, by decide +kernel⟩, zTB_of 1286 (by decide +kernel) rfl, zTB_of 1287 (by decide +kernel) rfl⟩
def I_M_byteAt : List (Nat × Instr × Nat × Nat) := [(0, .iload_n 1, 1, 1), (1, .aload_n 0, 1, 2), (2, .getfield 123, 3, 5), (5, .if_icmp .ge 12, 3, 8), (8, .aload_n 0, 1, 9), (9, .getfield 37, 3, 12), (12, .iload_n 1, 1, 13), (13, .iaload, 1, 14), (14, .goto 4, 3, 17), (17, .iconst (-1), 1, 18), (18, .ireturn, 1, 19)]
def M_M_byteAt : zM := (⟨"CamPiecesModel", "byteAt", "(I)I"⟩, prog_10_method_73_code, 2, some .int, I_M_byteAt)
def R_M_byteAt : Room := { frames := 0, cells := 0, slots := 0, locals := 0 }
theorem D_M_byteAt : zDec M_M_byteAt := (by decide +kernel : ∀ q ∈ I_M_byteAt, decode prog_10_method_73_code q.1 = .ok (q.2.1, q.2.2.1) ∧ q.1 + q.2.2.1 = q.2.2.2)
theorem C_M_byteAt : zCv M_M_byteAt 1 := ⟨⟨zTB_of 9 (by decide +kernel) rfl, zTB_of 1304 (by decide +kernel) rfl, by decide, by decide, by decide +kernel⟩, zTB_of 1303 (by decide +kernel) rfl, zTB_ofS 61 (by decide +kernel) rfl⟩
def I_M_isFigure : List (Nat × Instr × Nat × Nat) := [(0, .aload_n 0, 1, 1), (1, .iload_n 1, 1, 2), (2, .invokevirtual 316, 3, 5), (5, .i2l, 1, 6), (6, .ldc2_w 319, 3, 9), (9, .ldc2_w 239, 3, 12), (12, .invokestatic 80, 3, 15), (15, .ireturn, 1, 16)]
def M_M_isFigure : zM := (⟨"CamPiecesModel", "isFigure", "(I)Z"⟩, prog_10_method_74_code, 2, some .boolean, I_M_isFigure)
def R_M_isFigure : Room := { frames := 1, cells := 0, slots := 0, locals := 25 }
theorem D_M_isFigure : zDec M_M_isFigure := (by decide +kernel : ∀ q ∈ I_M_isFigure, decode prog_10_method_74_code q.1 = .ok (q.2.1, q.2.2.1) ∧ q.1 + q.2.2.1 = q.2.2.2)
theorem C_M_isFigure : zCv M_M_isFigure 1 := ⟨⟨zTB_of 9 (by decide +kernel) rfl, zTB_of 1330 (by decide +kernel) rfl, by decide, by decide, by decide +kernel⟩, zTB_of 1329 (by decide +kernel) rfl, zTB_ofS 67 (by decide +kernel) rfl⟩
def I_M_fails : List (Nat × Instr × Nat × Nat) := [(0, .aload_n 0, 1, 1), (1, .getfield 321, 3, 4), (4, .iconst (-1), 1, 5), (5, .if_icmp .eq 4, 3, 8), (8, .return_, 1, 9), (9, .aload_n 0, 1, 10), (10, .iload_n 1, 1, 11), (11, .putfield 321, 3, 14), (14, .aload_n 0, 1, 15), (15, .iload_n 2, 1, 16), (16, .putfield 324, 3, 19), (19, .return_, 1, 20)]
def M_M_fails : zM := (⟨"CamPiecesModel", "fails", "(II)V"⟩, prog_10_method_75_code, 3, none, I_M_fails)
def R_M_fails : Room := { frames := 0, cells := 0, slots := 0, locals := 0 }
theorem D_M_fails : zDec M_M_fails := (by decide +kernel : ∀ q ∈ I_M_fails, decode prog_10_method_75_code q.1 = .ok (q.2.1, q.2.2.1) ∧ q.1 + q.2.2.1 = q.2.2.2)
theorem C_M_fails : zCv M_M_fails 2 := ⟨⟨zTB_of 9 (by decide +kernel) rfl, zTB_of 1314 (by decide +kernel) rfl, by decide, by decide, by decide +kernel⟩, zTB_of 1313 (by decide +kernel) rfl, zTB_ofS 63 (by decide +kernel) rfl⟩
def I_M_failsHere : List (Nat × Instr × Nat × Nat) := [(0, .aload_n 0, 1, 1), (1, .aload_n 0, 1, 2), (2, .getfield 327, 3, 5), (5, .aload_n 0, 1, 6), (6, .getfield 327, 3, 9), (9, .aload_n 0, 1, 10), (10, .getfield 123, 3, 13), (13, .if_icmp .ne 7, 3, 16), (16, .iconst 5, 1, 17), (17, .goto 4, 3, 20), (20, .iconst 4, 1, 21), (21, .invokevirtual 330, 3, 24), (24, .return_, 1, 25)]
def M_M_failsHere : zM := (⟨"CamPiecesModel", "failsHere", "()V"⟩, prog_10_method_76_code, 1, none, I_M_failsHere)
def R_M_failsHere : Room := { frames := 1, cells := 0, slots := 0, locals := 22 }
theorem D_M_failsHere : zDec M_M_failsHere := (by decide +kernel : ∀ q ∈ I_M_failsHere, decode prog_10_method_76_code q.1 = .ok (q.2.1, q.2.2.1) ∧ q.1 + q.2.2.1 = q.2.2.2)
theorem C_M_failsHere : zCv M_M_failsHere 0 := ⟨⟨zTB_of 9 (by decide +kernel) rfl, zTB_of 1322 (by decide +kernel) rfl, by decide, by decide, by decide +kernel⟩, zTB_of 1321 (by decide +kernel) rfl, zTB_ofS 65 (by decide +kernel) rfl⟩
def I_M_takes : List (Nat × Instr × Nat × Nat) := [(0, .aload_n 0, 1, 1), (1, .getfield 321, 3, 4), (4, .iconst (-1), 1, 5), (5, .if_icmp .eq 4, 3, 8), (8, .return_, 1, 9), (9, .aload_n 0, 1, 10), (10, .aload_n 0, 1, 11), (11, .getfield 327, 3, 14), (14, .invokevirtual 316, 3, 17), (17, .iload_n 1, 1, 18), (18, .if_icmp .ne 16, 3, 21), (21, .aload_n 0, 1, 22), (22, .dup, 1, 23), (23, .getfield 327, 3, 26), (26, .iconst 1, 1, 27), (27, .iadd, 1, 28), (28, .putfield 327, 3, 31), (31, .goto 7, 3, 34), (34, .aload_n 0, 1, 35), (35, .invokevirtual 333, 3, 38), (38, .return_, 1, 39)]
def M_M_takes : zM := (⟨"CamPiecesModel", "takes", "(I)V"⟩, prog_10_method_77_code, 2, none, I_M_takes)
def R_M_takes : Room := { frames := 2, cells := 0, slots := 0, locals := 42 }
theorem D_M_takes : zDec M_M_takes := (by decide +kernel : ∀ q ∈ I_M_takes, decode prog_10_method_77_code q.1 = .ok (q.2.1, q.2.2.1) ∧ q.1 + q.2.2.1 = q.2.2.2)
theorem C_M_takes : zCv M_M_takes 1 := ⟨⟨zTB_of 9 (by decide +kernel) rfl, zTB_of 1318 (by decide +kernel) rfl, by decide, by decide, by decide +kernel⟩, zTB_of 1317 (by decide +kernel) rfl, zTB_ofS 64 (by decide +kernel) rfl⟩
def I_M_isWord : List (Nat × Instr × Nat × Nat) := [(0, .iconst 0, 1, 1), (1, .istore_n 3, 1, 2), (2, .iload_n 3, 1, 3), (3, .bipush 7, 2, 5), (5, .if_icmp .ge 52, 3, 8), (8, .aload_n 0, 1, 9), (9, .getfield 53, 3, 12), (12, .bipush 7, 2, 14), (14, .iload_n 1, 1, 15), (15, .imul, 1, 16), (16, .iload_n 3, 1, 17), (17, .iadd, 1, 18), (18, .iaload, 1, 19), (19, .istore 4, 2, 21), (21, .iload_n 3, 1, 22), (22, .iload_n 2, 1, 23), (23, .if_icmp .ge 21, 3, 26), (26, .aload_n 0, 1, 27), (27, .aload_n 0, 1, 28), (28, .getfield 327, 3, 31), (31, .iload_n 3, 1, 32), (32, .iadd, 1, 33), (33, .invokevirtual 316, 3, 36), (36, .iload 4, 2, 38), (38, .if_icmp .eq 13, 3, 41), (41, .goto 8, 3, 44), (44, .iload 4, 2, 46), (46, .ifCond .eq 5, 3, 49), (49, .iconst 0, 1, 50), (50, .ireturn, 1, 51), (51, .iinc 3 1, 3, 54), (54, .goto (-52), 3, 57), (57, .iload_n 2, 1, 58), (58, .bipush 7, 2, 60), (60, .if_icmp .gt 7, 3, 63), (63, .iconst 1, 1, 64), (64, .goto 4, 3, 67), (67, .iconst 0, 1, 68), (68, .ireturn, 1, 69)]
def M_M_isWord : zM := (⟨"CamPiecesModel", "isWord", "(II)Z"⟩, prog_10_method_78_code, 5, some .boolean, I_M_isWord)
def R_M_isWord : Room := { frames := 1, cells := 0, slots := 0, locals := 21 }
theorem D_M_isWord : zDec M_M_isWord := (by decide +kernel : ∀ q ∈ I_M_isWord, decode prog_10_method_78_code q.1 = .ok (q.2.1, q.2.2.1) ∧ q.1 + q.2.2.1 = q.2.2.2)
theorem C_M_isWord : zCv M_M_isWord 2 := ⟨⟨zTB_of 9 (by decide +kernel) rfl, zTB_of 1310 (by decide +kernel) rfl, by decide, by decide, by decide +kernel⟩, zTB_of 1309 (by decide +kernel) rfl, zTB_ofS 62 (by decide +kernel) rfl⟩
def I_M_wordRead : List (Nat × Instr × Nat × Nat) := [(0, .iconst 0, 1, 1), (1, .istore_n 1, 1, 2), (2, .aload_n 0, 1, 3), (3, .aload_n 0, 1, 4), (4, .getfield 327, 3, 7), (7, .iload_n 1, 1, 8), (8, .iadd, 1, 9), (9, .invokevirtual 316, 3, 12), (12, .i2l, 1, 13), (13, .ldc2_w 336, 3, 16), (16, .ldc2_w 338, 3, 19), (19, .invokestatic 80, 3, 22), (22, .ifCond .eq 9, 3, 25), (25, .iinc 1 1, 3, 28), (28, .goto (-26), 3, 31), (31, .iconst 0, 1, 32), (32, .istore_n 2, 1, 33), (33, .iload_n 2, 1, 34), (34, .iconst 5, 1, 35), (35, .if_icmp .gt 33, 3, 38), (38, .aload_n 0, 1, 39), (39, .iload_n 2, 1, 40), (40, .iload_n 1, 1, 41), (41, .invokevirtual 340, 3, 44), (44, .ifCond .ne 6, 3, 47), (47, .goto 15, 3, 50), (50, .aload_n 0, 1, 51), (51, .dup, 1, 52), (52, .getfield 327, 3, 55), (55, .iload_n 1, 1, 56), (56, .iadd, 1, 57), (57, .putfield 327, 3, 60), (60, .iload_n 2, 1, 61), (61, .ireturn, 1, 62), (62, .iinc 2 1, 3, 65), (65, .goto (-32), 3, 68), (68, .aload_n 0, 1, 69), (69, .aload_n 0, 1, 70), (70, .getfield 327, 3, 73), (73, .aload_n 0, 1, 74), (74, .getfield 327, 3, 77), (77, .aload_n 0, 1, 78), (78, .getfield 123, 3, 81), (81, .if_icmp .ne 7, 3, 84), (84, .iconst 5, 1, 85), (85, .goto 4, 3, 88), (88, .iconst 1, 1, 89), (89, .invokevirtual 330, 3, 92), (92, .iconst (-1), 1, 93), (93, .ireturn, 1, 94)]
def M_M_wordRead : zM := (⟨"CamPiecesModel", "wordRead", "()I"⟩, prog_10_method_79_code, 3, some .int, I_M_wordRead)
def R_M_wordRead : Room := { frames := 2, cells := 0, slots := 0, locals := 45 }
theorem D_M_wordRead : zDec M_M_wordRead := (by decide +kernel : ∀ q ∈ I_M_wordRead, decode prog_10_method_79_code q.1 = .ok (q.2.1, q.2.2.1) ∧ q.1 + q.2.2.1 = q.2.2.2)
theorem C_M_wordRead : zCv M_M_wordRead 0 := ⟨⟨zTB_of 9 (by decide +kernel) rfl, zTB_of 1300 (by decide +kernel) rfl, by decide, by decide, by decide +kernel⟩, zTB_of 1299 (by decide +kernel) rfl, zTB_ofS 60 (by decide +kernel) rfl⟩
def I_M_figures : List (Nat × Instr × Nat × Nat) := [(0, .iconst 0, 1, 1), (1, .istore 4, 2, 3), (3, .iconst 0, 1, 4), (4, .istore 5, 2, 6), (6, .aload_n 0, 1, 7), (7, .getfield 321, 3, 10), (10, .iconst (-1), 1, 11), (11, .if_icmp .ne 32, 3, 14), (14, .aload_n 0, 1, 15), (15, .aload_n 0, 1, 16), (16, .getfield 327, 3, 19), (19, .invokevirtual 343, 3, 22), (22, .ifCond .ne 21, 3, 25), (25, .aload_n 0, 1, 26), (26, .iload_n 2, 1, 27), (27, .iload_n 2, 1, 28), (28, .aload_n 0, 1, 29), (29, .getfield 123, 3, 32), (32, .if_icmp .ne 7, 3, 35), (35, .iconst 5, 1, 36), (36, .goto 4, 3, 39), (39, .iload_n 3, 1, 40), (40, .invokevirtual 330, 3, 43), (43, .aload_n 0, 1, 44), (44, .getfield 321, 3, 47), (47, .iconst (-1), 1, 48), (48, .if_icmp .ne 56, 3, 51), (51, .iload 5, 2, 53), (53, .iload_n 1, 1, 54), (54, .if_icmp .ge 50, 3, 57), (57, .aload_n 0, 1, 58), (58, .aload_n 0, 1, 59), (59, .getfield 327, 3, 62), (62, .invokevirtual 343, 3, 65), (65, .ifCond .eq 39, 3, 68), (68, .bipush 10, 2, 70), (70, .iload 4, 2, 72), (72, .imul, 1, 73), (73, .aload_n 0, 1, 74), (74, .getfield 37, 3, 77), (77, .aload_n 0, 1, 78), (78, .getfield 327, 3, 81), (81, .iaload, 1, 82), (82, .iadd, 1, 83), (83, .bipush 48, 2, 85), (85, .isub, 1, 86), (86, .istore 4, 2, 88), (88, .aload_n 0, 1, 89), (89, .dup, 1, 90), (90, .getfield 327, 3, 93), (93, .iconst 1, 1, 94), (94, .iadd, 1, 95), (95, .putfield 327, 3, 98), (98, .iinc 5 1, 3, 101), (101, .goto (-58), 3, 104), (104, .iload 4, 2, 106), (106, .ireturn, 1, 107)]
def M_M_figures : zM := (⟨"CamPiecesModel", "figures", "(III)I"⟩, prog_10_method_80_code, 6, some .int, I_M_figures)
def R_M_figures : Room := { frames := 2, cells := 0, slots := 0, locals := 46 }
theorem D_M_figures : zDec M_M_figures := (by decide +kernel : ∀ q ∈ I_M_figures, decode prog_10_method_80_code q.1 = .ok (q.2.1, q.2.2.1) ∧ q.1 + q.2.2.1 = q.2.2.2)
theorem C_M_figures : zCv M_M_figures 3 := ⟨⟨zTB_of 9 (by decide +kernel) rfl, zTB_of 1326 (by decide +kernel) rfl, by decide, by decide, by decide +kernel⟩, zTB_of 1325 (by decide +kernel) rfl, zTB_ofS 66 (by decide +kernel) rfl⟩
def I_M_pieceRead : List (Nat × Instr × Nat × Nat) := [(0, .aload_n 0, 1, 1), (1, .invokevirtual 346, 3, 4), (4, .istore_n 1, 1, 5), (5, .aload_n 0, 1, 6), (6, .getfield 321, 3, 9), (9, .iconst (-1), 1, 10), (10, .if_icmp .eq 4, 3, 13), (13, .return_, 1, 14), (14, .aload_n 0, 1, 15), (15, .bipush 32, 2, 17), (17, .invokevirtual 349, 3, 20), (20, .aload_n 0, 1, 21), (21, .getfield 327, 3, 24), (24, .istore_n 2, 1, 25), (25, .aload_n 0, 1, 26), (26, .iconst 3, 1, 27), (27, .iload_n 2, 1, 28), (28, .iconst 2, 1, 29), (29, .invokevirtual 352, 3, 32), (32, .istore_n 3, 1, 33), (33, .aload_n 0, 1, 34), (34, .getfield 321, 3, 37), (37, .iconst (-1), 1, 38), (38, .if_icmp .ne 21, 3, 41), (41, .iload_n 3, 1, 42), (42, .i2l, 1, 43), (43, .lconst 1, 1, 44), (44, .ldc2_w 98, 3, 47), (47, .invokestatic 80, 3, 50), (50, .ifCond .ne 9, 3, 53), (53, .aload_n 0, 1, 54), (54, .iload_n 2, 1, 55), (55, .iconst 2, 1, 56), (56, .invokevirtual 330, 3, 59), (59, .iconst 0, 1, 60), (60, .istore 4, 2, 62), (62, .iload_n 1, 1, 63), (63, .ifCond .eq 100, 3, 66), (66, .aload_n 0, 1, 67), (67, .bipush 32, 2, 69), (69, .invokevirtual 349, 3, 72), (72, .aload_n 0, 1, 73), (73, .getfield 327, 3, 76), (76, .istore_n 2, 1, 77), (77, .aload_n 0, 1, 78), (78, .getfield 321, 3, 81), (81, .iconst (-1), 1, 82), (82, .if_icmp .ne 20, 3, 85), (85, .aload_n 0, 1, 86), (86, .aload_n 0, 1, 87), (87, .getfield 327, 3, 90), (90, .invokevirtual 316, 3, 93), (93, .bipush 45, 2, 95), (95, .if_icmp .ne 7, 3, 98), (98, .iconst 1, 1, 99), (99, .goto 4, 3, 102), (102, .iconst 0, 1, 103), (103, .istore 5, 2, 105), (105, .iload 5, 2, 107), (107, .ifCond .eq 13, 3, 110), (110, .aload_n 0, 1, 111), (111, .dup, 1, 112), (112, .getfield 327, 3, 115), (115, .iconst 1, 1, 116), (116, .iadd, 1, 117), (117, .putfield 327, 3, 120), (120, .aload_n 0, 1, 121), (121, .iconst 2, 1, 122), (122, .iload_n 2, 1, 123), (123, .iconst 3, 1, 124), (124, .invokevirtual 352, 3, 127), (127, .istore 4, 2, 129), (129, .aload_n 0, 1, 130), (130, .getfield 321, 3, 133), (133, .iconst (-1), 1, 134), (134, .if_icmp .ne 14, 3, 137), (137, .iload 4, 2, 139), (139, .ifCond .ne 9, 3, 142), (142, .aload_n 0, 1, 143), (143, .iload_n 2, 1, 144), (144, .iconst 3, 1, 145), (145, .invokevirtual 330, 3, 148), (148, .iload 5, 2, 150), (150, .ifCond .eq 9, 3, 153), (153, .iload 4, 2, 155), (155, .ineg, 1, 156), (156, .goto 5, 3, 159), (159, .iload 4, 2, 161), (161, .istore 4, 2, 163), (163, .aload_n 0, 1, 164), (164, .getfield 321, 3, 167), (167, .iconst (-1), 1, 168), (168, .if_icmp .eq 4, 3, 171), (171, .return_, 1, 172), (172, .aload_n 0, 1, 173), (173, .getfield 44, 3, 176), (176, .aload_n 0, 1, 177), (177, .getfield 356, 3, 180), (180, .iload_n 1, 1, 181), (181, .iastore, 1, 182), (182, .aload_n 0, 1, 183), (183, .getfield 47, 3, 186), (186, .aload_n 0, 1, 187), (187, .getfield 356, 3, 190), (190, .iload_n 3, 1, 191), (191, .iastore, 1, 192), (192, .aload_n 0, 1, 193), (193, .getfield 50, 3, 196), (196, .aload_n 0, 1, 197), (197, .getfield 356, 3, 200), (200, .iload 4, 2, 202), (202, .iastore, 1, 203), (203, .aload_n 0, 1, 204), (204, .dup, 1, 205), (205, .getfield 356, 3, 208), (208, .iconst 1, 1, 209), (209, .iadd, 1, 210), (210, .putfield 356, 3, 213), (213, .return_, 1, 214)]
def M_M_pieceRead : zM := (⟨"CamPiecesModel", "pieceRead", "()V"⟩, prog_10_method_81_code, 6, none, I_M_pieceRead)
def R_M_pieceRead : Room := { frames := 3, cells := 0, slots := 0, locals := 71 }
theorem D_M_pieceRead : zDec M_M_pieceRead := (by decide +kernel : ∀ q ∈ I_M_pieceRead, decode prog_10_method_81_code q.1 = .ok (q.2.1, q.2.2.1) ∧ q.1 + q.2.2.1 = q.2.2.2)
theorem C_M_pieceRead : zCv M_M_pieceRead 0 := ⟨⟨zTB_of 9 (by decide +kernel) rfl, zTB_of 1296 (by decide +kernel) rfl, by decide, by decide, by decide +kernel⟩, zTB_of 1295 (by decide +kernel) rfl, zTB_ofS 59 (by decide +kernel) rfl⟩
def I_M_unfit : List (Nat × Instr × Nat × Nat) := [(0, .iconst 0, 1, 1), (1, .istore_n 1, 1, 2), (2, .iconst 0, 1, 3), (3, .istore_n 2, 1, 4), (4, .iload_n 2, 1, 5), (5, .aload_n 0, 1, 6), (6, .getfield 356, 3, 9), (9, .if_icmp .ge 50, 3, 12), (12, .iload_n 1, 1, 13), (13, .aload_n 0, 1, 14), (14, .getfield 47, 3, 17), (17, .iload_n 2, 1, 18), (18, .iaload, 1, 19), (19, .iadd, 1, 20), (20, .istore_n 1, 1, 21), (21, .aload_n 0, 1, 22), (22, .iload_n 2, 1, 23), (23, .bipush 12, 2, 25), (25, .if_icmp .ne 8, 3, 28), (28, .bipush 6, 2, 30), (30, .goto 5, 3, 33), (33, .bipush 7, 2, 35), (35, .putfield 324, 3, 38), (38, .iload_n 2, 1, 39), (39, .bipush 12, 2, 41), (41, .if_icmp .eq 10, 3, 44), (44, .iload_n 1, 1, 45), (45, .sipush 360, 3, 48), (48, .if_icmp .le 5, 3, 51), (51, .iload_n 2, 1, 52), (52, .ireturn, 1, 53), (53, .iinc 2 1, 3, 56), (56, .goto (-52), 3, 59), (59, .iconst (-1), 1, 60), (60, .ireturn, 1, 61)]
def M_M_unfit : zM := (⟨"CamPiecesModel", "unfit", "()I"⟩, prog_10_method_82_code, 3, some .int, I_M_unfit)
def R_M_unfit : Room := { frames := 0, cells := 0, slots := 0, locals := 0 }
theorem D_M_unfit : zDec M_M_unfit := (by decide +kernel : ∀ q ∈ I_M_unfit, decode prog_10_method_82_code q.1 = .ok (q.2.1, q.2.2.1) ∧ q.1 + q.2.2.1 = q.2.2.2)
theorem C_M_unfit : zCv M_M_unfit 0 := ⟨⟨zTB_of 9 (by decide +kernel) rfl, zTB_of 1335 (by decide +kernel) rfl, by decide, by decide, by decide +kernel⟩, zTB_of 1334 (by decide +kernel) rfl, zTB_ofS 68 (by decide +kernel) rfl⟩
def I_M_cam : List (Nat × Instr × Nat × Nat) := [(0, .aload_n 0, 1, 1), (1, .iconst 0, 1, 2), (2, .putfield 327, 3, 5), (5, .aload_n 0, 1, 6), (6, .iconst (-1), 1, 7), (7, .putfield 321, 3, 10), (10, .aload_n 0, 1, 11), (11, .iconst 0, 1, 12), (12, .putfield 356, 3, 15), (15, .aload_n 0, 1, 16), (16, .invokevirtual 359, 3, 19), (19, .aload_n 0, 1, 20), (20, .getfield 321, 3, 23), (23, .iconst (-1), 1, 24), (24, .if_icmp .ne 35, 3, 27), (27, .aload_n 0, 1, 28), (28, .getfield 327, 3, 31), (31, .aload_n 0, 1, 32), (32, .getfield 123, 3, 35), (35, .if_icmp .ge 24, 3, 38), (38, .aload_n 0, 1, 39), (39, .bipush 59, 2, 41), (41, .invokevirtual 349, 3, 44), (44, .aload_n 0, 1, 45), (45, .getfield 321, 3, 48), (48, .iconst (-1), 1, 49), (49, .if_icmp .ne (-30), 3, 52), (52, .aload_n 0, 1, 53), (53, .invokevirtual 359, 3, 56), (56, .goto (-37), 3, 59), (59, .aload_n 0, 1, 60), (60, .iconst 0, 1, 61), (61, .putfield 123, 3, 64), (64, .aload_n 0, 1, 65), (65, .getfield 321, 3, 68), (68, .iconst (-1), 1, 69), (69, .if_icmp .ne 10, 3, 72), (72, .aload_n 0, 1, 73), (73, .invokevirtual 362, 3, 76), (76, .goto 4, 3, 79), (79, .iconst (-1), 1, 80), (80, .istore_n 1, 1, 81), (81, .aload_n 0, 1, 82), (82, .getfield 321, 3, 85), (85, .iconst (-1), 1, 86), (86, .if_icmp .ne 8, 3, 89), (89, .iload_n 1, 1, 90), (90, .iconst (-1), 1, 91), (91, .if_icmp .eq 35, 3, 94), (94, .aload_n 0, 1, 95), (95, .aload_n 0, 1, 96), (96, .getfield 324, 3, 99), (99, .putfield 40, 3, 102), (102, .aload_n 0, 1, 103), (103, .getfield 321, 3, 106), (106, .iconst (-1), 1, 107), (107, .if_icmp .eq 13, 3, 110), (110, .bipush (-100), 2, 112), (112, .aload_n 0, 1, 113), (113, .getfield 321, 3, 116), (116, .isub, 1, 117), (117, .goto 8, 3, 120), (120, .sipush (-300), 3, 123), (123, .iload_n 1, 1, 124), (124, .isub, 1, 125), (125, .ireturn, 1, 126), (126, .aload_n 0, 1, 127), (127, .aload_n 0, 1, 128), (128, .getfield 356, 3, 131), (131, .putfield 77, 3, 134), (134, .iconst 0, 1, 135), (135, .istore_n 2, 1, 136), (136, .iload_n 2, 1, 137), (137, .aload_n 0, 1, 138), (138, .getfield 77, 3, 141), (141, .if_icmp .ge 45, 3, 144), (144, .aload_n 0, 1, 145), (145, .getfield 11, 3, 148), (148, .iload_n 2, 1, 149), (149, .aload_n 0, 1, 150), (150, .getfield 44, 3, 153), (153, .iload_n 2, 1, 154), (154, .iaload, 1, 155), (155, .iastore, 1, 156), (156, .aload_n 0, 1, 157), (157, .getfield 15, 3, 160), (160, .iload_n 2, 1, 161), (161, .aload_n 0, 1, 162), (162, .getfield 47, 3, 165), (165, .iload_n 2, 1, 166), (166, .iaload, 1, 167), (167, .iastore, 1, 168), (168, .aload_n 0, 1, 169), (169, .getfield 18, 3, 172), (172, .iload_n 2, 1, 173), (173, .aload_n 0, 1, 174), (174, .getfield 50, 3, 177), (177, .iload_n 2, 1, 178), (178, .iaload, 1, 179), (179, .iastore, 1, 180), (180, .iinc 2 1, 3, 183), (183, .goto (-47), 3, 186), (186, .aload_n 0, 1, 187), (187, .getfield 77, 3, 190), (190, .ireturn, 1, 191)]
def M_M_cam : zM := (⟨"CamPiecesModel", "cam", "()I"⟩, prog_10_method_83_code, 3, some .int, I_M_cam)
def R_M_cam : Room := { frames := 4, cells := 0, slots := 0, locals := 96 }
theorem D_M_cam : zDec M_M_cam := (by decide +kernel : ∀ q ∈ I_M_cam, decode prog_10_method_83_code q.1 = .ok (q.2.1, q.2.2.1) ∧ q.1 + q.2.2.1 = q.2.2.2)
theorem C_M_cam : zCv M_M_cam 0 := ⟨⟨zTB_of 9 (by decide +kernel) rfl, zTB_of 1292 (by decide +kernel) rfl, by decide, by decide, by decide +kernel⟩, zTB_of 1290 (by decide +kernel) rfl, zTB_of 1291 (by decide +kernel) rfl⟩
def I_M_cause : List (Nat × Instr × Nat × Nat) := [(0, .aload_n 0, 1, 1), (1, .getfield 40, 3, 4), (4, .ireturn, 1, 5)]
def M_M_cause : zM := (⟨"CamPiecesModel", "cause", "()I"⟩, prog_10_method_84_code, 1, some .int, I_M_cause)
def R_M_cause : Room := { frames := 0, cells := 0, slots := 0, locals := 0 }
theorem D_M_cause : zDec M_M_cause := (by decide +kernel : ∀ q ∈ I_M_cause, decode prog_10_method_84_code q.1 = .ok (q.2.1, q.2.2.1) ∧ q.1 + q.2.2.1 = q.2.2.2)
theorem C_M_cause : zCv M_M_cause 0 := ⟨⟨zTB_of 9 (by decide +kernel) rfl, zTB_of 1339 (by decide +kernel) rfl, by decide, by decide, by decide +kernel⟩, zTB_of 1337 (by decide +kernel) rfl, zTB_of 1338 (by decide +kernel) rfl⟩
def I_M_isList : List (Nat × Instr × Nat × Nat) := [(0, .iload_n 0, 1, 1), (1, .i2l, 1, 2), (2, .lconst 0, 1, 3), (3, .ldc2_w 144, 3, 6), (6, .invokestatic 80, 3, 9), (9, .ireturn, 1, 10)]
def M_M_isList : zM := (⟨"CamPiecesModel", "isList", "(I)Z"⟩, prog_10_method_85_code, 1, some .boolean, I_M_isList)
def R_M_isList : Room := { frames := 1, cells := 0, slots := 0, locals := 25 }
theorem D_M_isList : zDec M_M_isList := (by decide +kernel : ∀ q ∈ I_M_isList, decode prog_10_method_85_code q.1 = .ok (q.2.1, q.2.2.1) ∧ q.1 + q.2.2.1 = q.2.2.2)
theorem C_M_isList : zCs M_M_isList 1 := ⟨⟨zTB_of 9 (by decide +kernel) rfl, zTB_of 1271 (by decide +kernel) rfl, by decide, by decide, by decide +kernel⟩, zTB_of 1270 (by decide +kernel) rfl⟩
def I_M_list : List (Nat × Instr × Nat × Nat) := [(0, .iload_n 1, 1, 1), (1, .invokestatic 307, 3, 4), (4, .ifCond .ne 5, 3, 7), (7, .iconst (-1), 1, 8), (8, .ireturn, 1, 9), (9, .iload_n 2, 1, 10), (10, .bipush 30, 2, 12), (12, .if_icmp .le 6, 3, 15), (15, .bipush (-2), 2, 17), (17, .ireturn, 1, 18), (18, .iload_n 2, 1, 19), (19, .ifCond .ge 6, 3, 22), (22, .bipush (-14), 2, 24), (24, .ireturn, 1, 25), (25, .aload_n 0, 1, 26), (26, .getfield 56, 3, 29), (29, .iload_n 1, 1, 30), (30, .iload_n 2, 1, 31), (31, .iastore, 1, 32), (32, .iconst 0, 1, 33), (33, .istore_n 3, 1, 34), (34, .iload_n 3, 1, 35), (35, .bipush 30, 2, 37), (37, .if_icmp .ge 21, 3, 40), (40, .aload_n 0, 1, 41), (41, .getfield 59, 3, 44), (44, .bipush 30, 2, 46), (46, .iload_n 1, 1, 47), (47, .imul, 1, 48), (48, .iload_n 3, 1, 49), (49, .iadd, 1, 50), (50, .lconst 0, 1, 51), (51, .lastore, 1, 52), (52, .iinc 3 1, 3, 55), (55, .goto (-21), 3, 58), (58, .iconst 1, 1, 59), (59, .ireturn, 1, 60)]
def M_M_list : zM := (⟨"CamPiecesModel", "list", "(II)I"⟩, prog_10_method_86_code, 4, some .int, I_M_list)
def R_M_list : Room := { frames := 2, cells := 0, slots := 0, locals := 45 }
theorem D_M_list : zDec M_M_list := (by decide +kernel : ∀ q ∈ I_M_list, decode prog_10_method_86_code q.1 = .ok (q.2.1, q.2.2.1) ∧ q.1 + q.2.2.1 = q.2.2.2)
theorem C_M_list : zCv M_M_list 2 := ⟨⟨zTB_of 9 (by decide +kernel) rfl, zTB_of 1343 (by decide +kernel) rfl, by decide, by decide, by decide +kernel⟩, zTB_of 1341 (by decide +kernel) rfl, zTB_of 1342 (by decide +kernel) rfl⟩
def I_M_set : List (Nat × Instr × Nat × Nat) := [(0, .iload_n 1, 1, 1), (1, .invokestatic 307, 3, 4), (4, .ifCond .ne 5, 3, 7), (7, .iconst (-1), 1, 8), (8, .ireturn, 1, 9), (9, .aload_n 0, 1, 10), (10, .getfield 56, 3, 13), (13, .iload_n 1, 1, 14), (14, .iaload, 1, 15), (15, .ifCond .ge 6, 3, 18), (18, .bipush (-11), 2, 20), (20, .ireturn, 1, 21), (21, .iload_n 2, 1, 22), (22, .i2l, 1, 23), (23, .lconst 0, 1, 24), (24, .aload_n 0, 1, 25), (25, .getfield 56, 3, 28), (28, .iload_n 1, 1, 29), (29, .iaload, 1, 30), (30, .iconst 1, 1, 31), (31, .isub, 1, 32), (32, .i2l, 1, 33), (33, .invokestatic 80, 3, 36), (36, .ifCond .ne 6, 3, 39), (39, .bipush (-13), 2, 41), (41, .ireturn, 1, 42), (42, .aload_n 0, 1, 43), (43, .getfield 59, 3, 46), (46, .bipush 30, 2, 48), (48, .iload_n 1, 1, 49), (49, .imul, 1, 50), (50, .iload_n 2, 1, 51), (51, .iadd, 1, 52), (52, .lload_n 3, 1, 53), (53, .lastore, 1, 54), (54, .iconst 1, 1, 55), (55, .ireturn, 1, 56)]
def M_M_set : zM := (⟨"CamPiecesModel", "set", "(IIJ)I"⟩, prog_10_method_87_code, 5, some .int, I_M_set)
def R_M_set : Room := { frames := 2, cells := 0, slots := 0, locals := 45 }
theorem D_M_set : zDec M_M_set := (by decide +kernel : ∀ q ∈ I_M_set, decode prog_10_method_87_code q.1 = .ok (q.2.1, q.2.2.1) ∧ q.1 + q.2.2.1 = q.2.2.2)
theorem C_M_set : zCv M_M_set 3 := ⟨⟨zTB_of 9 (by decide +kernel) rfl, zTB_of 1347 (by decide +kernel) rfl, by decide, by decide, by decide +kernel⟩, zTB_of 1345 (by decide +kernel) rfl, zTB_of 1346 (by decide +kernel) rfl⟩
def I_M_get : List (Nat × Instr × Nat × Nat) := [(0, .iload_n 1, 1, 1), (1, .invokestatic 307, 3, 4), (4, .ifCond .eq 35, 3, 7), (7, .iload_n 2, 1, 8), (8, .i2l, 1, 9), (9, .lconst 0, 1, 10), (10, .aload_n 0, 1, 11), (11, .getfield 56, 3, 14), (14, .iload_n 1, 1, 15), (15, .iaload, 1, 16), (16, .iconst 1, 1, 17), (17, .isub, 1, 18), (18, .i2l, 1, 19), (19, .invokestatic 80, 3, 22), (22, .ifCond .eq 17, 3, 25), (25, .aload_n 0, 1, 26), (26, .getfield 59, 3, 29), (29, .bipush 30, 2, 31), (31, .iload_n 1, 1, 32), (32, .imul, 1, 33), (33, .iload_n 2, 1, 34), (34, .iadd, 1, 35), (35, .laload, 1, 36), (36, .goto 6, 3, 39), (39, .ldc2_w 205, 3, 42), (42, .lreturn, 1, 43)]
def M_M_get : zM := (⟨"CamPiecesModel", "get", "(II)J"⟩, prog_10_method_88_code, 3, some .long, I_M_get)
def R_M_get : Room := { frames := 2, cells := 0, slots := 0, locals := 45 }
theorem D_M_get : zDec M_M_get := (by decide +kernel : ∀ q ∈ I_M_get, decode prog_10_method_88_code q.1 = .ok (q.2.1, q.2.2.1) ∧ q.1 + q.2.2.1 = q.2.2.2)
theorem C_M_get : zCv M_M_get 2 := ⟨⟨zTB_of 9 (by decide +kernel) rfl, zTB_of 1351 (by decide +kernel) rfl, by decide, by decide, by decide +kernel⟩, zTB_of 1349 (by decide +kernel) rfl, zTB_of 1350 (by decide +kernel) rfl⟩
def I_M_image : List (Nat × Instr × Nat × Nat) := [(0, .aload_n 0, 1, 1), (1, .aload_n 0, 1, 2), (2, .getfield 77, 3, 5), (5, .putfield 62, 3, 8), (8, .aload_n 0, 1, 9), (9, .getfield 11, 3, 12), (12, .iconst 0, 1, 13), (13, .aload_n 0, 1, 14), (14, .getfield 65, 3, 17), (17, .iconst 0, 1, 18), (18, .bipush 12, 2, 20), (20, .invokestatic 277, 3, 23), (23, .aload_n 0, 1, 24), (24, .getfield 15, 3, 27), (27, .iconst 0, 1, 28), (28, .aload_n 0, 1, 29), (29, .getfield 68, 3, 32), (32, .iconst 0, 1, 33), (33, .bipush 12, 2, 35), (35, .invokestatic 277, 3, 38), (38, .aload_n 0, 1, 39), (39, .getfield 18, 3, 42), (42, .iconst 0, 1, 43), (43, .aload_n 0, 1, 44), (44, .getfield 71, 3, 47), (47, .iconst 0, 1, 48), (48, .bipush 12, 2, 50), (50, .invokestatic 277, 3, 53), (53, .aload_n 0, 1, 54), (54, .getfield 21, 3, 57), (57, .iconst 0, 1, 58), (58, .aload_n 0, 1, 59), (59, .getfield 74, 3, 62), (62, .iconst 0, 1, 63), (63, .bipush 6, 2, 65), (65, .invokestatic 277, 3, 68), (68, .aload_n 0, 1, 69), (69, .getfield 77, 3, 72), (72, .ireturn, 1, 73)]
def M_M_image : zM := (⟨"CamPiecesModel", "image", "()I"⟩, prog_10_method_89_code, 1, some .int, I_M_image)
def R_M_image : Room := { frames := 1, cells := 0, slots := 0, locals := 60 }
theorem D_M_image : zDec M_M_image := (by decide +kernel : ∀ q ∈ I_M_image, decode prog_10_method_89_code q.1 = .ok (q.2.1, q.2.2.1) ∧ q.1 + q.2.2.1 = q.2.2.2)
theorem C_M_image : zCv M_M_image 0 := ⟨⟨zTB_of 9 (by decide +kernel) rfl, zTB_of 1355 (by decide +kernel) rfl, by decide, by decide, by decide +kernel⟩, zTB_of 1353 (by decide +kernel) rfl, zTB_of 1354 (by decide +kernel) rfl⟩
def I_M_undo : List (Nat × Instr × Nat × Nat) := [(0, .aload_n 0, 1, 1), (1, .getfield 62, 3, 4), (4, .iconst (-1), 1, 5), (5, .if_icmp .ne 6, 3, 8), (8, .bipush (-3), 2, 10), (10, .ireturn, 1, 11), (11, .aload_n 0, 1, 12), (12, .aload_n 0, 1, 13), (13, .getfield 62, 3, 16), (16, .putfield 77, 3, 19), (19, .aload_n 0, 1, 20), (20, .getfield 65, 3, 23), (23, .iconst 0, 1, 24), (24, .aload_n 0, 1, 25), (25, .getfield 11, 3, 28), (28, .iconst 0, 1, 29), (29, .bipush 12, 2, 31), (31, .invokestatic 277, 3, 34), (34, .aload_n 0, 1, 35), (35, .getfield 68, 3, 38), (38, .iconst 0, 1, 39), (39, .aload_n 0, 1, 40), (40, .getfield 15, 3, 43), (43, .iconst 0, 1, 44), (44, .bipush 12, 2, 46), (46, .invokestatic 277, 3, 49), (49, .aload_n 0, 1, 50), (50, .getfield 71, 3, 53), (53, .iconst 0, 1, 54), (54, .aload_n 0, 1, 55), (55, .getfield 18, 3, 58), (58, .iconst 0, 1, 59), (59, .bipush 12, 2, 61), (61, .invokestatic 277, 3, 64), (64, .aload_n 0, 1, 65), (65, .getfield 74, 3, 68), (68, .iconst 0, 1, 69), (69, .aload_n 0, 1, 70), (70, .getfield 21, 3, 73), (73, .iconst 0, 1, 74), (74, .bipush 6, 2, 76), (76, .invokestatic 277, 3, 79), (79, .aload_n 0, 1, 80), (80, .getfield 77, 3, 83), (83, .ireturn, 1, 84)]
def M_M_undo : zM := (⟨"CamPiecesModel", "undo", "()I"⟩, prog_10_method_90_code, 1, some .int, I_M_undo)
def R_M_undo : Room := { frames := 1, cells := 0, slots := 0, locals := 60 }
theorem D_M_undo : zDec M_M_undo := (by decide +kernel : ∀ q ∈ I_M_undo, decode prog_10_method_90_code q.1 = .ok (q.2.1, q.2.2.1) ∧ q.1 + q.2.2.1 = q.2.2.2)
theorem C_M_undo : zCv M_M_undo 0 := ⟨⟨zTB_of 9 (by decide +kernel) rfl, zTB_of 1359 (by decide +kernel) rfl, by decide, by decide, by decide +kernel⟩, zTB_of 1357 (by decide +kernel) rfl, zTB_of 1358 (by decide +kernel) rfl⟩
theorem l_M_3 : Cond.methodLink "CamPiecesModel" 3 ⟨"java/lang/Object", "<init>", "()V"⟩ ∈ zTB := zTB_of 875 (by decide +kernel) rfl
theorem f_M_11 : zF "CamPiecesModel" 11 8 1 (tyX8 1) true := ⟨_, _, _, _, zck_8, by decide, rfl, rfl, zTB_of 877 (by decide +kernel) rfl⟩
theorem fl_M_11 : Cond.fieldLink "CamPiecesModel" 11 (TX8 1).1 (TX8 1).2.1 (TX8 1).2.2.1 ∈ zTB := zTB_of 877 (by decide +kernel) rfl
theorem f_M_15 : zF "CamPiecesModel" 15 8 2 (tyX8 2) true := ⟨_, _, _, _, zck_8, by decide, rfl, rfl, zTB_of 878 (by decide +kernel) rfl⟩
theorem fl_M_15 : Cond.fieldLink "CamPiecesModel" 15 (TX8 2).1 (TX8 2).2.1 (TX8 2).2.2.1 ∈ zTB := zTB_of 878 (by decide +kernel) rfl
theorem f_M_18 : zF "CamPiecesModel" 18 8 3 (tyX8 3) true := ⟨_, _, _, _, zck_8, by decide, rfl, rfl, zTB_of 879 (by decide +kernel) rfl⟩
theorem fl_M_18 : Cond.fieldLink "CamPiecesModel" 18 (TX8 3).1 (TX8 3).2.1 (TX8 3).2.2.1 ∈ zTB := zTB_of 879 (by decide +kernel) rfl
theorem f_M_21 : zF "CamPiecesModel" 21 8 4 (tyX8 4) true := ⟨_, _, _, _, zck_8, by decide, rfl, rfl, zTB_of 880 (by decide +kernel) rfl⟩
theorem fl_M_21 : Cond.fieldLink "CamPiecesModel" 21 (TX8 4).1 (TX8 4).2.1 (TX8 4).2.2.1 ∈ zTB := zTB_of 880 (by decide +kernel) rfl
theorem f_M_24 : zF "CamPiecesModel" 24 8 5 (tyX8 5) true := ⟨_, _, _, _, zck_8, by decide, rfl, rfl, zTB_of 881 (by decide +kernel) rfl⟩
theorem fl_M_24 : Cond.fieldLink "CamPiecesModel" 24 (TX8 5).1 (TX8 5).2.1 (TX8 5).2.2.1 ∈ zTB := zTB_of 881 (by decide +kernel) rfl
theorem f_M_27 : zF "CamPiecesModel" 27 8 6 (tyX8 6) true := ⟨_, _, _, _, zck_8, by decide, rfl, rfl, zTB_of 882 (by decide +kernel) rfl⟩
theorem fl_M_27 : Cond.fieldLink "CamPiecesModel" 27 (TX8 6).1 (TX8 6).2.1 (TX8 6).2.2.1 ∈ zTB := zTB_of 882 (by decide +kernel) rfl
theorem f_M_30 : zF "CamPiecesModel" 30 8 15 (tyX8 15) true := ⟨_, _, _, _, zck_8, by decide, rfl, rfl, zTB_of 891 (by decide +kernel) rfl⟩
theorem fl_M_30 : Cond.fieldLink "CamPiecesModel" 30 (TX8 15).1 (TX8 15).2.1 (TX8 15).2.2.1 ∈ zTB := zTB_of 891 (by decide +kernel) rfl
theorem f_M_33 : zF "CamPiecesModel" 33 8 16 (tyX8 16) true := ⟨_, _, _, _, zck_8, by decide, rfl, rfl, zTB_of 892 (by decide +kernel) rfl⟩
theorem fl_M_33 : Cond.fieldLink "CamPiecesModel" 33 (TX8 16).1 (TX8 16).2.1 (TX8 16).2.2.1 ∈ zTB := zTB_of 892 (by decide +kernel) rfl
theorem f_M_37 : zF "CamPiecesModel" 37 8 17 (tyX8 17) true := ⟨_, _, _, _, zck_8, by decide, rfl, rfl, zTB_of 893 (by decide +kernel) rfl⟩
theorem fl_M_37 : Cond.fieldLink "CamPiecesModel" 37 (TX8 17).1 (TX8 17).2.1 (TX8 17).2.2.1 ∈ zTB := zTB_of 893 (by decide +kernel) rfl
theorem f_M_40 : zF "CamPiecesModel" 40 8 22 (tyX8 22) false := ⟨_, _, _, _, zck_8, by decide, rfl, rfl, zTB_of 898 (by decide +kernel) rfl⟩
theorem f_M_44 : zF "CamPiecesModel" 44 8 24 (tyX8 24) true := ⟨_, _, _, _, zck_8, by decide, rfl, rfl, zTB_of 900 (by decide +kernel) rfl⟩
theorem fl_M_44 : Cond.fieldLink "CamPiecesModel" 44 (TX8 24).1 (TX8 24).2.1 (TX8 24).2.2.1 ∈ zTB := zTB_of 900 (by decide +kernel) rfl
theorem f_M_47 : zF "CamPiecesModel" 47 8 25 (tyX8 25) true := ⟨_, _, _, _, zck_8, by decide, rfl, rfl, zTB_of 901 (by decide +kernel) rfl⟩
theorem fl_M_47 : Cond.fieldLink "CamPiecesModel" 47 (TX8 25).1 (TX8 25).2.1 (TX8 25).2.2.1 ∈ zTB := zTB_of 901 (by decide +kernel) rfl
theorem f_M_50 : zF "CamPiecesModel" 50 8 26 (tyX8 26) true := ⟨_, _, _, _, zck_8, by decide, rfl, rfl, zTB_of 902 (by decide +kernel) rfl⟩
theorem fl_M_50 : Cond.fieldLink "CamPiecesModel" 50 (TX8 26).1 (TX8 26).2.1 (TX8 26).2.2.1 ∈ zTB := zTB_of 902 (by decide +kernel) rfl
theorem f_M_53 : zF "CamPiecesModel" 53 8 27 (tyX8 27) true := ⟨_, _, _, _, zck_8, by decide, rfl, rfl, zTB_of 903 (by decide +kernel) rfl⟩
theorem fl_M_53 : Cond.fieldLink "CamPiecesModel" 53 (TX8 27).1 (TX8 27).2.1 (TX8 27).2.2.1 ∈ zTB := zTB_of 903 (by decide +kernel) rfl
theorem f_M_56 : zF "CamPiecesModel" 56 8 28 (tyX8 28) true := ⟨_, _, _, _, zck_8, by decide, rfl, rfl, zTB_of 904 (by decide +kernel) rfl⟩
theorem fl_M_56 : Cond.fieldLink "CamPiecesModel" 56 (TX8 28).1 (TX8 28).2.1 (TX8 28).2.2.1 ∈ zTB := zTB_of 904 (by decide +kernel) rfl
theorem f_M_59 : zF "CamPiecesModel" 59 8 29 (tyX8 29) true := ⟨_, _, _, _, zck_8, by decide, rfl, rfl, zTB_of 905 (by decide +kernel) rfl⟩
theorem fl_M_59 : Cond.fieldLink "CamPiecesModel" 59 (TX8 29).1 (TX8 29).2.1 (TX8 29).2.2.1 ∈ zTB := zTB_of 905 (by decide +kernel) rfl
theorem f_M_62 : zF "CamPiecesModel" 62 8 30 (tyX8 30) false := ⟨_, _, _, _, zck_8, by decide, rfl, rfl, zTB_of 906 (by decide +kernel) rfl⟩
theorem f_M_65 : zF "CamPiecesModel" 65 8 31 (tyX8 31) true := ⟨_, _, _, _, zck_8, by decide, rfl, rfl, zTB_of 907 (by decide +kernel) rfl⟩
theorem fl_M_65 : Cond.fieldLink "CamPiecesModel" 65 (TX8 31).1 (TX8 31).2.1 (TX8 31).2.2.1 ∈ zTB := zTB_of 907 (by decide +kernel) rfl
theorem f_M_68 : zF "CamPiecesModel" 68 8 32 (tyX8 32) true := ⟨_, _, _, _, zck_8, by decide, rfl, rfl, zTB_of 908 (by decide +kernel) rfl⟩
theorem fl_M_68 : Cond.fieldLink "CamPiecesModel" 68 (TX8 32).1 (TX8 32).2.1 (TX8 32).2.2.1 ∈ zTB := zTB_of 908 (by decide +kernel) rfl
theorem f_M_71 : zF "CamPiecesModel" 71 8 33 (tyX8 33) true := ⟨_, _, _, _, zck_8, by decide, rfl, rfl, zTB_of 909 (by decide +kernel) rfl⟩
theorem fl_M_71 : Cond.fieldLink "CamPiecesModel" 71 (TX8 33).1 (TX8 33).2.1 (TX8 33).2.2.1 ∈ zTB := zTB_of 909 (by decide +kernel) rfl
theorem f_M_74 : zF "CamPiecesModel" 74 8 34 (tyX8 34) true := ⟨_, _, _, _, zck_8, by decide, rfl, rfl, zTB_of 910 (by decide +kernel) rfl⟩
theorem fl_M_74 : Cond.fieldLink "CamPiecesModel" 74 (TX8 34).1 (TX8 34).2.1 (TX8 34).2.2.1 ∈ zTB := zTB_of 910 (by decide +kernel) rfl
theorem f_M_77 : zF "CamPiecesModel" 77 8 0 (tyX8 0) false := ⟨_, _, _, _, zck_8, by decide, rfl, rfl, zTB_of 876 (by decide +kernel) rfl⟩
theorem l_M_80 : Cond.methodLink "CamPiecesModel" 80 ⟨"CamPiecesModel", "in", "(JJJ)Z"⟩ ∈ zTB := zTB_of 987 (by decide +kernel) rfl
theorem k_M_84 : Cond.constantLong "CamPiecesModel" 84 (-99) ∈ zTB := zTB_of 994 (by decide +kernel) rfl
theorem k_M_86 : Cond.constantLong "CamPiecesModel" 86 (99) ∈ zTB := zTB_of 995 (by decide +kernel) rfl
theorem l_M_88 : Cond.methodLink "CamPiecesModel" 88 ⟨"CamPiecesModel", "total", "()I"⟩ ∈ zTB := zTB_of 996 (by decide +kernel) rfl
theorem l_M_92 : Cond.methodLink "CamPiecesModel" 92 ⟨"CamPiecesModel", "ahead", "(I)I"⟩ ∈ zTB := zTB_of 1022 (by decide +kernel) rfl
theorem k_M_96 : Cond.constantLong "CamPiecesModel" 96 (5) ∈ zTB := zTB_of 986 (by decide +kernel) rfl
theorem k_M_98 : Cond.constantLong "CamPiecesModel" 98 (360) ∈ zTB := zTB_of 990 (by decide +kernel) rfl
theorem l_M_100 : Cond.methodLink "CamPiecesModel" 100 ⟨"CamPiecesModel", "isRise", "(II)Z"⟩ ∈ zTB := zTB_of 991 (by decide +kernel) rfl
theorem l_M_104 : Cond.methodLink "CamPiecesModel" 104 ⟨"CamPiecesModel", "isPiece", "(I)Z"⟩ ∈ zTB := zTB_of 1008 (by decide +kernel) rfl
theorem k_M_108 : Cond.constantLong "CamPiecesModel" 108 (2) ∈ zTB := zTB_of 1012 (by decide +kernel) rfl
theorem l_M_110 : Cond.methodLink "CamPiecesModel" 110 ⟨"CamPiecesModel", "of", "(II)I"⟩ ∈ zTB := zTB_of 1013 (by decide +kernel) rfl
theorem k_M_114 : Cond.constantLong "CamPiecesModel" 114 (4) ∈ zTB := zTB_of 1017 (by decide +kernel) rfl
theorem l_M_116 : Cond.methodLink "CamPiecesModel" 116 ⟨"CamPiecesModel", "begin", "(I)I"⟩ ∈ zTB := zTB_of 1018 (by decide +kernel) rfl
theorem l_M_119 : Cond.methodLink "CamPiecesModel" 119 ⟨"CamPiecesModel", "isClosed", "()Z"⟩ ∈ zTB := zTB_of 1035 (by decide +kernel) rfl
theorem f_M_123 : zF "CamPiecesModel" 123 8 18 (tyX8 18) false := ⟨_, _, _, _, zck_8, by decide, rfl, rfl, zTB_of 894 (by decide +kernel) rfl⟩
theorem l_M_126 : Cond.methodLink "CamPiecesModel" 126 ⟨"CamPiecesModel", "mirrored", "(I)I"⟩ ∈ zTB := zTB_of 1043 (by decide +kernel) rfl
theorem l_M_129 : Cond.methodLink "CamPiecesModel" 129 ⟨"CamPiecesModel", "areAlike", "(II)Z"⟩ ∈ zTB := zTB_of 1050 (by decide +kernel) rfl
theorem l_M_132 : Cond.methodLink "CamPiecesModel" 132 ⟨"java/lang/Math", "abs", "(I)I"⟩ ∈ zTB := zTB_of 1062 (by decide +kernel) rfl
theorem l_M_137 : Cond.methodLink "CamPiecesModel" 137 ⟨"java/lang/Math", "abs", "(J)J"⟩ ∈ zTB := zTB_of 1108 (by decide +kernel) rfl
theorem l_M_140 : Cond.methodLink "CamPiecesModel" 140 ⟨"CamPiecesModel", "common", "(JJ)J"⟩ ∈ zTB := zTB_of 1105 (by decide +kernel) rfl
theorem k_M_144 : Cond.constantLong "CamPiecesModel" 144 (3) ∈ zTB := zTB_of 1085 (by decide +kernel) rfl
theorem k_M_146 : Cond.constantLong "CamPiecesModel" 146 (10) ∈ zTB := zTB_of 1086 (by decide +kernel) rfl
theorem k_M_148 : Cond.constantLong "CamPiecesModel" 148 (15) ∈ zTB := zTB_of 1087 (by decide +kernel) rfl
theorem k_M_150 : Cond.constantLong "CamPiecesModel" 150 (6) ∈ zTB := zTB_of 1088 (by decide +kernel) rfl
theorem l_M_152 : Cond.methodLink "CamPiecesModel" 152 ⟨"CamPiecesModel", "fifth", "(J)J"⟩ ∈ zTB := zTB_of 1079 (by decide +kernel) rfl
theorem k_M_155 : Cond.constantLong "CamPiecesModel" 155 (30) ∈ zTB := zTB_of 1092 (by decide +kernel) rfl
theorem k_M_157 : Cond.constantLong "CamPiecesModel" 157 (-2) ∈ zTB := zTB_of 1096 (by decide +kernel) rfl
theorem k_M_159 : Cond.constantLong "CamPiecesModel" 159 (12) ∈ zTB := zTB_of 1097 (by decide +kernel) rfl
theorem k_M_161 : Cond.constantLong "CamPiecesModel" 161 (60) ∈ zTB := zTB_of 1098 (by decide +kernel) rfl
theorem k_M_163 : Cond.constantLong "CamPiecesModel" 163 (180) ∈ zTB := zTB_of 1099 (by decide +kernel) rfl
theorem k_M_165 : Cond.constantLong "CamPiecesModel" 165 (120) ∈ zTB := zTB_of 1100 (by decide +kernel) rfl
theorem l_M_167 : Cond.methodLink "CamPiecesModel" 167 ⟨"CamPiecesModel", "isAngle", "(I)Z"⟩ ∈ zTB := zTB_of 1075 (by decide +kernel) rfl
theorem f_M_170 : zF "CamPiecesModel" 170 8 7 (tyX8 7) false := ⟨_, _, _, _, zck_8, by decide, rfl, rfl, zTB_of 883 (by decide +kernel) rfl⟩
theorem f_M_173 : zF "CamPiecesModel" 173 8 8 (tyX8 8) false := ⟨_, _, _, _, zck_8, by decide, rfl, rfl, zTB_of 884 (by decide +kernel) rfl⟩
theorem l_M_176 : Cond.methodLink "CamPiecesModel" 176 ⟨"CamPiecesModel", "finds", "(II)Z"⟩ ∈ zTB := zTB_of 1071 (by decide +kernel) rfl
theorem f_M_179 : zF "CamPiecesModel" 179 8 12 (tyX8 12) false := ⟨_, _, _, _, zck_8, by decide, rfl, rfl, zTB_of 888 (by decide +kernel) rfl⟩
theorem l_M_183 : Cond.methodLink "CamPiecesModel" 183 ⟨"CamPiecesModel", "share", "(IJJ)J"⟩ ∈ zTB := zTB_of 1082 (by decide +kernel) rfl
theorem f_M_187 : zF "CamPiecesModel" 187 8 9 (tyX8 9) false := ⟨_, _, _, _, zck_8, by decide, rfl, rfl, zTB_of 885 (by decide +kernel) rfl⟩
theorem l_M_190 : Cond.methodLink "CamPiecesModel" 190 ⟨"CamPiecesModel", "shareSlope", "(IJJ)J"⟩ ∈ zTB := zTB_of 1089 (by decide +kernel) rfl
theorem f_M_193 : zF "CamPiecesModel" 193 8 10 (tyX8 10) false := ⟨_, _, _, _, zck_8, by decide, rfl, rfl, zTB_of 886 (by decide +kernel) rfl⟩
theorem l_M_196 : Cond.methodLink "CamPiecesModel" 196 ⟨"CamPiecesModel", "shareBend", "(IJJ)J"⟩ ∈ zTB := zTB_of 1093 (by decide +kernel) rfl
theorem f_M_199 : zF "CamPiecesModel" 199 8 11 (tyX8 11) false := ⟨_, _, _, _, zck_8, by decide, rfl, rfl, zTB_of 887 (by decide +kernel) rfl⟩
theorem l_M_202 : Cond.methodLink "CamPiecesModel" 202 ⟨"CamPiecesModel", "looks", "(II)Z"⟩ ∈ zTB := zTB_of 1067 (by decide +kernel) rfl
theorem k_M_205 : Cond.constantLong "CamPiecesModel" 205 (-9223372036854775808) ∈ zTB := zTB_of 1101 (by decide +kernel) rfl
theorem l_M_207 : Cond.methodLink "CamPiecesModel" 207 ⟨"CamPiecesModel", "lowest", "(JJI)J"⟩ ∈ zTB := zTB_of 1102 (by decide +kernel) rfl
theorem f_M_211 : zF "CamPiecesModel" 211 8 13 (tyX8 13) false := ⟨_, _, _, _, zck_8, by decide, rfl, rfl, zTB_of 889 (by decide +kernel) rfl⟩
theorem f_M_214 : zF "CamPiecesModel" 214 8 14 (tyX8 14) false := ⟨_, _, _, _, zck_8, by decide, rfl, rfl, zTB_of 890 (by decide +kernel) rfl⟩
theorem l_M_217 : Cond.methodLink "CamPiecesModel" 217 ⟨"CamPiecesModel", "isJoin", "(I)Z"⟩ ∈ zTB := zTB_of 1113 (by decide +kernel) rfl
theorem l_M_220 : Cond.methodLink "CamPiecesModel" 220 ⟨"CamPiecesModel", "jumps", "(II)V"⟩ ∈ zTB := zTB_of 1117 (by decide +kernel) rfl
theorem l_M_224 : Cond.methodLink "CamPiecesModel" 224 ⟨"CamPiecesModel", "joinOf", "(I)I"⟩ ∈ zTB := zTB_of 1125 (by decide +kernel) rfl
theorem k_M_227 : Cond.constantLong "CamPiecesModel" 227 (2000) ∈ zTB := zTB_of 1137 (by decide +kernel) rfl
theorem l_M_229 : Cond.methodLink "CamPiecesModel" 229 ⟨"CamPiecesModel", "isLess", "(JJJJ)Z"⟩ ∈ zTB := zTB_of 1138 (by decide +kernel) rfl
theorem k_M_233 : Cond.constantLong "CamPiecesModel" 233 (3249) ∈ zTB := zTB_of 1149 (by decide +kernel) rfl
theorem l_M_235 : Cond.methodLink "CamPiecesModel" 235 ⟨"CamPiecesModel", "curveNow", "()J"⟩ ∈ zTB := zTB_of 1145 (by decide +kernel) rfl
theorem k_M_239 : Cond.constantLong "CamPiecesModel" 239 (57) ∈ zTB := zTB_of 1154 (by decide +kernel) rfl
theorem l_M_241 : Cond.methodLink "CamPiecesModel" 241 ⟨"CamPiecesModel", "forceNow", "(II)J"⟩ ∈ zTB := zTB_of 1159 (by decide +kernel) rfl
theorem l_M_245 : Cond.methodLink "CamPiecesModel" 245 ⟨"CamPiecesModel", "isSo", "(II)Z"⟩ ∈ zTB := zTB_of 1167 (by decide +kernel) rfl
theorem l_M_248 : Cond.methodLink "CamPiecesModel" 248 ⟨"java/lang/Math", "floorDiv", "(JJ)J"⟩ ∈ zTB := zTB_of 1182 (by decide +kernel) rfl
theorem l_M_251 : Cond.methodLink "CamPiecesModel" 251 ⟨"CamPiecesModel", "justAbove", "(JJ)J"⟩ ∈ zTB := zTB_of 1179 (by decide +kernel) rfl
theorem l_M_254 : Cond.methodLink "CamPiecesModel" 254 ⟨"java/lang/Math", "max", "(JJ)J"⟩ ∈ zTB := zTB_of 1183 (by decide +kernel) rfl
theorem k_M_257 : Cond.constantLong "CamPiecesModel" 257 (999) ∈ zTB := zTB_of 1184 (by decide +kernel) rfl
theorem k_M_259 : Cond.constantLong "CamPiecesModel" 259 (9999) ∈ zTB := zTB_of 1185 (by decide +kernel) rfl
theorem l_M_261 : Cond.methodLink "CamPiecesModel" 261 ⟨"CamPiecesModel", "leastAbove", "(Z)I"⟩ ∈ zTB := zTB_of 1175 (by decide +kernel) rfl
theorem k_M_265 : Cond.constantLong "CamPiecesModel" 265 (100) ∈ zTB := zTB_of 1202 (by decide +kernel) rfl
theorem l_M_267 : Cond.methodLink "CamPiecesModel" 267 ⟨"CamPiecesModel", "isGentle", "(II)Z"⟩ ∈ zTB := zTB_of 1198 (by decide +kernel) rfl
theorem l_M_270 : Cond.methodLink "CamPiecesModel" 270 ⟨"CamPiecesModel", "floatsAt", "(III)Z"⟩ ∈ zTB := zTB_of 1207 (by decide +kernel) rfl
theorem l_M_274 : Cond.methodLink "CamPiecesModel" 274 ⟨"CamPiecesModel", "floatsBy", "(II)Z"⟩ ∈ zTB := zTB_of 1215 (by decide +kernel) rfl
theorem l_M_277 : Cond.methodLink "CamPiecesModel" 277 ⟨"java/lang/System", "arraycopy", "(Ljava/lang/Object;ILjava/lang/Object;II)V"⟩ ∈ zTB := zTB_of 1227 (by decide +kernel) rfl
theorem l_M_283 : Cond.methodLink "CamPiecesModel" 283 ⟨"CamPiecesModel", "bits", "(I)I"⟩ ∈ zTB := zTB_of 1230 (by decide +kernel) rfl
theorem l_M_286 : Cond.methodLink "CamPiecesModel" 286 ⟨"CamPiecesModel", "hasCorner", "()Z"⟩ ∈ zTB := zTB_of 1233 (by decide +kernel) rfl
theorem l_M_289 : Cond.methodLink "CamPiecesModel" 289 ⟨"CamPiecesModel", "nearest", "(JJ)J"⟩ ∈ zTB := zTB_of 1249 (by decide +kernel) rfl
theorem l_M_292 : Cond.methodLink "CamPiecesModel" 292 ⟨"CamPiecesModel", "sampleOf", "(IIII)J"⟩ ∈ zTB := zTB_of 1245 (by decide +kernel) rfl
theorem l_M_296 : Cond.methodLink "CamPiecesModel" 296 ⟨"CamPiecesModel", "sampleAt", "(I)J"⟩ ∈ zTB := zTB_of 1241 (by decide +kernel) rfl
theorem l_M_300 : Cond.methodLink "CamPiecesModel" 300 ⟨"java/lang/Math", "min", "(II)I"⟩ ∈ zTB := zTB_of 1260 (by decide +kernel) rfl
theorem l_M_303 : Cond.methodLink "CamPiecesModel" 303 ⟨"CamPiecesModel", "errs", "(I)V"⟩ ∈ zTB := zTB_of 1256 (by decide +kernel) rfl
theorem l_M_307 : Cond.methodLink "CamPiecesModel" 307 ⟨"CamPiecesModel", "isList", "(I)Z"⟩ ∈ zTB := zTB_of 1269 (by decide +kernel) rfl
theorem l_M_310 : Cond.methodLink "CamPiecesModel" 310 ⟨"CamPiecesModel", "isSeen", "(IIII)Z"⟩ ∈ zTB := zTB_of 1276 (by decide +kernel) rfl
theorem k_M_314 : Cond.constantLong "CamPiecesModel" 314 (127) ∈ zTB := zTB_of 1284 (by decide +kernel) rfl
theorem l_M_316 : Cond.methodLink "CamPiecesModel" 316 ⟨"CamPiecesModel", "byteAt", "(I)I"⟩ ∈ zTB := zTB_of 1301 (by decide +kernel) rfl
theorem k_M_319 : Cond.constantLong "CamPiecesModel" 319 (48) ∈ zTB := zTB_of 1331 (by decide +kernel) rfl
theorem f_M_321 : zF "CamPiecesModel" 321 8 20 (tyX8 20) false := ⟨_, _, _, _, zck_8, by decide, rfl, rfl, zTB_of 896 (by decide +kernel) rfl⟩
theorem f_M_324 : zF "CamPiecesModel" 324 8 21 (tyX8 21) false := ⟨_, _, _, _, zck_8, by decide, rfl, rfl, zTB_of 897 (by decide +kernel) rfl⟩
theorem f_M_327 : zF "CamPiecesModel" 327 8 19 (tyX8 19) false := ⟨_, _, _, _, zck_8, by decide, rfl, rfl, zTB_of 895 (by decide +kernel) rfl⟩
theorem l_M_330 : Cond.methodLink "CamPiecesModel" 330 ⟨"CamPiecesModel", "fails", "(II)V"⟩ ∈ zTB := zTB_of 1311 (by decide +kernel) rfl
theorem l_M_333 : Cond.methodLink "CamPiecesModel" 333 ⟨"CamPiecesModel", "failsHere", "()V"⟩ ∈ zTB := zTB_of 1319 (by decide +kernel) rfl
theorem k_M_336 : Cond.constantLong "CamPiecesModel" 336 (97) ∈ zTB := zTB_of 1305 (by decide +kernel) rfl
theorem k_M_338 : Cond.constantLong "CamPiecesModel" 338 (122) ∈ zTB := zTB_of 1306 (by decide +kernel) rfl
theorem l_M_340 : Cond.methodLink "CamPiecesModel" 340 ⟨"CamPiecesModel", "isWord", "(II)Z"⟩ ∈ zTB := zTB_of 1307 (by decide +kernel) rfl
theorem l_M_343 : Cond.methodLink "CamPiecesModel" 343 ⟨"CamPiecesModel", "isFigure", "(I)Z"⟩ ∈ zTB := zTB_of 1327 (by decide +kernel) rfl
theorem l_M_346 : Cond.methodLink "CamPiecesModel" 346 ⟨"CamPiecesModel", "wordRead", "()I"⟩ ∈ zTB := zTB_of 1297 (by decide +kernel) rfl
theorem l_M_349 : Cond.methodLink "CamPiecesModel" 349 ⟨"CamPiecesModel", "takes", "(I)V"⟩ ∈ zTB := zTB_of 1315 (by decide +kernel) rfl
theorem l_M_352 : Cond.methodLink "CamPiecesModel" 352 ⟨"CamPiecesModel", "figures", "(III)I"⟩ ∈ zTB := zTB_of 1323 (by decide +kernel) rfl
theorem f_M_356 : zF "CamPiecesModel" 356 8 23 (tyX8 23) false := ⟨_, _, _, _, zck_8, by decide, rfl, rfl, zTB_of 899 (by decide +kernel) rfl⟩
theorem l_M_359 : Cond.methodLink "CamPiecesModel" 359 ⟨"CamPiecesModel", "pieceRead", "()V"⟩ ∈ zTB := zTB_of 1293 (by decide +kernel) rfl
theorem l_M_362 : Cond.methodLink "CamPiecesModel" 362 ⟨"CamPiecesModel", "unfit", "()I"⟩ ∈ zTB := zTB_of 1332 (by decide +kernel) rfl
theorem n_L_7 : Cond.classLink "CamPiecesLaw" 7 "CamPieces" ∈ zTB := zTB_of 17 (by decide +kernel) rfl
theorem l_L_9 : Cond.methodLink "CamPiecesLaw" 9 ⟨"CamPieces", "<init>", "()V"⟩ ∈ zTB := zTB_of 19 (by decide +kernel) rfl
theorem n_L_10 : Cond.classLink "CamPiecesLaw" 10 "CamPiecesModel" ∈ zTB := zTB_of 870 (by decide +kernel) rfl
theorem l_L_12 : Cond.methodLink "CamPiecesLaw" 12 ⟨"CamPiecesModel", "<init>", "()V"⟩ ∈ zTB := zTB_of 872 (by decide +kernel) rfl
theorem l_L_13 : Cond.methodLink "CamPiecesLaw" 13 ⟨"CamPieces", "piece", "(III)I"⟩ ∈ zTB := zTB_of 235 (by decide +kernel) rfl
theorem l_L_17 : Cond.methodLink "CamPiecesLaw" 17 ⟨"CamPiecesModel", "piece", "(III)I"⟩ ∈ zTB := zTB_of 982 (by decide +kernel) rfl
theorem l_L_18 : Cond.methodLink "CamPiecesLaw" 18 ⟨"CamPieces", "drop", "()I"⟩ ∈ zTB := zTB_of 272 (by decide +kernel) rfl
theorem l_L_22 : Cond.methodLink "CamPiecesLaw" 22 ⟨"CamPiecesModel", "drop", "()I"⟩ ∈ zTB := zTB_of 1000 (by decide +kernel) rfl
theorem l_L_23 : Cond.methodLink "CamPiecesLaw" 23 ⟨"CamPieces", "put", "(III)I"⟩ ∈ zTB := zTB_of 280 (by decide +kernel) rfl
theorem l_L_26 : Cond.methodLink "CamPiecesLaw" 26 ⟨"CamPiecesModel", "put", "(III)I"⟩ ∈ zTB := zTB_of 1004 (by decide +kernel) rfl
theorem l_L_27 : Cond.methodLink "CamPiecesLaw" 27 ⟨"CamPieces", "of", "(II)I"⟩ ∈ zTB := zTB_of 304 (by decide +kernel) rfl
theorem l_L_31 : Cond.methodLink "CamPiecesLaw" 31 ⟨"CamPiecesModel", "of", "(II)I"⟩ ∈ zTB := zTB_of 1026 (by decide +kernel) rfl
theorem l_L_32 : Cond.methodLink "CamPiecesLaw" 32 ⟨"CamPieces", "tell", "(II)I"⟩ ∈ zTB := zTB_of 313 (by decide +kernel) rfl
theorem l_L_35 : Cond.methodLink "CamPiecesLaw" 35 ⟨"CamPiecesModel", "tell", "(II)I"⟩ ∈ zTB := zTB_of 1027 (by decide +kernel) rfl
theorem l_L_36 : Cond.methodLink "CamPiecesLaw" 36 ⟨"CamPieces", "told", "(I)I"⟩ ∈ zTB := zTB_of 321 (by decide +kernel) rfl
theorem l_L_40 : Cond.methodLink "CamPiecesLaw" 40 ⟨"CamPiecesModel", "told", "(I)I"⟩ ∈ zTB := zTB_of 1031 (by decide +kernel) rfl
theorem l_L_41 : Cond.methodLink "CamPiecesLaw" 41 ⟨"CamPieces", "mirror", "()I"⟩ ∈ zTB := zTB_of 335 (by decide +kernel) rfl
theorem l_L_44 : Cond.methodLink "CamPiecesLaw" 44 ⟨"CamPiecesModel", "mirror", "()I"⟩ ∈ zTB := zTB_of 1039 (by decide +kernel) rfl
theorem l_L_45 : Cond.methodLink "CamPiecesLaw" 45 ⟨"CamPieces", "alike", "(I)I"⟩ ∈ zTB := zTB_of 346 (by decide +kernel) rfl
theorem l_L_48 : Cond.methodLink "CamPiecesLaw" 48 ⟨"CamPiecesModel", "alike", "(I)I"⟩ ∈ zTB := zTB_of 1046 (by decide +kernel) rfl
theorem l_L_49 : Cond.methodLink "CamPiecesLaw" 49 ⟨"CamPieces", "unlike", "(I)I"⟩ ∈ zTB := zTB_of 354 (by decide +kernel) rfl
theorem l_L_52 : Cond.methodLink "CamPiecesLaw" 52 ⟨"CamPiecesModel", "unlike", "(I)I"⟩ ∈ zTB := zTB_of 1054 (by decide +kernel) rfl
theorem l_L_53 : Cond.methodLink "CamPiecesLaw" 53 ⟨"CamPieces", "steepestPiece", "()I"⟩ ∈ zTB := zTB_of 363 (by decide +kernel) rfl
theorem l_L_56 : Cond.methodLink "CamPiecesLaw" 56 ⟨"CamPiecesModel", "steepestPiece", "()I"⟩ ∈ zTB := zTB_of 1058 (by decide +kernel) rfl
theorem l_L_57 : Cond.methodLink "CamPiecesLaw" 57 ⟨"CamPieces", "at", "(IIII)J"⟩ ∈ zTB := zTB_of 374 (by decide +kernel) rfl
theorem l_L_61 : Cond.methodLink "CamPiecesLaw" 61 ⟨"CamPiecesModel", "at", "(IIII)J"⟩ ∈ zTB := zTB_of 1063 (by decide +kernel) rfl
theorem l_L_62 : Cond.methodLink "CamPiecesLaw" 62 ⟨"CamPieces", "jump", "(III)J"⟩ ∈ zTB := zTB_of 427 (by decide +kernel) rfl
theorem l_L_66 : Cond.methodLink "CamPiecesLaw" 66 ⟨"CamPiecesModel", "jump", "(III)J"⟩ ∈ zTB := zTB_of 1109 (by decide +kernel) rfl
theorem l_L_67 : Cond.methodLink "CamPiecesLaw" 67 ⟨"CamPieces", "join", "(I)I"⟩ ∈ zTB := zTB_of 456 (by decide +kernel) rfl
theorem l_L_70 : Cond.methodLink "CamPiecesLaw" 70 ⟨"CamPiecesModel", "join", "(I)I"⟩ ∈ zTB := zTB_of 1121 (by decide +kernel) rfl
theorem l_L_71 : Cond.methodLink "CamPiecesLaw" 71 ⟨"CamPieces", "joins", "(I)I"⟩ ∈ zTB := zTB_of 464 (by decide +kernel) rfl
theorem l_L_74 : Cond.methodLink "CamPiecesLaw" 74 ⟨"CamPiecesModel", "joins", "(I)I"⟩ ∈ zTB := zTB_of 1129 (by decide +kernel) rfl
theorem l_L_75 : Cond.methodLink "CamPiecesLaw" 75 ⟨"CamPieces", "extreme", "(I)I"⟩ ∈ zTB := zTB_of 468 (by decide +kernel) rfl
theorem l_L_78 : Cond.methodLink "CamPiecesLaw" 78 ⟨"CamPiecesModel", "extreme", "(I)I"⟩ ∈ zTB := zTB_of 1133 (by decide +kernel) rfl
theorem l_L_79 : Cond.methodLink "CamPiecesLaw" 79 ⟨"CamPieces", "curve", "(III)J"⟩ ∈ zTB := zTB_of 472 (by decide +kernel) rfl
theorem l_L_82 : Cond.methodLink "CamPiecesLaw" 82 ⟨"CamPiecesModel", "curve", "(III)J"⟩ ∈ zTB := zTB_of 1141 (by decide +kernel) rfl
theorem l_L_83 : Cond.methodLink "CamPiecesLaw" 83 ⟨"CamPieces", "pressure", "(III)J"⟩ ∈ zTB := zTB_of 489 (by decide +kernel) rfl
theorem l_L_86 : Cond.methodLink "CamPiecesLaw" 86 ⟨"CamPiecesModel", "pressure", "(III)J"⟩ ∈ zTB := zTB_of 1150 (by decide +kernel) rfl
theorem l_L_87 : Cond.methodLink "CamPiecesLaw" 87 ⟨"CamPieces", "force", "(III)J"⟩ ∈ zTB := zTB_of 494 (by decide +kernel) rfl
theorem l_L_90 : Cond.methodLink "CamPiecesLaw" 90 ⟨"CamPiecesModel", "force", "(III)J"⟩ ∈ zTB := zTB_of 1155 (by decide +kernel) rfl
theorem l_L_91 : Cond.methodLink "CamPiecesLaw" 91 ⟨"CamPieces", "count", "(I)I"⟩ ∈ zTB := zTB_of 514 (by decide +kernel) rfl
theorem l_L_94 : Cond.methodLink "CamPiecesLaw" 94 ⟨"CamPiecesModel", "count", "(I)I"⟩ ∈ zTB := zTB_of 1163 (by decide +kernel) rfl
theorem l_L_95 : Cond.methodLink "CamPiecesLaw" 95 ⟨"CamPieces", "leastRadius", "()I"⟩ ∈ zTB := zTB_of 539 (by decide +kernel) rfl
theorem l_L_98 : Cond.methodLink "CamPiecesLaw" 98 ⟨"CamPiecesModel", "leastRadius", "()I"⟩ ∈ zTB := zTB_of 1171 (by decide +kernel) rfl
theorem l_L_99 : Cond.methodLink "CamPiecesLaw" 99 ⟨"CamPieces", "steepest", "()I"⟩ ∈ zTB := zTB_of 568 (by decide +kernel) rfl
theorem l_L_102 : Cond.methodLink "CamPiecesLaw" 102 ⟨"CamPiecesModel", "steepest", "()I"⟩ ∈ zTB := zTB_of 1190 (by decide +kernel) rfl
theorem l_L_103 : Cond.methodLink "CamPiecesLaw" 103 ⟨"CamPieces", "gentle", "(I)I"⟩ ∈ zTB := zTB_of 575 (by decide +kernel) rfl
theorem l_L_106 : Cond.methodLink "CamPiecesLaw" 106 ⟨"CamPiecesModel", "gentle", "(I)I"⟩ ∈ zTB := zTB_of 1194 (by decide +kernel) rfl
theorem l_L_107 : Cond.methodLink "CamPiecesLaw" 107 ⟨"CamPieces", "floating", "()I"⟩ ∈ zTB := zTB_of 580 (by decide +kernel) rfl
theorem l_L_110 : Cond.methodLink "CamPiecesLaw" 110 ⟨"CamPiecesModel", "floating", "()I"⟩ ∈ zTB := zTB_of 1203 (by decide +kernel) rfl
theorem l_L_111 : Cond.methodLink "CamPiecesLaw" 111 ⟨"CamPieces", "leastPreload", "()I"⟩ ∈ zTB := zTB_of 584 (by decide +kernel) rfl
theorem l_L_114 : Cond.methodLink "CamPiecesLaw" 114 ⟨"CamPiecesModel", "leastPreload", "()I"⟩ ∈ zTB := zTB_of 1186 (by decide +kernel) rfl
theorem l_L_115 : Cond.methodLink "CamPiecesLaw" 115 ⟨"CamPieces", "leastStiff", "()I"⟩ ∈ zTB := zTB_of 588 (by decide +kernel) rfl
theorem l_L_118 : Cond.methodLink "CamPiecesLaw" 118 ⟨"CamPiecesModel", "leastStiff", "()I"⟩ ∈ zTB := zTB_of 1211 (by decide +kernel) rfl
theorem l_L_119 : Cond.methodLink "CamPiecesLaw" 119 ⟨"CamPieces", "fastest", "()I"⟩ ∈ zTB := zTB_of 592 (by decide +kernel) rfl
theorem l_L_122 : Cond.methodLink "CamPiecesLaw" 122 ⟨"CamPiecesModel", "fastest", "()I"⟩ ∈ zTB := zTB_of 1219 (by decide +kernel) rfl
theorem l_L_123 : Cond.methodLink "CamPiecesLaw" 123 ⟨"CamPieces", "smoothed", "()I"⟩ ∈ zTB := zTB_of 597 (by decide +kernel) rfl
theorem l_L_126 : Cond.methodLink "CamPiecesLaw" 126 ⟨"CamPiecesModel", "smoothed", "()I"⟩ ∈ zTB := zTB_of 1223 (by decide +kernel) rfl
theorem l_L_127 : Cond.methodLink "CamPiecesLaw" 127 ⟨"CamPieces", "sample", "(I)J"⟩ ∈ zTB := zTB_of 615 (by decide +kernel) rfl
theorem l_L_131 : Cond.methodLink "CamPiecesLaw" 131 ⟨"CamPiecesModel", "sample", "(I)J"⟩ ∈ zTB := zTB_of 1237 (by decide +kernel) rfl
theorem l_L_132 : Cond.methodLink "CamPiecesLaw" 132 ⟨"CamPieces", "error", "(II)J"⟩ ∈ zTB := zTB_of 628 (by decide +kernel) rfl
theorem l_L_136 : Cond.methodLink "CamPiecesLaw" 136 ⟨"CamPiecesModel", "error", "(II)J"⟩ ∈ zTB := zTB_of 1252 (by decide +kernel) rfl
theorem l_L_137 : Cond.methodLink "CamPiecesLaw" 137 ⟨"CamPieces", "widest", "(I)I"⟩ ∈ zTB := zTB_of 653 (by decide +kernel) rfl
theorem l_L_140 : Cond.methodLink "CamPiecesLaw" 140 ⟨"CamPiecesModel", "widest", "(I)I"⟩ ∈ zTB := zTB_of 1261 (by decide +kernel) rfl
theorem l_L_141 : Cond.methodLink "CamPiecesLaw" 141 ⟨"CamPieces", "lay", "(IIIII)I"⟩ ∈ zTB := zTB_of 662 (by decide +kernel) rfl
theorem l_L_145 : Cond.methodLink "CamPiecesLaw" 145 ⟨"CamPiecesModel", "lay", "(IIIII)I"⟩ ∈ zTB := zTB_of 1265 (by decide +kernel) rfl
theorem l_L_146 : Cond.methodLink "CamPiecesLaw" 146 ⟨"CamPieces", "seen", "(IIII)I"⟩ ∈ zTB := zTB_of 695 (by decide +kernel) rfl
theorem l_L_150 : Cond.methodLink "CamPiecesLaw" 150 ⟨"CamPiecesModel", "seen", "(IIII)I"⟩ ∈ zTB := zTB_of 1272 (by decide +kernel) rfl
theorem l_L_151 : Cond.methodLink "CamPiecesLaw" 151 ⟨"CamPieces", "feed", "(I)I"⟩ ∈ zTB := zTB_of 708 (by decide +kernel) rfl
theorem l_L_154 : Cond.methodLink "CamPiecesLaw" 154 ⟨"CamPiecesModel", "feed", "(I)I"⟩ ∈ zTB := zTB_of 1280 (by decide +kernel) rfl
theorem l_L_155 : Cond.methodLink "CamPiecesLaw" 155 ⟨"CamPieces", "clear", "()I"⟩ ∈ zTB := zTB_of 717 (by decide +kernel) rfl
theorem l_L_158 : Cond.methodLink "CamPiecesLaw" 158 ⟨"CamPiecesModel", "clear", "()I"⟩ ∈ zTB := zTB_of 1285 (by decide +kernel) rfl
theorem l_L_159 : Cond.methodLink "CamPiecesLaw" 159 ⟨"CamPieces", "cam", "()I"⟩ ∈ zTB := zTB_of 725 (by decide +kernel) rfl
theorem l_L_162 : Cond.methodLink "CamPiecesLaw" 162 ⟨"CamPiecesModel", "cam", "()I"⟩ ∈ zTB := zTB_of 1289 (by decide +kernel) rfl
theorem l_L_163 : Cond.methodLink "CamPiecesLaw" 163 ⟨"CamPieces", "cause", "()I"⟩ ∈ zTB := zTB_of 840 (by decide +kernel) rfl
theorem l_L_166 : Cond.methodLink "CamPiecesLaw" 166 ⟨"CamPiecesModel", "cause", "()I"⟩ ∈ zTB := zTB_of 1336 (by decide +kernel) rfl
theorem l_L_167 : Cond.methodLink "CamPiecesLaw" 167 ⟨"CamPieces", "list", "(II)I"⟩ ∈ zTB := zTB_of 844 (by decide +kernel) rfl
theorem l_L_170 : Cond.methodLink "CamPiecesLaw" 170 ⟨"CamPiecesModel", "list", "(II)I"⟩ ∈ zTB := zTB_of 1340 (by decide +kernel) rfl
theorem k_L_171 : Cond.constantLong "CamPiecesLaw" 171 (4294967295) ∈ zTB := zTB_of 1360 (by decide +kernel) rfl
theorem l_L_173 : Cond.methodLink "CamPiecesLaw" 173 ⟨"CamPieces", "set", "(IIJ)I"⟩ ∈ zTB := zTB_of 854 (by decide +kernel) rfl
theorem l_L_177 : Cond.methodLink "CamPiecesLaw" 177 ⟨"CamPiecesModel", "set", "(IIJ)I"⟩ ∈ zTB := zTB_of 1344 (by decide +kernel) rfl
theorem l_L_178 : Cond.methodLink "CamPiecesLaw" 178 ⟨"CamPieces", "get", "(II)J"⟩ ∈ zTB := zTB_of 858 (by decide +kernel) rfl
theorem l_L_181 : Cond.methodLink "CamPiecesLaw" 181 ⟨"CamPiecesModel", "get", "(II)J"⟩ ∈ zTB := zTB_of 1348 (by decide +kernel) rfl
theorem l_L_182 : Cond.methodLink "CamPiecesLaw" 182 ⟨"CamPieces", "image", "()I"⟩ ∈ zTB := zTB_of 862 (by decide +kernel) rfl
theorem l_L_185 : Cond.methodLink "CamPiecesLaw" 185 ⟨"CamPiecesModel", "image", "()I"⟩ ∈ zTB := zTB_of 1352 (by decide +kernel) rfl
theorem l_L_186 : Cond.methodLink "CamPiecesLaw" 186 ⟨"CamPieces", "undo", "()I"⟩ ∈ zTB := zTB_of 866 (by decide +kernel) rfl
theorem l_L_189 : Cond.methodLink "CamPiecesLaw" 189 ⟨"CamPiecesModel", "undo", "()I"⟩ ∈ zTB := zTB_of 1356 (by decide +kernel) rfl
end
section
/-! answers of a kind; calls that answer so -/
noncomputable def bI (p : Prop) : Int := @ite Int p (Classical.propDecidable p) 1 0
theorem bI_t {p : Prop} (h : p) : bI p = 1 := by unfold bI; exact if_pos h
theorem bI_f {p : Prop} (h : ¬ p) : bI p = 0 := by unfold bI; exact if_neg h
theorem bI_c {p q : Prop} (h : p ↔ q) : bI p = bI q := by
  by_cases hp : p
  · rw [bI_t hp, bI_t (h.mp hp)]
  · rw [bI_f hp, bI_f (fun z => hp (h.mpr z))]
theorem bI_in (p : Prop) : inI (bI p) := by
  by_cases hp : p
  · rw [bI_t hp]; omega
  · rw [bI_f hp]; omega
theorem bI_01 (p : Prop) : bI p = 0 ∨ bI p = 1 := by
  by_cases hp : p
  · exact Or.inr (bI_t hp)
  · exact Or.inl (bI_f hp)
theorem bI_nz {p : Prop} : bI p = 0 ↔ ¬ p := by
  by_cases hp : p
  · rw [bI_t hp]; exact ⟨fun h => by omega, fun h => absurd hp h⟩
  · rw [bI_f hp]; exact ⟨fun _ => hp, fun _ => rfl⟩
theorem bI_nar (p : Prop) : narrow .boolean (.int (iI (bI p))) = .int (iI (bI p)) := by
  rcases bI_01 p with h | h <;> rw [h] <;> rfl
theorem bI_fit (p : Prop) : fits .boolean (.int (iI (bI p))) = true := by
  rcases bI_01 p with h | h <;> rw [h] <;> rfl
def zAi (v : Int) (P : List zE → Prop) : Option Value → List zE → Prop := fun r m => r = some (.int (iI v)) ∧ P m
def zAl (v : Int) (P : List zE → Prop) : Option Value → List zE → Prop := fun r m => r = some (.long (lI v)) ∧ P m
def zAb (p : Prop) (P : List zE → Prop) : Option Value → List zE → Prop := fun r m => r = some (.int (iI (bI p))) ∧ P m
def zAv (P : List zE → Prop) : Option Value → List zE → Prop := fun r m => r = none ∧ P m
def zAr (q : Nat) (P : List zE → Prop) : Option Value → List zE → Prop := fun r m => r = some (.ref q) ∧ P m
theorem zEL.n {mem : List zE} {f : Nat → Nat} : zEL mem f [] [] := trivial
theorem zEL.c {mem : List zE} {f : Nat → Nat} {i : Nat} {is : List Nat} {e : zE} {sub : List zE} (h : zSub (mem[i]?) (renE f e)) (h2 : zEL mem f is sub) : zEL mem f (i :: is) (e :: sub) := ⟨h, h2⟩
theorem zMg_same {f : Nat → Nat} : ∀ {is : List Nat} {sub mem : List zE}, zEL mem f is sub → zMg f is sub mem = mem := by
  intro is
  induction is with
  | nil => intro sub mem _; rfl
  | cons i is ih =>
    intro sub mem h
    cases sub with
    | nil => exact h.elim
    | cons e sub =>
      have e1 : (if zrw e = true then mem.set i (renE f e) else mem) = mem := by
        split
        · rename_i he
          rcases h.1 with h1 | ⟨N, F, h1, -⟩
          · obtain ⟨hl, h2⟩ := List.getElem?_eq_some_iff.mp h1
            rw [← h2]
            exact List.set_getElem_self hl
          · rw [aR_of_ren h1] at he
            cases he
        · rfl
      unfold zMg
      rw [e1]
      exact ih h.2
section ZQ
variable {X : zX} {kc ks : Nat} {mem : List zE} {pc n : Nat} {lv : List (Nat × Value)} {st : List Value}
def zpick (lv : List (Nat × Value)) (is : List Nat) : List (Nat × Value) := is.filterMap (fun i => (zlk lv i).map (fun v => (i, v)))
theorem Z_pick {lv' : List (Nat × Value)} (is : List Nat) (h : zpick lv is = lv') (kk : Z X kc ks mem pc lv' st) : Z X kc ks mem pc lv st := by
  refine Z_lv (fun q hq => ?_) kk
  rw [← h] at hq
  obtain ⟨i, -, h2⟩ := List.mem_filterMap.mp hq
  cases hv : zlk lv i with
  | none => rw [hv] at h2; cases h2
  | some v =>
    rw [hv] at h2
    cases h2
    exact zlk_mem hv
theorem Z_ifb_eq (k : Nat) {p : Prop} {off : Int} {tgt : Nat} (h : X.I[k]? = some (pc, .ifCond .eq off, 3, n)) (ht : (pc : Int) + off = (tgt : Int)) (kt : ¬ p → Z X kc ks mem tgt lv st) (kf : p → Z X kc ks mem n lv st) : Z X kc ks mem pc lv (.int (iI (bI p)) :: st) :=
  Z_if_eq k h ht (bI_in p) (fun z => kt (bI_nz.mp z)) (fun z => kf (Classical.byContradiction (fun hp => z (bI_nz.mpr hp))))
theorem Z_ifb_ne (k : Nat) {p : Prop} {off : Int} {tgt : Nat} (h : X.I[k]? = some (pc, .ifCond .ne off, 3, n)) (ht : (pc : Int) + off = (tgt : Int)) (kt : p → Z X kc ks mem tgt lv st) (kf : ¬ p → Z X kc ks mem n lv st) : Z X kc ks mem pc lv (.int (iI (bI p)) :: st) :=
  Z_if_ne k h ht (bI_in p) (fun z => kt (Classical.byContradiction (fun hp => z (bI_nz.mpr hp)))) (fun z => kf (bI_nz.mp z))
theorem Z_bret (k : Nat) {p : Prop} (h : X.I[k]? = some (pc, .ireturn, 1, n)) (hr : X.M.2.2.2.1 = some .boolean) (hm : kc ≤ X.mc ∧ ks ≤ X.ms) (hQ : X.Q (some (.int (iI (bI p)))) mem) : Z X kc ks mem pc lv [.int (iI (bI p))] := Z_zret k h hr (bI_nar p) hm hQ
theorem Z_tb {p : Prop} {x : Int} (h : x = bI p) (kk : Z X kc ks mem pc lv (.int (iI (bI p)) :: st)) : Z X kc ks mem pc lv (.int (iI x) :: st) := by rw [h]; exact kk
theorem Z_callVi (k : Nat) {idx b nargs : Nat} {M' : zM} {rm : Room} {As : List Value} {sub : List zE} {v : Int} {av : List Value} {st0 : List Value} {P : List zE → Prop} (is : List Nat) (h : X.I[k]? = some (pc, .invokevirtual idx, 3, n)) (hlk : Cond.methodLink X.M.1.cls idx M'.1 ∈ zTB) (hM : zCv M' nargs) (hc : Con X.1 M' rm 0 0 false av sub (zAi v P)) (hE : zEmb is mem sub) (hrv : zRv mem b M'.1.cls) (hav : av.map (zv (zr is)) = .ref b :: As) (hna : As.length = nargs) (hst : st0 = As.reverse ++ .ref b :: st) (hcs : (st.map fun v => v.category).sum ≤ 8) (hrm : zRm rm X.R M') (hR : kc ≤ X.R.cells ∧ ks ≤ X.R.slots) (kk : ∀ out : List zE, P out → Z X kc ks (zMg (zr is) is out mem) n lv (.int (iI v) :: st)) : Z X kc ks mem pc lv st0 :=
  Z_callV k is h hlk hM hc hE hrv hav hna hst hcs hrm hR (fun r out hq => by obtain ⟨rfl, hq⟩ := hq; exact kk out hq)
/-- a callee that leaves its world as it was -/
theorem Z_callVip (k : Nat) {idx b nargs : Nat} {M' : zM} {rm : Room} {As : List Value} {sub : List zE} {v : Int} {av : List Value} {st0 : List Value}  (is : List Nat) (h : X.I[k]? = some (pc, .invokevirtual idx, 3, n)) (hlk : Cond.methodLink X.M.1.cls idx M'.1 ∈ zTB) (hM : zCv M' nargs) (hc : Con X.1 M' rm 0 0 false av sub (zAi v (fun m => m = sub))) (hE : zEmb is mem sub) (hrv : zRv mem b M'.1.cls) (hav : av.map (zv (zr is)) = .ref b :: As) (hna : As.length = nargs) (hst : st0 = As.reverse ++ .ref b :: st) (hcs : (st.map fun v => v.category).sum ≤ 8) (hrm : zRm rm X.R M') (hR : kc ≤ X.R.cells ∧ ks ≤ X.R.slots) (kk : Z X kc ks mem n lv (.int (iI v) :: st)) : Z X kc ks mem pc lv st0 :=
  Z_callVi k is h hlk hM hc hE hrv hav hna hst hcs hrm hR (fun out hq => by rw [show out = sub from hq, zMg_same hE.2]; exact kk)
theorem Z_callVl (k : Nat) {idx b nargs : Nat} {M' : zM} {rm : Room} {As : List Value} {sub : List zE} {v : Int} {av : List Value} {st0 : List Value} {P : List zE → Prop} (is : List Nat) (h : X.I[k]? = some (pc, .invokevirtual idx, 3, n)) (hlk : Cond.methodLink X.M.1.cls idx M'.1 ∈ zTB) (hM : zCv M' nargs) (hc : Con X.1 M' rm 0 0 false av sub (zAl v P)) (hE : zEmb is mem sub) (hrv : zRv mem b M'.1.cls) (hav : av.map (zv (zr is)) = .ref b :: As) (hna : As.length = nargs) (hst : st0 = As.reverse ++ .ref b :: st) (hcs : (st.map fun v => v.category).sum ≤ 8) (hrm : zRm rm X.R M') (hR : kc ≤ X.R.cells ∧ ks ≤ X.R.slots) (kk : ∀ out : List zE, P out → Z X kc ks (zMg (zr is) is out mem) n lv (.long (lI v) :: st)) : Z X kc ks mem pc lv st0 :=
  Z_callV k is h hlk hM hc hE hrv hav hna hst hcs hrm hR (fun r out hq => by obtain ⟨rfl, hq⟩ := hq; exact kk out hq)
/-- a callee that leaves its world as it was -/
theorem Z_callVlp (k : Nat) {idx b nargs : Nat} {M' : zM} {rm : Room} {As : List Value} {sub : List zE} {v : Int} {av : List Value} {st0 : List Value}  (is : List Nat) (h : X.I[k]? = some (pc, .invokevirtual idx, 3, n)) (hlk : Cond.methodLink X.M.1.cls idx M'.1 ∈ zTB) (hM : zCv M' nargs) (hc : Con X.1 M' rm 0 0 false av sub (zAl v (fun m => m = sub))) (hE : zEmb is mem sub) (hrv : zRv mem b M'.1.cls) (hav : av.map (zv (zr is)) = .ref b :: As) (hna : As.length = nargs) (hst : st0 = As.reverse ++ .ref b :: st) (hcs : (st.map fun v => v.category).sum ≤ 8) (hrm : zRm rm X.R M') (hR : kc ≤ X.R.cells ∧ ks ≤ X.R.slots) (kk : Z X kc ks mem n lv (.long (lI v) :: st)) : Z X kc ks mem pc lv st0 :=
  Z_callVl k is h hlk hM hc hE hrv hav hna hst hcs hrm hR (fun out hq => by rw [show out = sub from hq, zMg_same hE.2]; exact kk)
theorem Z_callVb (k : Nat) {idx b nargs : Nat} {M' : zM} {rm : Room} {As : List Value} {sub : List zE} {p : Prop} {av : List Value} {st0 : List Value} {P : List zE → Prop} (is : List Nat) (h : X.I[k]? = some (pc, .invokevirtual idx, 3, n)) (hlk : Cond.methodLink X.M.1.cls idx M'.1 ∈ zTB) (hM : zCv M' nargs) (hc : Con X.1 M' rm 0 0 false av sub (zAb p P)) (hE : zEmb is mem sub) (hrv : zRv mem b M'.1.cls) (hav : av.map (zv (zr is)) = .ref b :: As) (hna : As.length = nargs) (hst : st0 = As.reverse ++ .ref b :: st) (hcs : (st.map fun v => v.category).sum ≤ 8) (hrm : zRm rm X.R M') (hR : kc ≤ X.R.cells ∧ ks ≤ X.R.slots) (kk : ∀ out : List zE, P out → Z X kc ks (zMg (zr is) is out mem) n lv (.int (iI (bI p)) :: st)) : Z X kc ks mem pc lv st0 :=
  Z_callV k is h hlk hM hc hE hrv hav hna hst hcs hrm hR (fun r out hq => by obtain ⟨rfl, hq⟩ := hq; exact kk out hq)
/-- a callee that leaves its world as it was -/
theorem Z_callVbp (k : Nat) {idx b nargs : Nat} {M' : zM} {rm : Room} {As : List Value} {sub : List zE} {p : Prop} {av : List Value} {st0 : List Value}  (is : List Nat) (h : X.I[k]? = some (pc, .invokevirtual idx, 3, n)) (hlk : Cond.methodLink X.M.1.cls idx M'.1 ∈ zTB) (hM : zCv M' nargs) (hc : Con X.1 M' rm 0 0 false av sub (zAb p (fun m => m = sub))) (hE : zEmb is mem sub) (hrv : zRv mem b M'.1.cls) (hav : av.map (zv (zr is)) = .ref b :: As) (hna : As.length = nargs) (hst : st0 = As.reverse ++ .ref b :: st) (hcs : (st.map fun v => v.category).sum ≤ 8) (hrm : zRm rm X.R M') (hR : kc ≤ X.R.cells ∧ ks ≤ X.R.slots) (kk : Z X kc ks mem n lv (.int (iI (bI p)) :: st)) : Z X kc ks mem pc lv st0 :=
  Z_callVb k is h hlk hM hc hE hrv hav hna hst hcs hrm hR (fun out hq => by rw [show out = sub from hq, zMg_same hE.2]; exact kk)
theorem Z_callVv (k : Nat) {idx b nargs : Nat} {M' : zM} {rm : Room} {As : List Value} {sub : List zE} {av : List Value} {st0 : List Value} {P : List zE → Prop} (is : List Nat) (h : X.I[k]? = some (pc, .invokevirtual idx, 3, n)) (hlk : Cond.methodLink X.M.1.cls idx M'.1 ∈ zTB) (hM : zCv M' nargs) (hc : Con X.1 M' rm 0 0 false av sub (zAv P)) (hE : zEmb is mem sub) (hrv : zRv mem b M'.1.cls) (hav : av.map (zv (zr is)) = .ref b :: As) (hna : As.length = nargs) (hst : st0 = As.reverse ++ .ref b :: st) (hcs : (st.map fun v => v.category).sum ≤ 8) (hrm : zRm rm X.R M') (hR : kc ≤ X.R.cells ∧ ks ≤ X.R.slots) (kk : ∀ out : List zE, P out → Z X kc ks (zMg (zr is) is out mem) n lv (st)) : Z X kc ks mem pc lv st0 :=
  Z_callV k is h hlk hM hc hE hrv hav hna hst hcs hrm hR (fun r out hq => by obtain ⟨rfl, hq⟩ := hq; exact kk out hq)
/-- a callee that leaves its world as it was -/
theorem Z_callVvp (k : Nat) {idx b nargs : Nat} {M' : zM} {rm : Room} {As : List Value} {sub : List zE} {av : List Value} {st0 : List Value}  (is : List Nat) (h : X.I[k]? = some (pc, .invokevirtual idx, 3, n)) (hlk : Cond.methodLink X.M.1.cls idx M'.1 ∈ zTB) (hM : zCv M' nargs) (hc : Con X.1 M' rm 0 0 false av sub (zAv (fun m => m = sub))) (hE : zEmb is mem sub) (hrv : zRv mem b M'.1.cls) (hav : av.map (zv (zr is)) = .ref b :: As) (hna : As.length = nargs) (hst : st0 = As.reverse ++ .ref b :: st) (hcs : (st.map fun v => v.category).sum ≤ 8) (hrm : zRm rm X.R M') (hR : kc ≤ X.R.cells ∧ ks ≤ X.R.slots) (kk : Z X kc ks mem n lv (st)) : Z X kc ks mem pc lv st0 :=
  Z_callVv k is h hlk hM hc hE hrv hav hna hst hcs hrm hR (fun out hq => by rw [show out = sub from hq, zMg_same hE.2]; exact kk)
theorem Z_callVr (k : Nat) {idx b nargs : Nat} {M' : zM} {rm : Room} {As : List Value} {sub : List zE} {q : Nat} {av : List Value} {st0 : List Value} {P : List zE → Prop} (is : List Nat) (h : X.I[k]? = some (pc, .invokevirtual idx, 3, n)) (hlk : Cond.methodLink X.M.1.cls idx M'.1 ∈ zTB) (hM : zCv M' nargs) (hc : Con X.1 M' rm 0 0 false av sub (zAr q P)) (hE : zEmb is mem sub) (hrv : zRv mem b M'.1.cls) (hav : av.map (zv (zr is)) = .ref b :: As) (hna : As.length = nargs) (hst : st0 = As.reverse ++ .ref b :: st) (hcs : (st.map fun v => v.category).sum ≤ 8) (hrm : zRm rm X.R M') (hR : kc ≤ X.R.cells ∧ ks ≤ X.R.slots) (kk : ∀ out : List zE, P out → Z X kc ks (zMg (zr is) is out mem) n lv (.ref (zr is q) :: st)) : Z X kc ks mem pc lv st0 :=
  Z_callV k is h hlk hM hc hE hrv hav hna hst hcs hrm hR (fun r out hq => by obtain ⟨rfl, hq⟩ := hq; exact kk out hq)
/-- a callee that leaves its world as it was -/
theorem Z_callVrp (k : Nat) {idx b nargs : Nat} {M' : zM} {rm : Room} {As : List Value} {sub : List zE} {q : Nat} {av : List Value} {st0 : List Value}  (is : List Nat) (h : X.I[k]? = some (pc, .invokevirtual idx, 3, n)) (hlk : Cond.methodLink X.M.1.cls idx M'.1 ∈ zTB) (hM : zCv M' nargs) (hc : Con X.1 M' rm 0 0 false av sub (zAr q (fun m => m = sub))) (hE : zEmb is mem sub) (hrv : zRv mem b M'.1.cls) (hav : av.map (zv (zr is)) = .ref b :: As) (hna : As.length = nargs) (hst : st0 = As.reverse ++ .ref b :: st) (hcs : (st.map fun v => v.category).sum ≤ 8) (hrm : zRm rm X.R M') (hR : kc ≤ X.R.cells ∧ ks ≤ X.R.slots) (kk : Z X kc ks mem n lv (.ref (zr is q) :: st)) : Z X kc ks mem pc lv st0 :=
  Z_callVr k is h hlk hM hc hE hrv hav hna hst hcs hrm hR (fun out hq => by rw [show out = sub from hq, zMg_same hE.2]; exact kk)
theorem Z_callVNi (k : Nat) {idx b nargs : Nat} {host : String} {M' : zM} {rm : Room} {As : List Value} {sub : List zE} {v : Int} {av : List Value} {st0 : List Value} {P : List zE → Prop} (is : List Nat) (h : X.I[k]? = some (pc, .invokevirtual idx, 3, n)) (hlk : Cond.methodLinkNest X.M.1.cls idx M'.1 host ∈ zNW) (hM : zCv M' nargs) (hc : Con X.1 M' rm 0 0 false av sub (zAi v P)) (hE : zEmb is mem sub) (hrv : zRv mem b M'.1.cls) (hav : av.map (zv (zr is)) = .ref b :: As) (hna : As.length = nargs) (hst : st0 = As.reverse ++ .ref b :: st) (hcs : (st.map fun v => v.category).sum ≤ 8) (hrm : zRm rm X.R M') (hR : kc ≤ X.R.cells ∧ ks ≤ X.R.slots) (kk : ∀ out : List zE, P out → Z X kc ks (zMg (zr is) is out mem) n lv (.int (iI v) :: st)) : Z X kc ks mem pc lv st0 :=
  Z_callVN k is h hlk hM hc hE hrv hav hna hst hcs hrm hR (fun r out hq => by obtain ⟨rfl, hq⟩ := hq; exact kk out hq)
/-- a callee that leaves its world as it was -/
theorem Z_callVNip (k : Nat) {idx b nargs : Nat} {host : String} {M' : zM} {rm : Room} {As : List Value} {sub : List zE} {v : Int} {av : List Value} {st0 : List Value}  (is : List Nat) (h : X.I[k]? = some (pc, .invokevirtual idx, 3, n)) (hlk : Cond.methodLinkNest X.M.1.cls idx M'.1 host ∈ zNW) (hM : zCv M' nargs) (hc : Con X.1 M' rm 0 0 false av sub (zAi v (fun m => m = sub))) (hE : zEmb is mem sub) (hrv : zRv mem b M'.1.cls) (hav : av.map (zv (zr is)) = .ref b :: As) (hna : As.length = nargs) (hst : st0 = As.reverse ++ .ref b :: st) (hcs : (st.map fun v => v.category).sum ≤ 8) (hrm : zRm rm X.R M') (hR : kc ≤ X.R.cells ∧ ks ≤ X.R.slots) (kk : Z X kc ks mem n lv (.int (iI v) :: st)) : Z X kc ks mem pc lv st0 :=
  Z_callVNi k is h hlk hM hc hE hrv hav hna hst hcs hrm hR (fun out hq => by rw [show out = sub from hq, zMg_same hE.2]; exact kk)
theorem Z_callVNl (k : Nat) {idx b nargs : Nat} {host : String} {M' : zM} {rm : Room} {As : List Value} {sub : List zE} {v : Int} {av : List Value} {st0 : List Value} {P : List zE → Prop} (is : List Nat) (h : X.I[k]? = some (pc, .invokevirtual idx, 3, n)) (hlk : Cond.methodLinkNest X.M.1.cls idx M'.1 host ∈ zNW) (hM : zCv M' nargs) (hc : Con X.1 M' rm 0 0 false av sub (zAl v P)) (hE : zEmb is mem sub) (hrv : zRv mem b M'.1.cls) (hav : av.map (zv (zr is)) = .ref b :: As) (hna : As.length = nargs) (hst : st0 = As.reverse ++ .ref b :: st) (hcs : (st.map fun v => v.category).sum ≤ 8) (hrm : zRm rm X.R M') (hR : kc ≤ X.R.cells ∧ ks ≤ X.R.slots) (kk : ∀ out : List zE, P out → Z X kc ks (zMg (zr is) is out mem) n lv (.long (lI v) :: st)) : Z X kc ks mem pc lv st0 :=
  Z_callVN k is h hlk hM hc hE hrv hav hna hst hcs hrm hR (fun r out hq => by obtain ⟨rfl, hq⟩ := hq; exact kk out hq)
/-- a callee that leaves its world as it was -/
theorem Z_callVNlp (k : Nat) {idx b nargs : Nat} {host : String} {M' : zM} {rm : Room} {As : List Value} {sub : List zE} {v : Int} {av : List Value} {st0 : List Value}  (is : List Nat) (h : X.I[k]? = some (pc, .invokevirtual idx, 3, n)) (hlk : Cond.methodLinkNest X.M.1.cls idx M'.1 host ∈ zNW) (hM : zCv M' nargs) (hc : Con X.1 M' rm 0 0 false av sub (zAl v (fun m => m = sub))) (hE : zEmb is mem sub) (hrv : zRv mem b M'.1.cls) (hav : av.map (zv (zr is)) = .ref b :: As) (hna : As.length = nargs) (hst : st0 = As.reverse ++ .ref b :: st) (hcs : (st.map fun v => v.category).sum ≤ 8) (hrm : zRm rm X.R M') (hR : kc ≤ X.R.cells ∧ ks ≤ X.R.slots) (kk : Z X kc ks mem n lv (.long (lI v) :: st)) : Z X kc ks mem pc lv st0 :=
  Z_callVNl k is h hlk hM hc hE hrv hav hna hst hcs hrm hR (fun out hq => by rw [show out = sub from hq, zMg_same hE.2]; exact kk)
theorem Z_callVNb (k : Nat) {idx b nargs : Nat} {host : String} {M' : zM} {rm : Room} {As : List Value} {sub : List zE} {p : Prop} {av : List Value} {st0 : List Value} {P : List zE → Prop} (is : List Nat) (h : X.I[k]? = some (pc, .invokevirtual idx, 3, n)) (hlk : Cond.methodLinkNest X.M.1.cls idx M'.1 host ∈ zNW) (hM : zCv M' nargs) (hc : Con X.1 M' rm 0 0 false av sub (zAb p P)) (hE : zEmb is mem sub) (hrv : zRv mem b M'.1.cls) (hav : av.map (zv (zr is)) = .ref b :: As) (hna : As.length = nargs) (hst : st0 = As.reverse ++ .ref b :: st) (hcs : (st.map fun v => v.category).sum ≤ 8) (hrm : zRm rm X.R M') (hR : kc ≤ X.R.cells ∧ ks ≤ X.R.slots) (kk : ∀ out : List zE, P out → Z X kc ks (zMg (zr is) is out mem) n lv (.int (iI (bI p)) :: st)) : Z X kc ks mem pc lv st0 :=
  Z_callVN k is h hlk hM hc hE hrv hav hna hst hcs hrm hR (fun r out hq => by obtain ⟨rfl, hq⟩ := hq; exact kk out hq)
/-- a callee that leaves its world as it was -/
theorem Z_callVNbp (k : Nat) {idx b nargs : Nat} {host : String} {M' : zM} {rm : Room} {As : List Value} {sub : List zE} {p : Prop} {av : List Value} {st0 : List Value}  (is : List Nat) (h : X.I[k]? = some (pc, .invokevirtual idx, 3, n)) (hlk : Cond.methodLinkNest X.M.1.cls idx M'.1 host ∈ zNW) (hM : zCv M' nargs) (hc : Con X.1 M' rm 0 0 false av sub (zAb p (fun m => m = sub))) (hE : zEmb is mem sub) (hrv : zRv mem b M'.1.cls) (hav : av.map (zv (zr is)) = .ref b :: As) (hna : As.length = nargs) (hst : st0 = As.reverse ++ .ref b :: st) (hcs : (st.map fun v => v.category).sum ≤ 8) (hrm : zRm rm X.R M') (hR : kc ≤ X.R.cells ∧ ks ≤ X.R.slots) (kk : Z X kc ks mem n lv (.int (iI (bI p)) :: st)) : Z X kc ks mem pc lv st0 :=
  Z_callVNb k is h hlk hM hc hE hrv hav hna hst hcs hrm hR (fun out hq => by rw [show out = sub from hq, zMg_same hE.2]; exact kk)
theorem Z_callVNv (k : Nat) {idx b nargs : Nat} {host : String} {M' : zM} {rm : Room} {As : List Value} {sub : List zE} {av : List Value} {st0 : List Value} {P : List zE → Prop} (is : List Nat) (h : X.I[k]? = some (pc, .invokevirtual idx, 3, n)) (hlk : Cond.methodLinkNest X.M.1.cls idx M'.1 host ∈ zNW) (hM : zCv M' nargs) (hc : Con X.1 M' rm 0 0 false av sub (zAv P)) (hE : zEmb is mem sub) (hrv : zRv mem b M'.1.cls) (hav : av.map (zv (zr is)) = .ref b :: As) (hna : As.length = nargs) (hst : st0 = As.reverse ++ .ref b :: st) (hcs : (st.map fun v => v.category).sum ≤ 8) (hrm : zRm rm X.R M') (hR : kc ≤ X.R.cells ∧ ks ≤ X.R.slots) (kk : ∀ out : List zE, P out → Z X kc ks (zMg (zr is) is out mem) n lv (st)) : Z X kc ks mem pc lv st0 :=
  Z_callVN k is h hlk hM hc hE hrv hav hna hst hcs hrm hR (fun r out hq => by obtain ⟨rfl, hq⟩ := hq; exact kk out hq)
/-- a callee that leaves its world as it was -/
theorem Z_callVNvp (k : Nat) {idx b nargs : Nat} {host : String} {M' : zM} {rm : Room} {As : List Value} {sub : List zE} {av : List Value} {st0 : List Value}  (is : List Nat) (h : X.I[k]? = some (pc, .invokevirtual idx, 3, n)) (hlk : Cond.methodLinkNest X.M.1.cls idx M'.1 host ∈ zNW) (hM : zCv M' nargs) (hc : Con X.1 M' rm 0 0 false av sub (zAv (fun m => m = sub))) (hE : zEmb is mem sub) (hrv : zRv mem b M'.1.cls) (hav : av.map (zv (zr is)) = .ref b :: As) (hna : As.length = nargs) (hst : st0 = As.reverse ++ .ref b :: st) (hcs : (st.map fun v => v.category).sum ≤ 8) (hrm : zRm rm X.R M') (hR : kc ≤ X.R.cells ∧ ks ≤ X.R.slots) (kk : Z X kc ks mem n lv (st)) : Z X kc ks mem pc lv st0 :=
  Z_callVNv k is h hlk hM hc hE hrv hav hna hst hcs hrm hR (fun out hq => by rw [show out = sub from hq, zMg_same hE.2]; exact kk)
theorem Z_callVNr (k : Nat) {idx b nargs : Nat} {host : String} {M' : zM} {rm : Room} {As : List Value} {sub : List zE} {q : Nat} {av : List Value} {st0 : List Value} {P : List zE → Prop} (is : List Nat) (h : X.I[k]? = some (pc, .invokevirtual idx, 3, n)) (hlk : Cond.methodLinkNest X.M.1.cls idx M'.1 host ∈ zNW) (hM : zCv M' nargs) (hc : Con X.1 M' rm 0 0 false av sub (zAr q P)) (hE : zEmb is mem sub) (hrv : zRv mem b M'.1.cls) (hav : av.map (zv (zr is)) = .ref b :: As) (hna : As.length = nargs) (hst : st0 = As.reverse ++ .ref b :: st) (hcs : (st.map fun v => v.category).sum ≤ 8) (hrm : zRm rm X.R M') (hR : kc ≤ X.R.cells ∧ ks ≤ X.R.slots) (kk : ∀ out : List zE, P out → Z X kc ks (zMg (zr is) is out mem) n lv (.ref (zr is q) :: st)) : Z X kc ks mem pc lv st0 :=
  Z_callVN k is h hlk hM hc hE hrv hav hna hst hcs hrm hR (fun r out hq => by obtain ⟨rfl, hq⟩ := hq; exact kk out hq)
/-- a callee that leaves its world as it was -/
theorem Z_callVNrp (k : Nat) {idx b nargs : Nat} {host : String} {M' : zM} {rm : Room} {As : List Value} {sub : List zE} {q : Nat} {av : List Value} {st0 : List Value}  (is : List Nat) (h : X.I[k]? = some (pc, .invokevirtual idx, 3, n)) (hlk : Cond.methodLinkNest X.M.1.cls idx M'.1 host ∈ zNW) (hM : zCv M' nargs) (hc : Con X.1 M' rm 0 0 false av sub (zAr q (fun m => m = sub))) (hE : zEmb is mem sub) (hrv : zRv mem b M'.1.cls) (hav : av.map (zv (zr is)) = .ref b :: As) (hna : As.length = nargs) (hst : st0 = As.reverse ++ .ref b :: st) (hcs : (st.map fun v => v.category).sum ≤ 8) (hrm : zRm rm X.R M') (hR : kc ≤ X.R.cells ∧ ks ≤ X.R.slots) (kk : Z X kc ks mem n lv (.ref (zr is q) :: st)) : Z X kc ks mem pc lv st0 :=
  Z_callVNr k is h hlk hM hc hE hrv hav hna hst hcs hrm hR (fun out hq => by rw [show out = sub from hq, zMg_same hE.2]; exact kk)
theorem Z_callSi (k : Nat) {idx nargs : Nat} {M' : zM} {rm : Room} {As : List Value} {sub : List zE} {v : Int} {av : List Value} {st0 : List Value} {P : List zE → Prop} (is : List Nat) (h : X.I[k]? = some (pc, .invokestatic idx, 3, n)) (hlk : Cond.methodLink X.M.1.cls idx M'.1 ∈ zTB) (hM : zCs M' nargs) (hc : Con X.1 M' rm 0 0 false av sub (zAi v P)) (hE : zEmb is mem sub) (hav : av.map (zv (zr is)) = As) (hna : As.length = nargs) (hst : st0 = As.reverse ++ st) (hcs : (st.map fun v => v.category).sum ≤ 8) (hrm : zRm rm X.R M') (hR : kc ≤ X.R.cells ∧ ks ≤ X.R.slots) (kk : ∀ out : List zE, P out → Z X kc ks (zMg (zr is) is out mem) n lv (.int (iI v) :: st)) : Z X kc ks mem pc lv st0 :=
  Z_callS k is h hlk hM hc hE hav hna hst hcs hrm hR (fun r out hq => by obtain ⟨rfl, hq⟩ := hq; exact kk out hq)
/-- a callee that leaves its world as it was -/
theorem Z_callSip (k : Nat) {idx nargs : Nat} {M' : zM} {rm : Room} {As : List Value} {sub : List zE} {v : Int} {av : List Value} {st0 : List Value}  (is : List Nat) (h : X.I[k]? = some (pc, .invokestatic idx, 3, n)) (hlk : Cond.methodLink X.M.1.cls idx M'.1 ∈ zTB) (hM : zCs M' nargs) (hc : Con X.1 M' rm 0 0 false av sub (zAi v (fun m => m = sub))) (hE : zEmb is mem sub) (hav : av.map (zv (zr is)) = As) (hna : As.length = nargs) (hst : st0 = As.reverse ++ st) (hcs : (st.map fun v => v.category).sum ≤ 8) (hrm : zRm rm X.R M') (hR : kc ≤ X.R.cells ∧ ks ≤ X.R.slots) (kk : Z X kc ks mem n lv (.int (iI v) :: st)) : Z X kc ks mem pc lv st0 :=
  Z_callSi k is h hlk hM hc hE hav hna hst hcs hrm hR (fun out hq => by rw [show out = sub from hq, zMg_same hE.2]; exact kk)
theorem Z_callSl (k : Nat) {idx nargs : Nat} {M' : zM} {rm : Room} {As : List Value} {sub : List zE} {v : Int} {av : List Value} {st0 : List Value} {P : List zE → Prop} (is : List Nat) (h : X.I[k]? = some (pc, .invokestatic idx, 3, n)) (hlk : Cond.methodLink X.M.1.cls idx M'.1 ∈ zTB) (hM : zCs M' nargs) (hc : Con X.1 M' rm 0 0 false av sub (zAl v P)) (hE : zEmb is mem sub) (hav : av.map (zv (zr is)) = As) (hna : As.length = nargs) (hst : st0 = As.reverse ++ st) (hcs : (st.map fun v => v.category).sum ≤ 8) (hrm : zRm rm X.R M') (hR : kc ≤ X.R.cells ∧ ks ≤ X.R.slots) (kk : ∀ out : List zE, P out → Z X kc ks (zMg (zr is) is out mem) n lv (.long (lI v) :: st)) : Z X kc ks mem pc lv st0 :=
  Z_callS k is h hlk hM hc hE hav hna hst hcs hrm hR (fun r out hq => by obtain ⟨rfl, hq⟩ := hq; exact kk out hq)
/-- a callee that leaves its world as it was -/
theorem Z_callSlp (k : Nat) {idx nargs : Nat} {M' : zM} {rm : Room} {As : List Value} {sub : List zE} {v : Int} {av : List Value} {st0 : List Value}  (is : List Nat) (h : X.I[k]? = some (pc, .invokestatic idx, 3, n)) (hlk : Cond.methodLink X.M.1.cls idx M'.1 ∈ zTB) (hM : zCs M' nargs) (hc : Con X.1 M' rm 0 0 false av sub (zAl v (fun m => m = sub))) (hE : zEmb is mem sub) (hav : av.map (zv (zr is)) = As) (hna : As.length = nargs) (hst : st0 = As.reverse ++ st) (hcs : (st.map fun v => v.category).sum ≤ 8) (hrm : zRm rm X.R M') (hR : kc ≤ X.R.cells ∧ ks ≤ X.R.slots) (kk : Z X kc ks mem n lv (.long (lI v) :: st)) : Z X kc ks mem pc lv st0 :=
  Z_callSl k is h hlk hM hc hE hav hna hst hcs hrm hR (fun out hq => by rw [show out = sub from hq, zMg_same hE.2]; exact kk)
theorem Z_callSb (k : Nat) {idx nargs : Nat} {M' : zM} {rm : Room} {As : List Value} {sub : List zE} {p : Prop} {av : List Value} {st0 : List Value} {P : List zE → Prop} (is : List Nat) (h : X.I[k]? = some (pc, .invokestatic idx, 3, n)) (hlk : Cond.methodLink X.M.1.cls idx M'.1 ∈ zTB) (hM : zCs M' nargs) (hc : Con X.1 M' rm 0 0 false av sub (zAb p P)) (hE : zEmb is mem sub) (hav : av.map (zv (zr is)) = As) (hna : As.length = nargs) (hst : st0 = As.reverse ++ st) (hcs : (st.map fun v => v.category).sum ≤ 8) (hrm : zRm rm X.R M') (hR : kc ≤ X.R.cells ∧ ks ≤ X.R.slots) (kk : ∀ out : List zE, P out → Z X kc ks (zMg (zr is) is out mem) n lv (.int (iI (bI p)) :: st)) : Z X kc ks mem pc lv st0 :=
  Z_callS k is h hlk hM hc hE hav hna hst hcs hrm hR (fun r out hq => by obtain ⟨rfl, hq⟩ := hq; exact kk out hq)
/-- a callee that leaves its world as it was -/
theorem Z_callSbp (k : Nat) {idx nargs : Nat} {M' : zM} {rm : Room} {As : List Value} {sub : List zE} {p : Prop} {av : List Value} {st0 : List Value}  (is : List Nat) (h : X.I[k]? = some (pc, .invokestatic idx, 3, n)) (hlk : Cond.methodLink X.M.1.cls idx M'.1 ∈ zTB) (hM : zCs M' nargs) (hc : Con X.1 M' rm 0 0 false av sub (zAb p (fun m => m = sub))) (hE : zEmb is mem sub) (hav : av.map (zv (zr is)) = As) (hna : As.length = nargs) (hst : st0 = As.reverse ++ st) (hcs : (st.map fun v => v.category).sum ≤ 8) (hrm : zRm rm X.R M') (hR : kc ≤ X.R.cells ∧ ks ≤ X.R.slots) (kk : Z X kc ks mem n lv (.int (iI (bI p)) :: st)) : Z X kc ks mem pc lv st0 :=
  Z_callSb k is h hlk hM hc hE hav hna hst hcs hrm hR (fun out hq => by rw [show out = sub from hq, zMg_same hE.2]; exact kk)
theorem Z_callSv (k : Nat) {idx nargs : Nat} {M' : zM} {rm : Room} {As : List Value} {sub : List zE} {av : List Value} {st0 : List Value} {P : List zE → Prop} (is : List Nat) (h : X.I[k]? = some (pc, .invokestatic idx, 3, n)) (hlk : Cond.methodLink X.M.1.cls idx M'.1 ∈ zTB) (hM : zCs M' nargs) (hc : Con X.1 M' rm 0 0 false av sub (zAv P)) (hE : zEmb is mem sub) (hav : av.map (zv (zr is)) = As) (hna : As.length = nargs) (hst : st0 = As.reverse ++ st) (hcs : (st.map fun v => v.category).sum ≤ 8) (hrm : zRm rm X.R M') (hR : kc ≤ X.R.cells ∧ ks ≤ X.R.slots) (kk : ∀ out : List zE, P out → Z X kc ks (zMg (zr is) is out mem) n lv (st)) : Z X kc ks mem pc lv st0 :=
  Z_callS k is h hlk hM hc hE hav hna hst hcs hrm hR (fun r out hq => by obtain ⟨rfl, hq⟩ := hq; exact kk out hq)
/-- a callee that leaves its world as it was -/
theorem Z_callSvp (k : Nat) {idx nargs : Nat} {M' : zM} {rm : Room} {As : List Value} {sub : List zE} {av : List Value} {st0 : List Value}  (is : List Nat) (h : X.I[k]? = some (pc, .invokestatic idx, 3, n)) (hlk : Cond.methodLink X.M.1.cls idx M'.1 ∈ zTB) (hM : zCs M' nargs) (hc : Con X.1 M' rm 0 0 false av sub (zAv (fun m => m = sub))) (hE : zEmb is mem sub) (hav : av.map (zv (zr is)) = As) (hna : As.length = nargs) (hst : st0 = As.reverse ++ st) (hcs : (st.map fun v => v.category).sum ≤ 8) (hrm : zRm rm X.R M') (hR : kc ≤ X.R.cells ∧ ks ≤ X.R.slots) (kk : Z X kc ks mem n lv (st)) : Z X kc ks mem pc lv st0 :=
  Z_callSv k is h hlk hM hc hE hav hna hst hcs hrm hR (fun out hq => by rw [show out = sub from hq, zMg_same hE.2]; exact kk)
theorem Z_callSr (k : Nat) {idx nargs : Nat} {M' : zM} {rm : Room} {As : List Value} {sub : List zE} {q : Nat} {av : List Value} {st0 : List Value} {P : List zE → Prop} (is : List Nat) (h : X.I[k]? = some (pc, .invokestatic idx, 3, n)) (hlk : Cond.methodLink X.M.1.cls idx M'.1 ∈ zTB) (hM : zCs M' nargs) (hc : Con X.1 M' rm 0 0 false av sub (zAr q P)) (hE : zEmb is mem sub) (hav : av.map (zv (zr is)) = As) (hna : As.length = nargs) (hst : st0 = As.reverse ++ st) (hcs : (st.map fun v => v.category).sum ≤ 8) (hrm : zRm rm X.R M') (hR : kc ≤ X.R.cells ∧ ks ≤ X.R.slots) (kk : ∀ out : List zE, P out → Z X kc ks (zMg (zr is) is out mem) n lv (.ref (zr is q) :: st)) : Z X kc ks mem pc lv st0 :=
  Z_callS k is h hlk hM hc hE hav hna hst hcs hrm hR (fun r out hq => by obtain ⟨rfl, hq⟩ := hq; exact kk out hq)
/-- a callee that leaves its world as it was -/
theorem Z_callSrp (k : Nat) {idx nargs : Nat} {M' : zM} {rm : Room} {As : List Value} {sub : List zE} {q : Nat} {av : List Value} {st0 : List Value}  (is : List Nat) (h : X.I[k]? = some (pc, .invokestatic idx, 3, n)) (hlk : Cond.methodLink X.M.1.cls idx M'.1 ∈ zTB) (hM : zCs M' nargs) (hc : Con X.1 M' rm 0 0 false av sub (zAr q (fun m => m = sub))) (hE : zEmb is mem sub) (hav : av.map (zv (zr is)) = As) (hna : As.length = nargs) (hst : st0 = As.reverse ++ st) (hcs : (st.map fun v => v.category).sum ≤ 8) (hrm : zRm rm X.R M') (hR : kc ≤ X.R.cells ∧ ks ≤ X.R.slots) (kk : Z X kc ks mem n lv (.ref (zr is q) :: st)) : Z X kc ks mem pc lv st0 :=
  Z_callSr k is h hlk hM hc hE hav hna hst hcs hrm hR (fun out hq => by rw [show out = sub from hq, zMg_same hE.2]; exact kk)
theorem Z_callSNi (k : Nat) {idx nargs : Nat} {host : String} {M' : zM} {rm : Room} {As : List Value} {sub : List zE} {v : Int} {av : List Value} {st0 : List Value} {P : List zE → Prop} (is : List Nat) (h : X.I[k]? = some (pc, .invokestatic idx, 3, n)) (hlk : Cond.methodLinkNest X.M.1.cls idx M'.1 host ∈ zNW) (hM : zCs M' nargs) (hc : Con X.1 M' rm 0 0 false av sub (zAi v P)) (hE : zEmb is mem sub) (hav : av.map (zv (zr is)) = As) (hna : As.length = nargs) (hst : st0 = As.reverse ++ st) (hcs : (st.map fun v => v.category).sum ≤ 8) (hrm : zRm rm X.R M') (hR : kc ≤ X.R.cells ∧ ks ≤ X.R.slots) (kk : ∀ out : List zE, P out → Z X kc ks (zMg (zr is) is out mem) n lv (.int (iI v) :: st)) : Z X kc ks mem pc lv st0 :=
  Z_callSN k is h hlk hM hc hE hav hna hst hcs hrm hR (fun r out hq => by obtain ⟨rfl, hq⟩ := hq; exact kk out hq)
/-- a callee that leaves its world as it was -/
theorem Z_callSNip (k : Nat) {idx nargs : Nat} {host : String} {M' : zM} {rm : Room} {As : List Value} {sub : List zE} {v : Int} {av : List Value} {st0 : List Value}  (is : List Nat) (h : X.I[k]? = some (pc, .invokestatic idx, 3, n)) (hlk : Cond.methodLinkNest X.M.1.cls idx M'.1 host ∈ zNW) (hM : zCs M' nargs) (hc : Con X.1 M' rm 0 0 false av sub (zAi v (fun m => m = sub))) (hE : zEmb is mem sub) (hav : av.map (zv (zr is)) = As) (hna : As.length = nargs) (hst : st0 = As.reverse ++ st) (hcs : (st.map fun v => v.category).sum ≤ 8) (hrm : zRm rm X.R M') (hR : kc ≤ X.R.cells ∧ ks ≤ X.R.slots) (kk : Z X kc ks mem n lv (.int (iI v) :: st)) : Z X kc ks mem pc lv st0 :=
  Z_callSNi k is h hlk hM hc hE hav hna hst hcs hrm hR (fun out hq => by rw [show out = sub from hq, zMg_same hE.2]; exact kk)
theorem Z_callSNl (k : Nat) {idx nargs : Nat} {host : String} {M' : zM} {rm : Room} {As : List Value} {sub : List zE} {v : Int} {av : List Value} {st0 : List Value} {P : List zE → Prop} (is : List Nat) (h : X.I[k]? = some (pc, .invokestatic idx, 3, n)) (hlk : Cond.methodLinkNest X.M.1.cls idx M'.1 host ∈ zNW) (hM : zCs M' nargs) (hc : Con X.1 M' rm 0 0 false av sub (zAl v P)) (hE : zEmb is mem sub) (hav : av.map (zv (zr is)) = As) (hna : As.length = nargs) (hst : st0 = As.reverse ++ st) (hcs : (st.map fun v => v.category).sum ≤ 8) (hrm : zRm rm X.R M') (hR : kc ≤ X.R.cells ∧ ks ≤ X.R.slots) (kk : ∀ out : List zE, P out → Z X kc ks (zMg (zr is) is out mem) n lv (.long (lI v) :: st)) : Z X kc ks mem pc lv st0 :=
  Z_callSN k is h hlk hM hc hE hav hna hst hcs hrm hR (fun r out hq => by obtain ⟨rfl, hq⟩ := hq; exact kk out hq)
/-- a callee that leaves its world as it was -/
theorem Z_callSNlp (k : Nat) {idx nargs : Nat} {host : String} {M' : zM} {rm : Room} {As : List Value} {sub : List zE} {v : Int} {av : List Value} {st0 : List Value}  (is : List Nat) (h : X.I[k]? = some (pc, .invokestatic idx, 3, n)) (hlk : Cond.methodLinkNest X.M.1.cls idx M'.1 host ∈ zNW) (hM : zCs M' nargs) (hc : Con X.1 M' rm 0 0 false av sub (zAl v (fun m => m = sub))) (hE : zEmb is mem sub) (hav : av.map (zv (zr is)) = As) (hna : As.length = nargs) (hst : st0 = As.reverse ++ st) (hcs : (st.map fun v => v.category).sum ≤ 8) (hrm : zRm rm X.R M') (hR : kc ≤ X.R.cells ∧ ks ≤ X.R.slots) (kk : Z X kc ks mem n lv (.long (lI v) :: st)) : Z X kc ks mem pc lv st0 :=
  Z_callSNl k is h hlk hM hc hE hav hna hst hcs hrm hR (fun out hq => by rw [show out = sub from hq, zMg_same hE.2]; exact kk)
theorem Z_callSNb (k : Nat) {idx nargs : Nat} {host : String} {M' : zM} {rm : Room} {As : List Value} {sub : List zE} {p : Prop} {av : List Value} {st0 : List Value} {P : List zE → Prop} (is : List Nat) (h : X.I[k]? = some (pc, .invokestatic idx, 3, n)) (hlk : Cond.methodLinkNest X.M.1.cls idx M'.1 host ∈ zNW) (hM : zCs M' nargs) (hc : Con X.1 M' rm 0 0 false av sub (zAb p P)) (hE : zEmb is mem sub) (hav : av.map (zv (zr is)) = As) (hna : As.length = nargs) (hst : st0 = As.reverse ++ st) (hcs : (st.map fun v => v.category).sum ≤ 8) (hrm : zRm rm X.R M') (hR : kc ≤ X.R.cells ∧ ks ≤ X.R.slots) (kk : ∀ out : List zE, P out → Z X kc ks (zMg (zr is) is out mem) n lv (.int (iI (bI p)) :: st)) : Z X kc ks mem pc lv st0 :=
  Z_callSN k is h hlk hM hc hE hav hna hst hcs hrm hR (fun r out hq => by obtain ⟨rfl, hq⟩ := hq; exact kk out hq)
/-- a callee that leaves its world as it was -/
theorem Z_callSNbp (k : Nat) {idx nargs : Nat} {host : String} {M' : zM} {rm : Room} {As : List Value} {sub : List zE} {p : Prop} {av : List Value} {st0 : List Value}  (is : List Nat) (h : X.I[k]? = some (pc, .invokestatic idx, 3, n)) (hlk : Cond.methodLinkNest X.M.1.cls idx M'.1 host ∈ zNW) (hM : zCs M' nargs) (hc : Con X.1 M' rm 0 0 false av sub (zAb p (fun m => m = sub))) (hE : zEmb is mem sub) (hav : av.map (zv (zr is)) = As) (hna : As.length = nargs) (hst : st0 = As.reverse ++ st) (hcs : (st.map fun v => v.category).sum ≤ 8) (hrm : zRm rm X.R M') (hR : kc ≤ X.R.cells ∧ ks ≤ X.R.slots) (kk : Z X kc ks mem n lv (.int (iI (bI p)) :: st)) : Z X kc ks mem pc lv st0 :=
  Z_callSNb k is h hlk hM hc hE hav hna hst hcs hrm hR (fun out hq => by rw [show out = sub from hq, zMg_same hE.2]; exact kk)
theorem Z_callSNv (k : Nat) {idx nargs : Nat} {host : String} {M' : zM} {rm : Room} {As : List Value} {sub : List zE} {av : List Value} {st0 : List Value} {P : List zE → Prop} (is : List Nat) (h : X.I[k]? = some (pc, .invokestatic idx, 3, n)) (hlk : Cond.methodLinkNest X.M.1.cls idx M'.1 host ∈ zNW) (hM : zCs M' nargs) (hc : Con X.1 M' rm 0 0 false av sub (zAv P)) (hE : zEmb is mem sub) (hav : av.map (zv (zr is)) = As) (hna : As.length = nargs) (hst : st0 = As.reverse ++ st) (hcs : (st.map fun v => v.category).sum ≤ 8) (hrm : zRm rm X.R M') (hR : kc ≤ X.R.cells ∧ ks ≤ X.R.slots) (kk : ∀ out : List zE, P out → Z X kc ks (zMg (zr is) is out mem) n lv (st)) : Z X kc ks mem pc lv st0 :=
  Z_callSN k is h hlk hM hc hE hav hna hst hcs hrm hR (fun r out hq => by obtain ⟨rfl, hq⟩ := hq; exact kk out hq)
/-- a callee that leaves its world as it was -/
theorem Z_callSNvp (k : Nat) {idx nargs : Nat} {host : String} {M' : zM} {rm : Room} {As : List Value} {sub : List zE} {av : List Value} {st0 : List Value}  (is : List Nat) (h : X.I[k]? = some (pc, .invokestatic idx, 3, n)) (hlk : Cond.methodLinkNest X.M.1.cls idx M'.1 host ∈ zNW) (hM : zCs M' nargs) (hc : Con X.1 M' rm 0 0 false av sub (zAv (fun m => m = sub))) (hE : zEmb is mem sub) (hav : av.map (zv (zr is)) = As) (hna : As.length = nargs) (hst : st0 = As.reverse ++ st) (hcs : (st.map fun v => v.category).sum ≤ 8) (hrm : zRm rm X.R M') (hR : kc ≤ X.R.cells ∧ ks ≤ X.R.slots) (kk : Z X kc ks mem n lv (st)) : Z X kc ks mem pc lv st0 :=
  Z_callSNv k is h hlk hM hc hE hav hna hst hcs hrm hR (fun out hq => by rw [show out = sub from hq, zMg_same hE.2]; exact kk)
theorem Z_callSNr (k : Nat) {idx nargs : Nat} {host : String} {M' : zM} {rm : Room} {As : List Value} {sub : List zE} {q : Nat} {av : List Value} {st0 : List Value} {P : List zE → Prop} (is : List Nat) (h : X.I[k]? = some (pc, .invokestatic idx, 3, n)) (hlk : Cond.methodLinkNest X.M.1.cls idx M'.1 host ∈ zNW) (hM : zCs M' nargs) (hc : Con X.1 M' rm 0 0 false av sub (zAr q P)) (hE : zEmb is mem sub) (hav : av.map (zv (zr is)) = As) (hna : As.length = nargs) (hst : st0 = As.reverse ++ st) (hcs : (st.map fun v => v.category).sum ≤ 8) (hrm : zRm rm X.R M') (hR : kc ≤ X.R.cells ∧ ks ≤ X.R.slots) (kk : ∀ out : List zE, P out → Z X kc ks (zMg (zr is) is out mem) n lv (.ref (zr is q) :: st)) : Z X kc ks mem pc lv st0 :=
  Z_callSN k is h hlk hM hc hE hav hna hst hcs hrm hR (fun r out hq => by obtain ⟨rfl, hq⟩ := hq; exact kk out hq)
/-- a callee that leaves its world as it was -/
theorem Z_callSNrp (k : Nat) {idx nargs : Nat} {host : String} {M' : zM} {rm : Room} {As : List Value} {sub : List zE} {q : Nat} {av : List Value} {st0 : List Value}  (is : List Nat) (h : X.I[k]? = some (pc, .invokestatic idx, 3, n)) (hlk : Cond.methodLinkNest X.M.1.cls idx M'.1 host ∈ zNW) (hM : zCs M' nargs) (hc : Con X.1 M' rm 0 0 false av sub (zAr q (fun m => m = sub))) (hE : zEmb is mem sub) (hav : av.map (zv (zr is)) = As) (hna : As.length = nargs) (hst : st0 = As.reverse ++ st) (hcs : (st.map fun v => v.category).sum ≤ 8) (hrm : zRm rm X.R M') (hR : kc ≤ X.R.cells ∧ ks ≤ X.R.slots) (kk : Z X kc ks mem n lv (.ref (zr is q) :: st)) : Z X kc ks mem pc lv st0 :=
  Z_callSNr k is h hlk hM hc hE hav hna hst hcs hrm hR (fun out hq => by rw [show out = sub from hq, zMg_same hE.2]; exact kk)
end ZQ
end
section
/-! CamPieces: pick, store, copy -/
def pkI (N : Nat) (F : Int → Int) (i : Int) : Int := if 0 ≤ i ∧ i < (N : Int) then F i else 0
theorem pkI_in {N : Nat} {F : Int → Int} {i : Int} (h : 0 ≤ i ∧ i < (N : Int)) : pkI N F i = F i := if_pos h
theorem pkI_out {N : Nat} {F : Int → Int} {i : Int} (h : ¬ (0 ≤ i ∧ i < (N : Int))) : pkI N F i = 0 := if_neg h
theorem c_C_pick (l : Launch) (N : Nat) (hN : N < 100000) (F : Int → Int) (i : Int) (hi : inI i) : Con l M_C_pick R_C_pick 0 0 false [.ref 0, .int (iI i)] [aR N F] (zAi (pkI N F i) (fun m => m = [aR N F])) := by
  refine Con.of_Z (by decide) D_C_pick (Nat.le_of_ble_eq_true rfl) ?_
  refine Z_iload_n 0 rfl rfl rfl ?_
  refine Z_if_lt 1 rfl (tgt := 16) rfl (by omega) (fun c1 => ?_) (fun c1 => ?_)
  · refine Z_iconst 10 rfl ?_
    refine Z_iret 11 rfl rfl ⟨Nat.le_refl _, Nat.le_refl _⟩ ?_
    exact ⟨by first | rw [pkI_in (by omega)] | rw [pkI_out (by omega)], rfl⟩
  · refine Z_iload_n 2 rfl rfl rfl ?_
    refine Z_aload_n 3 rfl rfl rfl ?_
    refine Z_alR 4 rfl rfl ?_
    refine Z_icmp_ge 5 rfl (tgt := 16) rfl (by omega) (by omega) (fun c7 => ?_) (fun c7 => ?_)
    · refine Z_iconst 10 rfl ?_
      refine Z_iret 11 rfl rfl ⟨Nat.le_refl _, Nat.le_refl _⟩ ?_
      exact ⟨by first | rw [pkI_in (by omega)] | rw [pkI_out (by omega)], rfl⟩
    · refine Z_aload_n 6 rfl rfl rfl ?_
      refine Z_iload_n 7 rfl rfl rfl ?_
      refine Z_iaR 8 rfl rfl (by omega) (by omega) ?_
      refine Z_goto 9 rfl (tgt := 17) rfl ?_
      refine Z_iret 11 rfl rfl ⟨Nat.le_refl _, Nat.le_refl _⟩ ?_
      exact ⟨by first | rw [pkI_in (by omega)] | rw [pkI_out (by omega)], rfl⟩
theorem pick_in (l : Launch) (N : Nat) (hN : N < 100000) (F : Int → Int) (i : Int) (hi : 0 ≤ i ∧ i < (N : Int)) : Con l M_C_pick R_C_pick 0 0 false [.ref 0, .int (iI i)] [aR N F] (zAi (F i) (fun m => m = [aR N F])) := by
  have h := c_C_pick l N hN F i (by omega)
  rw [pkI_in hi] at h
  exact h
/-- what store does to a row -/
def stI (N : Nat) (F : Int → Int) (i v : Int) : Int → Int := if 0 ≤ i ∧ i < (N : Int) then uI F i v else F
theorem stI_in {N : Nat} {F : Int → Int} {i v : Int} (h : 0 ≤ i ∧ i < (N : Int)) : stI N F i v = uI F i v := if_pos h
theorem stI_out {N : Nat} {F : Int → Int} {i v : Int} (h : ¬ (0 ≤ i ∧ i < (N : Int))) : stI N F i v = F := if_neg h
theorem c_C_store (l : Launch) (N : Nat) (hN : N < 100000) (F : Int → Int) (i v : Int) (hi : inI i) : Con l M_C_store R_C_store 0 0 false [.ref 0, .int (iI i), .int (iI v)] [aI N F] (zAv (fun m => m = [aI N (stI N F i v)])) := by
  refine Con.of_Z (by decide) D_C_store (Nat.le_of_ble_eq_true rfl) ?_
  refine Z_iload_n 0 rfl rfl rfl ?_
  refine Z_if_lt 1 rfl (tgt := 14) rfl (by omega) (fun c1 => ?_) (fun c1 => ?_)
  · refine Z_vret 10 rfl rfl ⟨Nat.le_refl _, Nat.le_refl _⟩ ?_
    exact ⟨rfl, by first | rw [stI_in (by omega)] | rw [stI_out (by omega)]⟩
  · refine Z_iload_n 2 rfl rfl rfl ?_
    refine Z_aload_n 3 rfl rfl rfl ?_
    refine Z_alI 4 rfl rfl ?_
    refine Z_icmp_ge 5 rfl (tgt := 14) rfl (by omega) (by omega) (fun c7 => ?_) (fun c7 => ?_)
    · refine Z_vret 10 rfl rfl ⟨Nat.le_refl _, Nat.le_refl _⟩ ?_
      exact ⟨rfl, by first | rw [stI_in (by omega)] | rw [stI_out (by omega)]⟩
    · refine Z_aload_n 6 rfl rfl rfl ?_
      refine Z_iload_n 7 rfl rfl rfl ?_
      refine Z_iload_n 8 rfl rfl rfl ?_
      refine Z_ias 9 rfl rfl (by omega) (by omega) (mem' := [aI _ _]) rfl ?_
      refine Z_vret 10 rfl rfl ⟨Nat.le_refl _, Nat.le_refl _⟩ ?_
      exact ⟨rfl, by first | rw [stI_in (by omega)] | rw [stI_out (by omega)]⟩
theorem cpI_0 (F G : Int → Int) : cpI F G 0 = G := by
  funext j
  unfold cpI
  rw [if_neg (by omega)]
theorem cpI_s (F G : Int → Int) {i : Int} (hi : 0 ≤ i) : uI (cpI F G i) i (F i) = cpI F G (i + 1) := by
  funext j
  unfold cpI uI
  by_cases h : j = i
  · subst h
    rw [if_pos rfl, if_pos (by omega)]
  · rw [if_neg h]
    by_cases h2 : 0 ≤ j ∧ j < i
    · show (if 0 ≤ j ∧ j < i then F j else G j) = _
      rw [if_pos h2, if_pos (by omega)]
    · show (if 0 ≤ j ∧ j < i then F j else G j) = _
      rw [if_neg h2, if_neg (by omega)]
theorem lp_C_copy (l : Launch) (N : Nat) (hN : N < 100000) (F G : Int → Int) : ∀ (d : Nat) (i : Int), 0 ≤ i → i ≤ (N : Int) → (N : Int) - i < d → Z (l, M_C_copy, R_C_copy, (0, 0), false, zAv (fun m => m = [aR N F, aI N (cpI F G N)])) 0 0 [aR N F, aI N (cpI F G i)] 2 [(0, .ref 0), (1, .ref 1), (2, .int (iI i))] [] := by
  intro d
  induction d with
  | zero => intro i h1 h2 h3; omega
  | succ d ih =>
    intro i h1 h2 h3
    refine Z_iload_n 2 rfl rfl rfl ?_
    refine Z_aload_n 3 rfl rfl rfl ?_
    refine Z_alR 4 rfl rfl ?_
    refine Z_icmp_ge 5 rfl (tgt := 24) rfl (by omega) (by omega) (fun c5 => ?_) (fun c5 => ?_)
    · refine Z_vret 14 rfl rfl ⟨Nat.le_refl _, Nat.le_refl _⟩ ?_
      exact ⟨rfl, by rw [show i = (N : Int) by omega]⟩
    · refine Z_aload_n 6 rfl rfl rfl ?_
      refine Z_iload_n 7 rfl rfl rfl ?_
      refine Z_aload_n 8 rfl rfl rfl ?_
      refine Z_iload_n 9 rfl rfl rfl ?_
      refine Z_callSip (M' := M_C_pick) 10 [0] rfl l_C_148 C_C_pick (pick_in l N hN F i (by omega)) ⟨by decide, (zEL.c (Or.inl rfl) zEL.n)⟩ rfl rfl rfl (Nat.le_of_ble_eq_true rfl) ⟨rfl, rfl, Nat.le_of_ble_eq_true rfl, Nat.le_of_ble_eq_true rfl⟩ ⟨Nat.zero_le _, Nat.zero_le _⟩ ?_
      refine Z_callSv (M' := M_C_store) 11 [1] rfl l_C_155 C_C_store (c_C_store l N hN (cpI F G i) i (F i) (by omega)) ⟨by decide, (zEL.c (Or.inl rfl) zEL.n)⟩ rfl rfl rfl (Nat.le_of_ble_eq_true rfl) ⟨rfl, rfl, Nat.le_of_ble_eq_true rfl, Nat.le_of_ble_eq_true rfl⟩ ⟨Nat.zero_le _, Nat.zero_le _⟩ (fun out hq => ?_)
      obtain rfl := hq
      refine Z_mem (mem' := [aR _ _, aI _ _]) rfl ?_
      rw [stI_in (by omega), cpI_s F G h1]
      refine Z_iinc 12 rfl rfl (Nat.le_of_ble_eq_true rfl) (lv' := [(2, .int _), (0, .ref _), (1, .ref _)]) rfl ?_
      refine Z_goto 13 rfl (tgt := 2) rfl ?_
      refine Z_pick [0, 1, 2] (lv' := [(0, .ref _), (1, .ref _), (2, .int _)]) rfl ?_
      exact ih (i + 1) (by omega) (by omega) (by omega)
theorem c_C_copy (l : Launch) (N : Nat) (hN : N < 100000) (F G : Int → Int) : Con l M_C_copy R_C_copy 0 0 false [.ref 0, .ref 1] [aR N F, aI N G] (zAv (fun m => m = [aR N F, aI N (cpI F G N)])) := by
  refine Con.of_Z (by decide) D_C_copy (Nat.le_of_ble_eq_true rfl) ?_
  refine Z_iconst 0 rfl ?_
  refine Z_istore_n 1 rfl rfl (Nat.le_of_ble_eq_true rfl) (lv' := [(2, .int _), (0, .ref _), (1, .ref _)]) rfl ?_
  refine Z_pick [0, 1, 2] (lv' := [(0, .ref _), (1, .ref _), (2, .int _)]) rfl ?_
  have h := lp_C_copy l N hN F G (N + 1) 0 (by omega) (by omega) (by omega)
  rw [cpI_0] at h
  exact h
end
section
/-! Train: kinds, longs, rises, how many -/
abbrev TT : Type := (Int → Int) × (Int → Int) × (Int → Int) × Int
def eT (t : TT) : List zE := [zO 5 [.ref 1, .ref 2, .ref 3, .int (iI t.2.2.2)], aI 12 t.1, aI 12 t.2.1, aI 12 t.2.2.1]
def TB (t : TT) : Prop := (0 ≤ t.2.2.2 ∧ t.2.2.2 ≤ 12) ∧ (∀ i, 0 ≤ t.1 i ∧ t.1 i ≤ 5) ∧ (∀ i, 0 ≤ t.2.1 i ∧ t.2.1 i ≤ 360) ∧ ∀ i, -99 ≤ t.2.2.1 i ∧ t.2.2.1 i ≤ 99
/-- the sum of the first k -/
def sm (f : Int → Int) : Nat → Int
  | 0 => 0
  | k + 1 => sm f k + f (k : Int)
def sI (f : Int → Int) (k : Int) : Int := sm f k.toNat
theorem sI_0 (f : Int → Int) : sI f 0 = 0 := rfl
theorem sI_neg (f : Int → Int) {k : Int} (h : k ≤ 0) : sI f k = 0 := by
  unfold sI
  rw [show k.toNat = 0 by omega]
  rfl
theorem sI_s (f : Int → Int) {k : Int} (h : 0 ≤ k) : sI f (k + 1) = sI f k + f k := by
  unfold sI
  rw [show (k + 1).toNat = k.toNat + 1 by omega]
  show sm f k.toNat + f (k.toNat : Int) = _
  rw [Int.toNat_of_nonneg h]
theorem sI_bd (f : Int → Int) (A : Int) (hA : 0 ≤ A) (hf : ∀ i, -A ≤ f i ∧ f i ≤ A) : ∀ (k : Nat), -(A * k) ≤ sm f k ∧ sm f k ≤ A * k := by
  intro k
  induction k with
  | zero => simp [sm]
  | succ k ih =>
    have := hf (k : Int)
    show -(A * ((k + 1 : Nat) : Int)) ≤ sm f k + f k ∧ sm f k + f k ≤ A * ((k + 1 : Nat) : Int)
    have e : A * ((k + 1 : Nat) : Int) = A * k + A := by
      rw [show ((k + 1 : Nat) : Int) = (k : Int) + 1 from rfl, Int.mul_add, Int.mul_one]
    omega
def tot (t : TT) : Int := sI t.2.1 t.2.2.2
def ah (t : TT) (k : Int) : Int := sI t.2.2.1 k
def bg (t : TT) (k : Int) : Int := sI t.2.1 k
theorem bg_bd {t : TT} (h : TB t) {k : Int} (hk : k ≤ 12) : -4320 ≤ bg t k ∧ bg t k ≤ 4320 := by
  have h1 := sI_bd t.2.1 360 (by omega) (fun i => by have := h.2.2.1 i; omega) k.toNat
  unfold bg sI
  omega
theorem ah_bd {t : TT} (h : TB t) {k : Int} (hk : k ≤ 12) : -1188 ≤ ah t k ∧ ah t k ≤ 1188 := by
  have h1 := sI_bd t.2.2.1 99 (by omega) (fun i => h.2.2.2 i) k.toNat
  unfold ah sI
  omega
theorem tot_bd {t : TT} (h : TB t) : -4320 ≤ tot t ∧ tot t ≤ 4320 := bg_bd h h.1.2
def clo (t : TT) : Prop := tot t = 360 ∧ ah t t.2.2.2 = 0
theorem c_T_size (l : Launch) (t : TT) : Con l M_T_size R_T_size 0 0 false [.ref 0] (eT t) (zAi t.2.2.2 (fun m => m = eT t)) := by
  refine Con.of_Z (by decide) D_T_size (Nat.le_of_ble_eq_true rfl) ?_
  refine Z_aload_n 0 rfl rfl rfl ?_
  refine Z_get 1 rfl f_T_21 rfl rfl ?_
  refine Z_iret 2 rfl rfl ⟨Nat.le_refl _, Nat.le_refl _⟩ ?_
  exact ⟨rfl, rfl⟩
theorem c_T_isFull (l : Launch) (t : TT) (h : TB t) : Con l M_T_isFull R_T_isFull 0 0 false [.ref 0] (eT t) (zAb (12 ≤ t.2.2.2) (fun m => m = eT t)) := by
  have h1 := h.1
  refine Con.of_Z (by decide) D_T_isFull (Nat.le_of_ble_eq_true rfl) ?_
  refine Z_aload_n 0 rfl rfl rfl ?_
  refine Z_get 1 rfl f_T_21 rfl rfl ?_
  refine Z_bipush 2 rfl rfl ?_
  refine Z_icmp_lt 3 rfl (tgt := 13) rfl (by omega) (by omega) (fun c6 => ?_) (fun c6 => ?_)
  · refine Z_iconst 6 rfl ?_
    refine Z_zret 7 rfl rfl rfl ⟨Nat.le_refl _, Nat.le_refl _⟩ ?_
    exact ⟨by first | rw [bI_t (by omega)] | rw [bI_f (by omega)], rfl⟩
  · refine Z_iconst 4 rfl ?_
    refine Z_goto 5 rfl (tgt := 14) rfl ?_
    refine Z_zret 7 rfl rfl rfl ⟨Nat.le_refl _, Nat.le_refl _⟩ ?_
    exact ⟨by first | rw [bI_t (by omega)] | rw [bI_f (by omega)], rfl⟩
theorem c_T_has (l : Launch) (t : TT) (h : TB t) (k : Int) (hk : inI k) : Con l M_T_has R_T_has 0 0 false [.ref 0, .int (iI k)] (eT t) (zAb (0 ≤ k ∧ k < t.2.2.2) (fun m => m = eT t)) := by
  have h1 := h.1
  refine Con.of_Z (by decide) D_T_has (Nat.le_of_ble_eq_true rfl) ?_
  refine Z_iload_n 0 rfl rfl rfl ?_
  refine Z_if_lt 1 rfl (tgt := 16) rfl (by omega) (fun c1 => ?_) (fun c1 => ?_)
  · refine Z_iconst 8 rfl ?_
    refine Z_zret 9 rfl rfl rfl ⟨Nat.le_refl _, Nat.le_refl _⟩ ?_
    exact ⟨by first | rw [bI_t (by omega)] | rw [bI_f (by omega)], rfl⟩
  · refine Z_iload_n 2 rfl rfl rfl ?_
    refine Z_aload_n 3 rfl rfl rfl ?_
    refine Z_get 4 rfl f_T_21 rfl rfl ?_
    refine Z_icmp_ge 5 rfl (tgt := 16) rfl (by omega) (by omega) (fun c9 => ?_) (fun c9 => ?_)
    · refine Z_iconst 8 rfl ?_
      refine Z_zret 9 rfl rfl rfl ⟨Nat.le_refl _, Nat.le_refl _⟩ ?_
      exact ⟨by first | rw [bI_t (by omega)] | rw [bI_f (by omega)], rfl⟩
    · refine Z_iconst 6 rfl ?_
      refine Z_goto 7 rfl (tgt := 17) rfl ?_
      refine Z_zret 9 rfl rfl rfl ⟨Nat.le_refl _, Nat.le_refl _⟩ ?_
      exact ⟨by first | rw [bI_t (by omega)] | rw [bI_f (by omega)], rfl⟩
theorem c_T_kindOf (l : Launch) (t : TT) (k : Int) (hk : 0 ≤ k ∧ k < 12) : Con l M_T_kindOf R_T_kindOf 0 0 false [.ref 0, .int (iI k)] (eT t) (zAi (t.1 k) (fun m => m = eT t)) := by
  refine Con.of_Z (by decide) D_T_kindOf (Nat.le_of_ble_eq_true rfl) ?_
  refine Z_iload_n 0 rfl rfl rfl ?_
  refine Z_if_lt 1 rfl (tgt := 22) rfl (by omega) (fun c1 => ?_) (fun c1 => ?_)
  · exfalso; omega
  refine Z_iload_n 2 rfl rfl rfl ?_
  refine Z_aload_n 3 rfl rfl rfl ?_
  refine Z_get 4 rfl f_T_9 rfl rfl ?_
  refine Z_alI 5 rfl rfl ?_
  refine Z_icmp_ge 6 rfl (tgt := 22) rfl (by omega) (by omega) (fun c10 => ?_) (fun c10 => ?_)
  · exfalso; omega
  refine Z_aload_n 7 rfl rfl rfl ?_
  refine Z_get 8 rfl f_T_9 rfl rfl ?_
  refine Z_iload_n 9 rfl rfl rfl ?_
  refine Z_ia 10 rfl rfl (by omega) (by decide) ?_
  refine Z_goto 11 rfl (tgt := 23) rfl ?_
  refine Z_iret 13 rfl rfl ⟨Nat.le_refl _, Nat.le_refl _⟩ ?_
  exact ⟨rfl, rfl⟩
theorem c_T_longOf (l : Launch) (t : TT) (k : Int) (hk : 0 ≤ k ∧ k < 12) : Con l M_T_longOf R_T_longOf 0 0 false [.ref 0, .int (iI k)] (eT t) (zAi (t.2.1 k) (fun m => m = eT t)) := by
  refine Con.of_Z (by decide) D_T_longOf (Nat.le_of_ble_eq_true rfl) ?_
  refine Z_iload_n 0 rfl rfl rfl ?_
  refine Z_if_lt 1 rfl (tgt := 22) rfl (by omega) (fun c1 => ?_) (fun c1 => ?_)
  · exfalso; omega
  refine Z_iload_n 2 rfl rfl rfl ?_
  refine Z_aload_n 3 rfl rfl rfl ?_
  refine Z_get 4 rfl f_T_15 rfl rfl ?_
  refine Z_alI 5 rfl rfl ?_
  refine Z_icmp_ge 6 rfl (tgt := 22) rfl (by omega) (by omega) (fun c10 => ?_) (fun c10 => ?_)
  · exfalso; omega
  refine Z_aload_n 7 rfl rfl rfl ?_
  refine Z_get 8 rfl f_T_15 rfl rfl ?_
  refine Z_iload_n 9 rfl rfl rfl ?_
  refine Z_ia 10 rfl rfl (by omega) (by decide) ?_
  refine Z_goto 11 rfl (tgt := 23) rfl ?_
  refine Z_iret 13 rfl rfl ⟨Nat.le_refl _, Nat.le_refl _⟩ ?_
  exact ⟨rfl, rfl⟩
theorem c_T_riseOf (l : Launch) (t : TT) (k : Int) (hk : 0 ≤ k ∧ k < 12) : Con l M_T_riseOf R_T_riseOf 0 0 false [.ref 0, .int (iI k)] (eT t) (zAi (t.2.2.1 k) (fun m => m = eT t)) := by
  refine Con.of_Z (by decide) D_T_riseOf (Nat.le_of_ble_eq_true rfl) ?_
  refine Z_iload_n 0 rfl rfl rfl ?_
  refine Z_if_lt 1 rfl (tgt := 22) rfl (by omega) (fun c1 => ?_) (fun c1 => ?_)
  · exfalso; omega
  refine Z_iload_n 2 rfl rfl rfl ?_
  refine Z_aload_n 3 rfl rfl rfl ?_
  refine Z_get 4 rfl f_T_18 rfl rfl ?_
  refine Z_alI 5 rfl rfl ?_
  refine Z_icmp_ge 6 rfl (tgt := 22) rfl (by omega) (by omega) (fun c10 => ?_) (fun c10 => ?_)
  · exfalso; omega
  refine Z_aload_n 7 rfl rfl rfl ?_
  refine Z_get 8 rfl f_T_18 rfl rfl ?_
  refine Z_iload_n 9 rfl rfl rfl ?_
  refine Z_ia 10 rfl rfl (by omega) (by decide) ?_
  refine Z_goto 11 rfl (tgt := 23) rfl ?_
  refine Z_iret 13 rfl rfl ⟨Nat.le_refl _, Nat.le_refl _⟩ ?_
  exact ⟨rfl, rfl⟩
def ptOf (t : TT) (k what : Int) : Int := if what = 0 then t.1 k else if what = 1 then t.2.1 k else t.2.2.1 k
theorem c_T_partOf (l : Launch) (t : TT) (k what : Int) (hk : 0 ≤ k ∧ k < 12) (hw : inI what) : Con l M_T_partOf R_T_partOf 0 0 false [.ref 0, .int (iI k), .int (iI what)] (eT t) (zAi (ptOf t k what) (fun m => m = eT t)) := by
  refine Con.of_Z (by decide) D_T_partOf (Nat.le_of_ble_eq_true rfl) ?_
  refine Z_iload_n 0 rfl rfl rfl ?_
  refine Z_if_ne 1 rfl (tgt := 12) rfl (by omega) (fun c1 => ?_) (fun c1 => ?_)
  · refine Z_iload_n 6 rfl rfl rfl ?_
    refine Z_iconst 7 rfl ?_
    refine Z_icmp_ne 8 rfl (tgt := 25) rfl (by omega) (by omega) (fun c14 => ?_) (fun c14 => ?_)
    · refine Z_aload_n 13 rfl rfl rfl ?_
      refine Z_iload_n 14 rfl rfl rfl ?_
      refine Z_callVip (M' := M_T_riseOf) 15 [0, 1, 2, 3] rfl l_T_32 C_T_riseOf (c_T_riseOf l t k hk) ⟨by decide, (zEL.c (Or.inl rfl) (zEL.c (Or.inl rfl) (zEL.c (Or.inl rfl) (zEL.c (Or.inl rfl) zEL.n))))⟩ (Or.inl ⟨_, _, _, _, rfl, rfl⟩) rfl rfl rfl (Nat.le_of_ble_eq_true rfl) ⟨rfl, rfl, Nat.le_of_ble_eq_true rfl, Nat.le_of_ble_eq_true rfl⟩ ⟨Nat.zero_le _, Nat.zero_le _⟩ ?_
      refine Z_iret 16 rfl rfl ⟨Nat.le_refl _, Nat.le_refl _⟩ ?_
      exact ⟨by unfold ptOf; first | rw [if_pos (by omega)] | rw [if_neg (by omega), if_pos (by omega)] | rw [if_neg (by omega), if_neg (by omega)], rfl⟩
    · refine Z_aload_n 9 rfl rfl rfl ?_
      refine Z_iload_n 10 rfl rfl rfl ?_
      refine Z_callVip (M' := M_T_longOf) 11 [0, 1, 2, 3] rfl l_T_29 C_T_longOf (c_T_longOf l t k hk) ⟨by decide, (zEL.c (Or.inl rfl) (zEL.c (Or.inl rfl) (zEL.c (Or.inl rfl) (zEL.c (Or.inl rfl) zEL.n))))⟩ (Or.inl ⟨_, _, _, _, rfl, rfl⟩) rfl rfl rfl (Nat.le_of_ble_eq_true rfl) ⟨rfl, rfl, Nat.le_of_ble_eq_true rfl, Nat.le_of_ble_eq_true rfl⟩ ⟨Nat.zero_le _, Nat.zero_le _⟩ ?_
      refine Z_goto 12 rfl (tgt := 30) rfl ?_
      refine Z_iret 16 rfl rfl ⟨Nat.le_refl _, Nat.le_refl _⟩ ?_
      exact ⟨by unfold ptOf; first | rw [if_pos (by omega)] | rw [if_neg (by omega), if_pos (by omega)] | rw [if_neg (by omega), if_neg (by omega)], rfl⟩
  · refine Z_aload_n 2 rfl rfl rfl ?_
    refine Z_iload_n 3 rfl rfl rfl ?_
    refine Z_callVip (M' := M_T_kindOf) 4 [0, 1, 2, 3] rfl l_T_25 C_T_kindOf (c_T_kindOf l t k hk) ⟨by decide, (zEL.c (Or.inl rfl) (zEL.c (Or.inl rfl) (zEL.c (Or.inl rfl) (zEL.c (Or.inl rfl) zEL.n))))⟩ (Or.inl ⟨_, _, _, _, rfl, rfl⟩) rfl rfl rfl (Nat.le_of_ble_eq_true rfl) ⟨rfl, rfl, Nat.le_of_ble_eq_true rfl, Nat.le_of_ble_eq_true rfl⟩ ⟨Nat.zero_le _, Nat.zero_le _⟩ ?_
    refine Z_goto 5 rfl (tgt := 30) rfl ?_
    refine Z_iret 16 rfl rfl ⟨Nat.le_refl _, Nat.le_refl _⟩ ?_
    exact ⟨by unfold ptOf; first | rw [if_pos (by omega)] | rw [if_neg (by omega), if_pos (by omega)] | rw [if_neg (by omega), if_neg (by omega)], rfl⟩
theorem lp_T_beginOf (l : Launch) (t : TT) (h : TB t) (k M : Int) (hk : inI k) (hM : (M = k ∧ k ≤ t.2.2.2 ∧ 0 ≤ k) ∨ (M = t.2.2.2 ∧ t.2.2.2 ≤ k) ∨ (M = 0 ∧ k ≤ 0)) : ∀ (d : Nat) (j : Int), 0 ≤ j → j ≤ M → M - j < d → Z (l, M_T_beginOf, R_T_beginOf, (0, 0), false, zAi (sI t.2.1 M) (fun m => m = eT t)) 0 0 (eT t) 4 [(0, .ref 0), (1, .int (iI k)), (2, .int (iI (sI t.2.1 j))), (3, .int (iI j))] [] := by
  have h1 := h.1
  intro d
  induction d with
  | zero => intro i h1 h2 h3; omega
  | succ d ih =>
    intro j h2 h3 h4
    refine Z_iload_n 4 rfl rfl rfl ?_
    refine Z_iload_n 5 rfl rfl rfl ?_
    refine Z_icmp_ge 6 rfl (tgt := 31) rfl (by omega) (by omega) (fun c6 => ?_) (fun c6 => ?_)
    · refine Z_iload_n 19 rfl rfl rfl ?_
      refine Z_iret 20 rfl rfl ⟨Nat.le_refl _, Nat.le_refl _⟩ ?_
      exact ⟨by rw [show j = M by omega], rfl⟩
    · refine Z_iload_n 7 rfl rfl rfl ?_
      refine Z_aload_n 8 rfl rfl rfl ?_
      refine Z_get 9 rfl f_T_21 rfl rfl ?_
      refine Z_icmp_ge 10 rfl (tgt := 31) rfl (by omega) (by omega) (fun c14 => ?_) (fun c14 => ?_)
      · refine Z_iload_n 19 rfl rfl rfl ?_
        refine Z_iret 20 rfl rfl ⟨Nat.le_refl _, Nat.le_refl _⟩ ?_
        exact ⟨by rw [show j = M by omega], rfl⟩
      · refine Z_iload_n 11 rfl rfl rfl ?_
        refine Z_aload_n 12 rfl rfl rfl ?_
        refine Z_iload_n 13 rfl rfl rfl ?_
        refine Z_callVip (M' := M_T_longOf) 14 [0, 1, 2, 3] rfl l_T_29 C_T_longOf (c_T_longOf l t j (by omega)) ⟨by decide, (zEL.c (Or.inl rfl) (zEL.c (Or.inl rfl) (zEL.c (Or.inl rfl) (zEL.c (Or.inl rfl) zEL.n))))⟩ (Or.inl ⟨_, _, _, _, rfl, rfl⟩) rfl rfl rfl (Nat.le_of_ble_eq_true rfl) ⟨rfl, rfl, Nat.le_of_ble_eq_true rfl, Nat.le_of_ble_eq_true rfl⟩ ⟨Nat.zero_le _, Nat.zero_le _⟩ ?_
        refine Z_iadd 15 rfl ?_
        refine Z_ci (sI_s t.2.1 h2).symm ?_
        refine Z_istore_n 16 rfl rfl (Nat.le_of_ble_eq_true rfl) (lv' := [(2, .int _), (0, .ref _), (1, .int _), (3, .int _)]) rfl ?_
        refine Z_iinc 17 rfl rfl (Nat.le_of_ble_eq_true rfl) (lv' := [(3, .int _), (2, .int _), (0, .ref _), (1, .int _)]) rfl ?_
        refine Z_goto 18 rfl (tgt := 4) rfl ?_
        refine Z_pick [0, 1, 2, 3] (lv' := [(0, .ref _), (1, .int _), (2, .int _), (3, .int _)]) rfl ?_
        exact ih (j + 1) (by omega) (by omega) (by omega)
theorem c_T_beginOf (l : Launch) (t : TT) (h : TB t) (k M : Int) (hk : inI k) (hM : (M = k ∧ k ≤ t.2.2.2 ∧ 0 ≤ k) ∨ (M = t.2.2.2 ∧ t.2.2.2 ≤ k) ∨ (M = 0 ∧ k ≤ 0)) : Con l M_T_beginOf R_T_beginOf 0 0 false [.ref 0, .int (iI k)] (eT t) (zAi (sI t.2.1 M) (fun m => m = eT t)) := by
  have h1 := h.1
  refine Con.of_Z (by decide) D_T_beginOf (Nat.le_of_ble_eq_true rfl) ?_
  refine Z_iconst 0 rfl ?_
  refine Z_istore_n 1 rfl rfl (Nat.le_of_ble_eq_true rfl) (lv' := [(2, .int _), (0, .ref _), (1, .int _)]) rfl ?_
  refine Z_iconst 2 rfl ?_
  refine Z_istore_n 3 rfl rfl (Nat.le_of_ble_eq_true rfl) (lv' := [(3, .int _), (2, .int _), (0, .ref _), (1, .int _)]) rfl ?_
  refine Z_pick [0, 1, 2, 3] (lv' := [(0, .ref _), (1, .int _), (2, .int _), (3, .int _)]) rfl ?_
  exact lp_T_beginOf l t h k M hk hM 13 0 (by omega) (by omega) (by omega)
theorem lp_T_liftOf (l : Launch) (t : TT) (h : TB t) (k M : Int) (hk : inI k) (hM : (M = k ∧ k ≤ t.2.2.2 ∧ 0 ≤ k) ∨ (M = t.2.2.2 ∧ t.2.2.2 ≤ k) ∨ (M = 0 ∧ k ≤ 0)) : ∀ (d : Nat) (j : Int), 0 ≤ j → j ≤ M → M - j < d → Z (l, M_T_liftOf, R_T_liftOf, (0, 0), false, zAi (sI t.2.2.1 M) (fun m => m = eT t)) 0 0 (eT t) 4 [(0, .ref 0), (1, .int (iI k)), (2, .int (iI (sI t.2.2.1 j))), (3, .int (iI j))] [] := by
  have h1 := h.1
  intro d
  induction d with
  | zero => intro i h1 h2 h3; omega
  | succ d ih =>
    intro j h2 h3 h4
    refine Z_iload_n 4 rfl rfl rfl ?_
    refine Z_iload_n 5 rfl rfl rfl ?_
    refine Z_icmp_ge 6 rfl (tgt := 31) rfl (by omega) (by omega) (fun c6 => ?_) (fun c6 => ?_)
    · refine Z_iload_n 19 rfl rfl rfl ?_
      refine Z_iret 20 rfl rfl ⟨Nat.le_refl _, Nat.le_refl _⟩ ?_
      exact ⟨by rw [show j = M by omega], rfl⟩
    · refine Z_iload_n 7 rfl rfl rfl ?_
      refine Z_aload_n 8 rfl rfl rfl ?_
      refine Z_get 9 rfl f_T_21 rfl rfl ?_
      refine Z_icmp_ge 10 rfl (tgt := 31) rfl (by omega) (by omega) (fun c14 => ?_) (fun c14 => ?_)
      · refine Z_iload_n 19 rfl rfl rfl ?_
        refine Z_iret 20 rfl rfl ⟨Nat.le_refl _, Nat.le_refl _⟩ ?_
        exact ⟨by rw [show j = M by omega], rfl⟩
      · refine Z_iload_n 11 rfl rfl rfl ?_
        refine Z_aload_n 12 rfl rfl rfl ?_
        refine Z_iload_n 13 rfl rfl rfl ?_
        refine Z_callVip (M' := M_T_riseOf) 14 [0, 1, 2, 3] rfl l_T_32 C_T_riseOf (c_T_riseOf l t j (by omega)) ⟨by decide, (zEL.c (Or.inl rfl) (zEL.c (Or.inl rfl) (zEL.c (Or.inl rfl) (zEL.c (Or.inl rfl) zEL.n))))⟩ (Or.inl ⟨_, _, _, _, rfl, rfl⟩) rfl rfl rfl (Nat.le_of_ble_eq_true rfl) ⟨rfl, rfl, Nat.le_of_ble_eq_true rfl, Nat.le_of_ble_eq_true rfl⟩ ⟨Nat.zero_le _, Nat.zero_le _⟩ ?_
        refine Z_iadd 15 rfl ?_
        refine Z_ci (sI_s t.2.2.1 h2).symm ?_
        refine Z_istore_n 16 rfl rfl (Nat.le_of_ble_eq_true rfl) (lv' := [(2, .int _), (0, .ref _), (1, .int _), (3, .int _)]) rfl ?_
        refine Z_iinc 17 rfl rfl (Nat.le_of_ble_eq_true rfl) (lv' := [(3, .int _), (2, .int _), (0, .ref _), (1, .int _)]) rfl ?_
        refine Z_goto 18 rfl (tgt := 4) rfl ?_
        refine Z_pick [0, 1, 2, 3] (lv' := [(0, .ref _), (1, .int _), (2, .int _), (3, .int _)]) rfl ?_
        exact ih (j + 1) (by omega) (by omega) (by omega)
theorem c_T_liftOf (l : Launch) (t : TT) (h : TB t) (k M : Int) (hk : inI k) (hM : (M = k ∧ k ≤ t.2.2.2 ∧ 0 ≤ k) ∨ (M = t.2.2.2 ∧ t.2.2.2 ≤ k) ∨ (M = 0 ∧ k ≤ 0)) : Con l M_T_liftOf R_T_liftOf 0 0 false [.ref 0, .int (iI k)] (eT t) (zAi (sI t.2.2.1 M) (fun m => m = eT t)) := by
  have h1 := h.1
  refine Con.of_Z (by decide) D_T_liftOf (Nat.le_of_ble_eq_true rfl) ?_
  refine Z_iconst 0 rfl ?_
  refine Z_istore_n 1 rfl rfl (Nat.le_of_ble_eq_true rfl) (lv' := [(2, .int _), (0, .ref _), (1, .int _)]) rfl ?_
  refine Z_iconst 2 rfl ?_
  refine Z_istore_n 3 rfl rfl (Nat.le_of_ble_eq_true rfl) (lv' := [(3, .int _), (2, .int _), (0, .ref _), (1, .int _)]) rfl ?_
  refine Z_pick [0, 1, 2, 3] (lv' := [(0, .ref _), (1, .int _), (2, .int _), (3, .int _)]) rfl ?_
  exact lp_T_liftOf l t h k M hk hM 13 0 (by omega) (by omega) (by omega)
theorem c_T_total (l : Launch) (t : TT) (h : TB t) : Con l M_T_total R_T_total 0 0 false [.ref 0] (eT t) (zAi (tot t) (fun m => m = eT t)) := by
  have h1 := h.1
  refine Con.of_Z (by decide) D_T_total (Nat.le_of_ble_eq_true rfl) ?_
  refine Z_aload_n 0 rfl rfl rfl ?_
  refine Z_aload_n 1 rfl rfl rfl ?_
  refine Z_get 2 rfl f_T_21 rfl rfl ?_
  refine Z_callVip (M' := M_T_beginOf) 3 [0, 1, 2, 3] rfl l_T_35 C_T_beginOf (c_T_beginOf l t h t.2.2.2 t.2.2.2 (by omega) (by omega)) ⟨by decide, (zEL.c (Or.inl rfl) (zEL.c (Or.inl rfl) (zEL.c (Or.inl rfl) (zEL.c (Or.inl rfl) zEL.n))))⟩ (Or.inl ⟨_, _, _, _, rfl, rfl⟩) rfl rfl rfl (Nat.le_of_ble_eq_true rfl) ⟨rfl, rfl, Nat.le_of_ble_eq_true rfl, Nat.le_of_ble_eq_true rfl⟩ ⟨Nat.zero_le _, Nat.zero_le _⟩ ?_
  refine Z_iret 4 rfl rfl ⟨Nat.le_refl _, Nat.le_refl _⟩ ?_
  exact ⟨rfl, rfl⟩
theorem c_T_isClosed (l : Launch) (t : TT) (h : TB t) : Con l M_T_isClosed R_T_isClosed 0 0 false [.ref 0] (eT t) (zAb (clo t) (fun m => m = eT t)) := by
  have h1 := h.1
  have h2 := tot_bd h
  have h3 := ah_bd h h1.2
  refine Con.of_Z (by decide) D_T_isClosed (Nat.le_of_ble_eq_true rfl) ?_
  refine Z_aload_n 0 rfl rfl rfl ?_
  refine Z_callVip (M' := M_T_total) 1 [0, 1, 2, 3] rfl l_T_38 C_T_total (c_T_total l t h) ⟨by decide, (zEL.c (Or.inl rfl) (zEL.c (Or.inl rfl) (zEL.c (Or.inl rfl) (zEL.c (Or.inl rfl) zEL.n))))⟩ (Or.inl ⟨_, _, _, _, rfl, rfl⟩) rfl rfl rfl (Nat.le_of_ble_eq_true rfl) ⟨rfl, rfl, Nat.le_of_ble_eq_true rfl, Nat.le_of_ble_eq_true rfl⟩ ⟨Nat.zero_le _, Nat.zero_le _⟩ ?_
  refine Z_sipush 2 rfl rfl ?_
  refine Z_icmp_ne 3 rfl (tgt := 25) rfl (by omega) (by omega) (fun c7 => ?_) (fun c7 => ?_)
  · refine Z_iconst 11 rfl ?_
    refine Z_zret 12 rfl rfl rfl ⟨Nat.le_refl _, Nat.le_refl _⟩ ?_
    exact ⟨by first | rw [bI_t ⟨by omega, by first | assumption | (unfold ah at *; omega)⟩] | rw [bI_f (fun z => by have := z.1; have := z.2; unfold ah at *; omega)], rfl⟩
  · refine Z_aload_n 4 rfl rfl rfl ?_
    refine Z_aload_n 5 rfl rfl rfl ?_
    refine Z_get 6 rfl f_T_21 rfl rfl ?_
    refine Z_callVip (M' := M_T_liftOf) 7 [0, 1, 2, 3] rfl l_T_42 C_T_liftOf (c_T_liftOf l t h t.2.2.2 t.2.2.2 (by omega) (by omega)) ⟨by decide, (zEL.c (Or.inl rfl) (zEL.c (Or.inl rfl) (zEL.c (Or.inl rfl) (zEL.c (Or.inl rfl) zEL.n))))⟩ (Or.inl ⟨_, _, _, _, rfl, rfl⟩) rfl rfl rfl (Nat.le_of_ble_eq_true rfl) ⟨rfl, rfl, Nat.le_of_ble_eq_true rfl, Nat.le_of_ble_eq_true rfl⟩ ⟨Nat.zero_le _, Nat.zero_le _⟩ ?_
    refine Z_if_ne 8 rfl (tgt := 25) rfl (by unfold ah at h3; omega) (fun c18 => ?_) (fun c18 => ?_)
    · refine Z_iconst 11 rfl ?_
      refine Z_zret 12 rfl rfl rfl ⟨Nat.le_refl _, Nat.le_refl _⟩ ?_
      exact ⟨by first | rw [bI_t ⟨by omega, by first | assumption | (unfold ah at *; omega)⟩] | rw [bI_f (fun z => by have := z.1; have := z.2; unfold ah at *; omega)], rfl⟩
    · refine Z_iconst 9 rfl ?_
      refine Z_goto 10 rfl (tgt := 26) rfl ?_
      refine Z_zret 12 rfl rfl rfl ⟨Nat.le_refl _, Nat.le_refl _⟩ ?_
      exact ⟨by first | rw [bI_t ⟨by omega, by first | assumption | (unfold ah at *; omega)⟩] | rw [bI_f (fun z => by have := z.1; have := z.2; unfold ah at *; omega)], rfl⟩
theorem c_T_empty (l : Launch) (t : TT) : Con l M_T_empty R_T_empty 0 0 false [.ref 0] (eT t) (zAv (fun m => m = eT (t.1, t.2.1, t.2.2.1, 0))) := by
  refine Con.of_Z (by decide) D_T_empty (Nat.le_of_ble_eq_true rfl) ?_
  refine Z_aload_n 0 rfl rfl rfl ?_
  refine Z_iconst 1 rfl ?_
  refine Z_put 2 rfl f_T_21 rfl (Nat.le_of_ble_eq_true rfl) (fun _ => ⟨rfl, rfl⟩) (fs' := []) (mem' := eT (t.1, t.2.1, t.2.2.1, 0)) rfl ?_
  refine Z_vret 3 rfl rfl ⟨Nat.le_refl _, Nat.le_refl _⟩ ?_
  exact ⟨rfl, rfl⟩
theorem c_T_shorten (l : Launch) (t : TT) (h : TB t) (h0 : 0 < t.2.2.2) : Con l M_T_shorten R_T_shorten 0 0 false [.ref 0] (eT t) (zAv (fun m => m = eT (t.1, t.2.1, t.2.2.1, t.2.2.2 - 1))) := by
  have h1 := h.1
  refine Con.of_Z (by decide) D_T_shorten (Nat.le_of_ble_eq_true rfl) ?_
  refine Z_aload_n 0 rfl rfl rfl ?_
  refine Z_get 1 rfl f_T_21 rfl rfl ?_
  refine Z_if_le 2 rfl (tgt := 17) rfl (by omega) (fun c4 => ?_) (fun c4 => ?_)
  · exfalso; omega
  refine Z_aload_n 3 rfl rfl rfl ?_
  refine Z_dup 4 rfl rfl ?_
  refine Z_get 5 rfl f_T_21 rfl rfl ?_
  refine Z_iconst 6 rfl ?_
  refine Z_isub 7 rfl ?_
  refine Z_put 8 rfl f_T_21 rfl (Nat.le_of_ble_eq_true rfl) (fun _ => ⟨rfl, rfl⟩) (fs' := []) (mem' := eT (t.1, t.2.1, t.2.2.1, t.2.2.2 - 1)) rfl ?_
  refine Z_vret 9 rfl rfl ⟨Nat.le_refl _, Nat.le_refl _⟩ ?_
  exact ⟨rfl, rfl⟩
def tW (t : TT) (k a b c : Int) : TT := (uI t.1 k a, uI t.2.1 k b, uI t.2.2.1 k c, t.2.2.2)
theorem c_T_write (l : Launch) (t : TT) (k a b c : Int) (hk : 0 ≤ k ∧ k < 12) : Con l M_T_write R_T_write 0 0 false [.ref 0, .int (iI k), .int (iI a), .int (iI b), .int (iI c)] (eT t) (zAv (fun m => m = eT (tW t k a b c))) := by
  refine Con.of_Z (by decide) D_T_write (Nat.le_of_ble_eq_true rfl) ?_
  refine Z_aload_n 0 rfl rfl rfl ?_
  refine Z_get 1 rfl f_T_9 rfl rfl ?_
  refine Z_iload_n 2 rfl rfl rfl ?_
  refine Z_iload_n 3 rfl rfl rfl ?_
  refine Z_callSNv (M' := M_C_store) 4 [1] rfl l_T_53 C_C_store (c_C_store l 12 (by omega) t.1 k a (by omega)) ⟨by decide, (zEL.c (Or.inl rfl) zEL.n)⟩ rfl rfl rfl (Nat.le_of_ble_eq_true rfl) ⟨rfl, rfl, Nat.le_of_ble_eq_true rfl, Nat.le_of_ble_eq_true rfl⟩ ⟨Nat.zero_le _, Nat.zero_le _⟩ (fun out hq => ?_)
  obtain rfl := hq
  refine Z_mem (show _ = eT (uI t.1 k a, t.2.1, t.2.2.1, t.2.2.2) by rw [stI_in (by omega)]; rfl) ?_
  refine Z_aload_n 5 rfl rfl rfl ?_
  refine Z_get 6 rfl f_T_15 rfl rfl ?_
  refine Z_iload_n 7 rfl rfl rfl ?_
  refine Z_iload_n 8 rfl rfl rfl ?_
  refine Z_callSNv (M' := M_C_store) 9 [2] rfl l_T_53 C_C_store (c_C_store l 12 (by omega) t.2.1 k b (by omega)) ⟨by decide, (zEL.c (Or.inl rfl) zEL.n)⟩ rfl rfl rfl (Nat.le_of_ble_eq_true rfl) ⟨rfl, rfl, Nat.le_of_ble_eq_true rfl, Nat.le_of_ble_eq_true rfl⟩ ⟨Nat.zero_le _, Nat.zero_le _⟩ (fun out hq => ?_)
  obtain rfl := hq
  refine Z_mem (show _ = eT (uI t.1 k a, uI t.2.1 k b, t.2.2.1, t.2.2.2) by rw [stI_in (by omega)]; rfl) ?_
  refine Z_aload_n 10 rfl rfl rfl ?_
  refine Z_get 11 rfl f_T_18 rfl rfl ?_
  refine Z_iload_n 12 rfl rfl rfl ?_
  refine Z_iload 13 rfl rfl ?_
  refine Z_callSNv (M' := M_C_store) 14 [3] rfl l_T_53 C_C_store (c_C_store l 12 (by omega) t.2.2.1 k c (by omega)) ⟨by decide, (zEL.c (Or.inl rfl) zEL.n)⟩ rfl rfl rfl (Nat.le_of_ble_eq_true rfl) ⟨rfl, rfl, Nat.le_of_ble_eq_true rfl, Nat.le_of_ble_eq_true rfl⟩ ⟨Nat.zero_le _, Nat.zero_le _⟩ (fun out hq => ?_)
  obtain rfl := hq
  refine Z_mem (show _ = eT (tW t k a b c) by rw [stI_in (by omega)]; rfl) ?_
  refine Z_vret 15 rfl rfl ⟨Nat.le_refl _, Nat.le_refl _⟩ ?_
  exact ⟨rfl, rfl⟩
theorem c_T_append (l : Launch) (t : TT) (h : TB t) (a b c : Int) (h0 : t.2.2.2 < 12) : Con l M_T_append R_T_append 0 0 false [.ref 0, .int (iI a), .int (iI b), .int (iI c)] (eT t) (zAv (fun m => m = eT ((tW t t.2.2.2 a b c).1, (tW t t.2.2.2 a b c).2.1, (tW t t.2.2.2 a b c).2.2.1, t.2.2.2 + 1))) := by
  have h1 := h.1
  refine Con.of_Z (by decide) D_T_append (Nat.le_of_ble_eq_true rfl) ?_
  refine Z_aload_n 0 rfl rfl rfl ?_
  refine Z_callVbp (M' := M_T_isFull) 1 [0, 1, 2, 3] rfl l_T_45 C_T_isFull (c_T_isFull l t h) ⟨by decide, (zEL.c (Or.inl rfl) (zEL.c (Or.inl rfl) (zEL.c (Or.inl rfl) (zEL.c (Or.inl rfl) zEL.n))))⟩ (Or.inl ⟨_, _, _, _, rfl, rfl⟩) rfl rfl rfl (Nat.le_of_ble_eq_true rfl) ⟨rfl, rfl, Nat.le_of_ble_eq_true rfl, Nat.le_of_ble_eq_true rfl⟩ ⟨Nat.zero_le _, Nat.zero_le _⟩ ?_
  refine Z_ifb_eq 2 rfl (tgt := 8) rfl (fun c4 => ?_) (fun c4 => ?_)
  rotate_left
  · exfalso; omega
  refine Z_aload_n 4 rfl rfl rfl ?_
  refine Z_aload_n 5 rfl rfl rfl ?_
  refine Z_get 6 rfl f_T_21 rfl rfl ?_
  refine Z_iload_n 7 rfl rfl rfl ?_
  refine Z_iload_n 8 rfl rfl rfl ?_
  refine Z_iload_n 9 rfl rfl rfl ?_
  refine Z_callVv (M' := M_T_write) 10 [0, 1, 2, 3] rfl l_T_49 C_T_write (c_T_write l t t.2.2.2 a b c (by omega)) ⟨by decide, (zEL.c (Or.inl rfl) (zEL.c (Or.inl rfl) (zEL.c (Or.inl rfl) (zEL.c (Or.inl rfl) zEL.n))))⟩ (Or.inl ⟨_, _, _, _, rfl, rfl⟩) rfl rfl rfl (Nat.le_of_ble_eq_true rfl) ⟨rfl, rfl, Nat.le_of_ble_eq_true rfl, Nat.le_of_ble_eq_true rfl⟩ ⟨Nat.zero_le _, Nat.zero_le _⟩ (fun out hq => ?_)
  obtain rfl := hq
  refine Z_mem (show _ = eT (tW t t.2.2.2 a b c) from rfl) ?_
  refine Z_aload_n 11 rfl rfl rfl ?_
  refine Z_dup 12 rfl rfl ?_
  refine Z_get 13 rfl f_T_21 rfl rfl ?_
  refine Z_iconst 14 rfl ?_
  refine Z_iadd 15 rfl ?_
  refine Z_put 16 rfl f_T_21 rfl (Nat.le_of_ble_eq_true rfl) (fun _ => ⟨rfl, rfl⟩) (fs' := []) (mem' := eT ((tW t t.2.2.2 a b c).1, (tW t t.2.2.2 a b c).2.1, (tW t t.2.2.2 a b c).2.2.1, t.2.2.2 + 1)) rfl ?_
  refine Z_vret 17 rfl rfl ⟨Nat.le_refl _, Nat.le_refl _⟩ ?_
  exact ⟨rfl, rfl⟩
def eTT (t u : TT) : List zE := [zO 5 [.ref 1, .ref 2, .ref 3, .int (iI t.2.2.2)], aI 12 t.1, aI 12 t.2.1, aI 12 t.2.2.1, zO 5 [.ref 5, .ref 6, .ref 7, .int (iI u.2.2.2)], aI 12 u.1, aI 12 u.2.1, aI 12 u.2.2.1]
/-- the first twelve of u, else t's -/
def tCp (t u : TT) : TT := (cpI u.1 t.1 12, cpI u.2.1 t.2.1 12, cpI u.2.2.1 t.2.2.1 12, u.2.2.2)
theorem c_T_become (l : Launch) (t u : TT) : Con l M_T_become R_T_become 0 0 false [.ref 0, .ref 4] (eTT t u) (zAv (fun m => m = eTT (tCp t u) u)) := by
  refine Con.of_Z (by decide) D_T_become (Nat.le_of_ble_eq_true rfl) ?_
  refine Z_aload_n 0 rfl rfl rfl ?_
  refine Z_get 1 rfl f_T_9 rfl rfl ?_
  refine Z_aload_n 2 rfl rfl rfl ?_
  refine Z_get 3 rfl f_T_9 rfl rfl ?_
  refine Z_callSNv (M' := M_C_copy) 4 [5, 1] rfl l_T_57 C_C_copy (c_C_copy l 12 (by omega) u.1 t.1) ⟨by decide, (zEL.c (Or.inr ⟨_, _, rfl, rfl, by decide⟩) (zEL.c (Or.inl rfl) zEL.n))⟩ rfl rfl rfl (Nat.le_of_ble_eq_true rfl) ⟨rfl, rfl, Nat.le_of_ble_eq_true rfl, Nat.le_of_ble_eq_true rfl⟩ ⟨Nat.zero_le _, Nat.zero_le _⟩ (fun out hq => ?_)
  obtain rfl := hq
  refine Z_mem (show _ = eTT (cpI u.1 t.1 12, t.2.1, t.2.2.1, t.2.2.2) u from rfl) ?_
  refine Z_aload_n 5 rfl rfl rfl ?_
  refine Z_get 6 rfl f_T_15 rfl rfl ?_
  refine Z_aload_n 7 rfl rfl rfl ?_
  refine Z_get 8 rfl f_T_15 rfl rfl ?_
  refine Z_callSNv (M' := M_C_copy) 9 [6, 2] rfl l_T_57 C_C_copy (c_C_copy l 12 (by omega) u.2.1 t.2.1) ⟨by decide, (zEL.c (Or.inr ⟨_, _, rfl, rfl, by decide⟩) (zEL.c (Or.inl rfl) zEL.n))⟩ rfl rfl rfl (Nat.le_of_ble_eq_true rfl) ⟨rfl, rfl, Nat.le_of_ble_eq_true rfl, Nat.le_of_ble_eq_true rfl⟩ ⟨Nat.zero_le _, Nat.zero_le _⟩ (fun out hq => ?_)
  obtain rfl := hq
  refine Z_mem (show _ = eTT (cpI u.1 t.1 12, cpI u.2.1 t.2.1 12, t.2.2.1, t.2.2.2) u from rfl) ?_
  refine Z_aload_n 10 rfl rfl rfl ?_
  refine Z_get 11 rfl f_T_18 rfl rfl ?_
  refine Z_aload_n 12 rfl rfl rfl ?_
  refine Z_get 13 rfl f_T_18 rfl rfl ?_
  refine Z_callSNv (M' := M_C_copy) 14 [7, 3] rfl l_T_57 C_C_copy (c_C_copy l 12 (by omega) u.2.2.1 t.2.2.1) ⟨by decide, (zEL.c (Or.inr ⟨_, _, rfl, rfl, by decide⟩) (zEL.c (Or.inl rfl) zEL.n))⟩ rfl rfl rfl (Nat.le_of_ble_eq_true rfl) ⟨rfl, rfl, Nat.le_of_ble_eq_true rfl, Nat.le_of_ble_eq_true rfl⟩ ⟨Nat.zero_le _, Nat.zero_le _⟩ (fun out hq => ?_)
  obtain rfl := hq
  refine Z_mem (show _ = eTT (cpI u.1 t.1 12, cpI u.2.1 t.2.1 12, cpI u.2.2.1 t.2.2.1 12, t.2.2.2) u from rfl) ?_
  refine Z_aload_n 15 rfl rfl rfl ?_
  refine Z_aload_n 16 rfl rfl rfl ?_
  refine Z_get 17 rfl f_T_21 rfl rfl ?_
  refine Z_put 18 rfl f_T_21 rfl (Nat.le_of_ble_eq_true rfl) (fun _ => ⟨rfl, rfl⟩) (fs' := []) (mem' := eTT (tCp t u) u) rfl ?_
  refine Z_vret 19 rfl rfl ⟨Nat.le_refl _, Nat.le_refl _⟩ ?_
  exact ⟨rfl, rfl⟩
/-- START for STOP -/
def tk (k : Int) : Int := if k = 2 then 3 else if k = 3 then 2 else k
theorem c_T_turnedKind (l : Launch) (k : Int) (hk : inI k) : Con l M_T_turnedKind R_T_turnedKind 0 0 false [.int (iI k)] [] (zAi (tk k) (fun m => m = [])) := by
  refine Con.of_Z (by decide) D_T_turnedKind (Nat.le_of_ble_eq_true rfl) ?_
  refine Z_iload_n 0 rfl rfl rfl ?_
  refine Z_iconst 1 rfl ?_
  refine Z_icmp_ne 2 rfl (tgt := 9) rfl (by omega) (by omega) (fun c2 => ?_) (fun c2 => ?_)
  · refine Z_iload_n 5 rfl rfl rfl ?_
    refine Z_iconst 6 rfl ?_
    refine Z_icmp_ne 7 rfl (tgt := 18) rfl (by omega) (by omega) (fun c11 => ?_) (fun c11 => ?_)
    · refine Z_iload_n 10 rfl rfl rfl ?_
      refine Z_iret 11 rfl rfl ⟨Nat.le_refl _, Nat.le_refl _⟩ ?_
      exact ⟨by unfold tk; first | rw [if_pos (by omega)] | rw [if_neg (by omega), if_pos (by omega)] | rw [if_neg (by omega), if_neg (by omega)], rfl⟩
    · refine Z_iconst 8 rfl ?_
      refine Z_goto 9 rfl (tgt := 19) rfl ?_
      refine Z_iret 11 rfl rfl ⟨Nat.le_refl _, Nat.le_refl _⟩ ?_
      exact ⟨by unfold tk; first | rw [if_pos (by omega)] | rw [if_neg (by omega), if_pos (by omega)] | rw [if_neg (by omega), if_neg (by omega)], rfl⟩
  · refine Z_iconst 3 rfl ?_
    refine Z_goto 4 rfl (tgt := 19) rfl ?_
    refine Z_iret 11 rfl rfl ⟨Nat.le_refl _, Nat.le_refl _⟩ ?_
    exact ⟨by unfold tk; first | rw [if_pos (by omega)] | rw [if_neg (by omega), if_pos (by omega)] | rw [if_neg (by omega), if_neg (by omega)], rfl⟩
/-- the pieces ahead of a and behind b turned -/
def tnF (n : Int) (g : Int → Int) (F : Int → Int) (a b : Int) : Int → Int := fun i => if (0 ≤ i ∧ i < a) ∨ (b < i ∧ i < n) then g (F (n - 1 - i)) else F i
def tnT (t : TT) (a b : Int) : TT := (tnF t.2.2.2 tk t.1 a b, tnF t.2.2.2 (fun x => x) t.2.1 a b, tnF t.2.2.2 (fun x => -x) t.2.2.1 a b, t.2.2.2)
theorem tnF_in {n : Int} {g F : Int → Int} {a b i : Int} (h : a ≤ i ∧ i ≤ b) : tnF n g F a b i = F i := by
  unfold tnF
  rw [if_neg (by omega)]
theorem tnF_s {n : Int} {g F : Int → Int} {a b : Int} (h0 : 0 ≤ a) (h1 : a ≤ b) (h2 : b = n - 1 - a) : uI (uI (tnF n g F a b) a (g (F b))) b (g (F a)) = tnF n g F (a + 1) (b - 1) := by
  funext i
  unfold uI tnF
  by_cases hb : i = b
  · subst hb
    rw [if_pos rfl, if_pos (by omega), show n - 1 - i = a by omega]
  · rw [if_neg hb]
    by_cases ha : i = a
    · subst ha
      rw [if_pos rfl, if_pos (by omega), show n - 1 - i = b by omega]
    · rw [if_neg ha]
      show (if (0 ≤ i ∧ i < a) ∨ (b < i ∧ i < n) then g (F (n - 1 - i)) else F i) = _
      by_cases hc : (0 ≤ i ∧ i < a) ∨ (b < i ∧ i < n)
      · rw [if_pos hc, if_pos (by omega)]
      · rw [if_neg hc, if_neg (by omega)]
theorem tnF_0 {n : Int} {g F : Int → Int} : tnF n g F 0 (n - 1) = F := by
  funext i
  unfold tnF
  rw [if_neg (by omega)]
theorem tnF_all {n : Int} {g F : Int → Int} {a b : Int} (h0 : 0 ≤ a) (h2 : b = n - 1 - a) (h1 : b < a) (h4 : a ≤ n) : tnF n g F a b = tnF n g F n (-1) := by
  funext i
  unfold tnF
  by_cases hc : (0 ≤ i ∧ i < a) ∨ (b < i ∧ i < n)
  · rw [if_pos hc, if_pos (by omega)]
  · rw [if_neg hc, if_neg (by omega)]
theorem lp_T_turn (l : Launch) (t : TT) (h : TB t) : ∀ (d : Nat) (a b : Int), 0 ≤ a → b = t.2.2.2 - 1 - a → a ≤ b + 2 → b - a + 2 < d → Z (l, M_T_turn, R_T_turn, (0, 0), false, zAv (fun m => m = eT (tnT t t.2.2.2 (-1)))) 0 0 (eT (tnT t a b)) 9 [(0, .ref 0), (1, .int (iI a)), (2, .int (iI b))] [] := by
  have h1 := h.1
  intro d
  induction d with
  | zero => intro a b h2 h3 h4 h5; omega
  | succ d ih =>
    intro a b h2 h3 h4 h5
    refine Z_iload_n 7 rfl rfl rfl ?_
    refine Z_iload_n 8 rfl rfl rfl ?_
    refine Z_icmp_gt 9 rfl (tgt := 81) rfl (by omega) (by omega) (fun c11 => ?_) (fun c11 => ?_)
    · refine Z_vret 47 rfl rfl ⟨Nat.le_refl _, Nat.le_refl _⟩ ?_
      exact ⟨rfl, congrArg eT (by unfold tnT; rw [tnF_all h2 h3 (by omega) (by omega), tnF_all h2 h3 (by omega) (by omega), tnF_all h2 h3 (by omega) (by omega)])⟩
    · refine Z_aload_n 10 rfl rfl rfl ?_
      refine Z_iload_n 11 rfl rfl rfl ?_
      refine Z_callVip (M' := M_T_kindOf) 12 [0, 1, 2, 3] rfl l_T_25 C_T_kindOf (c_T_kindOf l (tnT t a b) a (by omega)) ⟨by decide, (zEL.c (Or.inl rfl) (zEL.c (Or.inl rfl) (zEL.c (Or.inl rfl) (zEL.c (Or.inl rfl) zEL.n))))⟩ (Or.inl ⟨_, _, _, _, rfl, rfl⟩) rfl rfl rfl (Nat.le_of_ble_eq_true rfl) ⟨rfl, rfl, Nat.le_of_ble_eq_true rfl, Nat.le_of_ble_eq_true rfl⟩ ⟨Nat.zero_le _, Nat.zero_le _⟩ ?_
      rw [show (tnT t a b).1 a = t.1 a from tnF_in (F := t.1) (g := tk) (by omega)]
      refine Z_istore_n 13 rfl rfl (Nat.le_of_ble_eq_true rfl) (lv' := [(3, .int _), (0, .ref _), (1, .int _), (2, .int _)]) rfl ?_
      refine Z_aload_n 14 rfl rfl rfl ?_
      refine Z_iload_n 15 rfl rfl rfl ?_
      refine Z_callVip (M' := M_T_longOf) 16 [0, 1, 2, 3] rfl l_T_29 C_T_longOf (c_T_longOf l (tnT t a b) a (by omega)) ⟨by decide, (zEL.c (Or.inl rfl) (zEL.c (Or.inl rfl) (zEL.c (Or.inl rfl) (zEL.c (Or.inl rfl) zEL.n))))⟩ (Or.inl ⟨_, _, _, _, rfl, rfl⟩) rfl rfl rfl (Nat.le_of_ble_eq_true rfl) ⟨rfl, rfl, Nat.le_of_ble_eq_true rfl, Nat.le_of_ble_eq_true rfl⟩ ⟨Nat.zero_le _, Nat.zero_le _⟩ ?_
      rw [show (tnT t a b).2.1 a = t.2.1 a from tnF_in (F := t.2.1) (g := fun x => x) (by omega)]
      refine Z_istore 17 rfl (Nat.le_of_ble_eq_true rfl) (lv' := [(4, .int _), (3, .int _), (0, .ref _), (1, .int _), (2, .int _)]) rfl ?_
      refine Z_aload_n 18 rfl rfl rfl ?_
      refine Z_iload_n 19 rfl rfl rfl ?_
      refine Z_callVip (M' := M_T_riseOf) 20 [0, 1, 2, 3] rfl l_T_32 C_T_riseOf (c_T_riseOf l (tnT t a b) a (by omega)) ⟨by decide, (zEL.c (Or.inl rfl) (zEL.c (Or.inl rfl) (zEL.c (Or.inl rfl) (zEL.c (Or.inl rfl) zEL.n))))⟩ (Or.inl ⟨_, _, _, _, rfl, rfl⟩) rfl rfl rfl (Nat.le_of_ble_eq_true rfl) ⟨rfl, rfl, Nat.le_of_ble_eq_true rfl, Nat.le_of_ble_eq_true rfl⟩ ⟨Nat.zero_le _, Nat.zero_le _⟩ ?_
      rw [show (tnT t a b).2.2.1 a = t.2.2.1 a from tnF_in (F := t.2.2.1) (g := fun x => -x) (by omega)]
      refine Z_istore 21 rfl (Nat.le_of_ble_eq_true rfl) (lv' := [(5, .int _), (4, .int _), (3, .int _), (0, .ref _), (1, .int _), (2, .int _)]) rfl ?_
      refine Z_aload_n 22 rfl rfl rfl ?_
      refine Z_iload_n 23 rfl rfl rfl ?_
      refine Z_aload_n 24 rfl rfl rfl ?_
      refine Z_iload_n 25 rfl rfl rfl ?_
      refine Z_callVip (M' := M_T_kindOf) 26 [0, 1, 2, 3] rfl l_T_25 C_T_kindOf (c_T_kindOf l (tnT t a b) b (by omega)) ⟨by decide, (zEL.c (Or.inl rfl) (zEL.c (Or.inl rfl) (zEL.c (Or.inl rfl) (zEL.c (Or.inl rfl) zEL.n))))⟩ (Or.inl ⟨_, _, _, _, rfl, rfl⟩) rfl rfl rfl (Nat.le_of_ble_eq_true rfl) ⟨rfl, rfl, Nat.le_of_ble_eq_true rfl, Nat.le_of_ble_eq_true rfl⟩ ⟨Nat.zero_le _, Nat.zero_le _⟩ ?_
      rw [show (tnT t a b).1 b = t.1 b from tnF_in (F := t.1) (g := tk) (by omega)]
      refine Z_callSip (M' := M_T_turnedKind) 27 [] rfl l_T_61 C_T_turnedKind (c_T_turnedKind l (t.1 b) (by have := h.2.1 b; omega)) ⟨List.nodup_nil, zEL.n⟩ rfl rfl rfl (Nat.le_of_ble_eq_true rfl) ⟨rfl, rfl, Nat.le_of_ble_eq_true rfl, Nat.le_of_ble_eq_true rfl⟩ ⟨Nat.zero_le _, Nat.zero_le _⟩ ?_
      refine Z_aload_n 28 rfl rfl rfl ?_
      refine Z_iload_n 29 rfl rfl rfl ?_
      refine Z_callVip (M' := M_T_longOf) 30 [0, 1, 2, 3] rfl l_T_29 C_T_longOf (c_T_longOf l (tnT t a b) b (by omega)) ⟨by decide, (zEL.c (Or.inl rfl) (zEL.c (Or.inl rfl) (zEL.c (Or.inl rfl) (zEL.c (Or.inl rfl) zEL.n))))⟩ (Or.inl ⟨_, _, _, _, rfl, rfl⟩) rfl rfl rfl (Nat.le_of_ble_eq_true rfl) ⟨rfl, rfl, Nat.le_of_ble_eq_true rfl, Nat.le_of_ble_eq_true rfl⟩ ⟨Nat.zero_le _, Nat.zero_le _⟩ ?_
      rw [show (tnT t a b).2.1 b = t.2.1 b from tnF_in (F := t.2.1) (g := fun x => x) (by omega)]
      refine Z_aload_n 31 rfl rfl rfl ?_
      refine Z_iload_n 32 rfl rfl rfl ?_
      refine Z_callVip (M' := M_T_riseOf) 33 [0, 1, 2, 3] rfl l_T_32 C_T_riseOf (c_T_riseOf l (tnT t a b) b (by omega)) ⟨by decide, (zEL.c (Or.inl rfl) (zEL.c (Or.inl rfl) (zEL.c (Or.inl rfl) (zEL.c (Or.inl rfl) zEL.n))))⟩ (Or.inl ⟨_, _, _, _, rfl, rfl⟩) rfl rfl rfl (Nat.le_of_ble_eq_true rfl) ⟨rfl, rfl, Nat.le_of_ble_eq_true rfl, Nat.le_of_ble_eq_true rfl⟩ ⟨Nat.zero_le _, Nat.zero_le _⟩ ?_
      rw [show (tnT t a b).2.2.1 b = t.2.2.1 b from tnF_in (F := t.2.2.1) (g := fun x => -x) (by omega)]
      refine Z_ineg 34 rfl ?_
      refine Z_callVv (M' := M_T_write) 35 [0, 1, 2, 3] rfl l_T_49 C_T_write (c_T_write l (tnT t a b) a (tk (t.1 b)) (t.2.1 b) (-t.2.2.1 b) (by omega)) ⟨by decide, (zEL.c (Or.inl rfl) (zEL.c (Or.inl rfl) (zEL.c (Or.inl rfl) (zEL.c (Or.inl rfl) zEL.n))))⟩ (Or.inl ⟨_, _, _, _, rfl, rfl⟩) rfl rfl rfl (Nat.le_of_ble_eq_true rfl) ⟨rfl, rfl, Nat.le_of_ble_eq_true rfl, Nat.le_of_ble_eq_true rfl⟩ ⟨Nat.zero_le _, Nat.zero_le _⟩ (fun out hq => ?_)
      obtain rfl := hq
      refine Z_mem (show _ = eT (tW (tnT t a b) a (tk (t.1 b)) (t.2.1 b) (-t.2.2.1 b)) from rfl) ?_
      refine Z_aload_n 36 rfl rfl rfl ?_
      refine Z_iload_n 37 rfl rfl rfl ?_
      refine Z_iload_n 38 rfl rfl rfl ?_
      refine Z_callSip (M' := M_T_turnedKind) 39 [] rfl l_T_61 C_T_turnedKind (c_T_turnedKind l (t.1 a) (by have := h.2.1 a; omega)) ⟨List.nodup_nil, zEL.n⟩ rfl rfl rfl (Nat.le_of_ble_eq_true rfl) ⟨rfl, rfl, Nat.le_of_ble_eq_true rfl, Nat.le_of_ble_eq_true rfl⟩ ⟨Nat.zero_le _, Nat.zero_le _⟩ ?_
      refine Z_iload 40 rfl rfl ?_
      refine Z_iload 41 rfl rfl ?_
      refine Z_ineg 42 rfl ?_
      refine Z_callVv (M' := M_T_write) 43 [0, 1, 2, 3] rfl l_T_49 C_T_write (c_T_write l (tW (tnT t a b) a (tk (t.1 b)) (t.2.1 b) (-t.2.2.1 b)) b (tk (t.1 a)) (t.2.1 a) (-t.2.2.1 a) (by omega)) ⟨by decide, (zEL.c (Or.inl rfl) (zEL.c (Or.inl rfl) (zEL.c (Or.inl rfl) (zEL.c (Or.inl rfl) zEL.n))))⟩ (Or.inl ⟨_, _, _, _, rfl, rfl⟩) rfl rfl rfl (Nat.le_of_ble_eq_true rfl) ⟨rfl, rfl, Nat.le_of_ble_eq_true rfl, Nat.le_of_ble_eq_true rfl⟩ ⟨Nat.zero_le _, Nat.zero_le _⟩ (fun out hq => ?_)
      obtain rfl := hq
      refine Z_mem (show _ = eT (tnT t (a + 1) (b - 1)) from congrArg eT (by unfold tnT; rw [← tnF_s h2 (by omega) h3, ← tnF_s h2 (by omega) h3, ← tnF_s h2 (by omega) h3]; rfl)) ?_
      refine Z_iinc 44 rfl rfl (Nat.le_of_ble_eq_true rfl) (lv' := [(1, .int _), (5, .int _), (4, .int _), (3, .int _), (0, .ref _), (2, .int _)]) rfl ?_
      refine Z_iinc 45 rfl rfl (Nat.le_of_ble_eq_true rfl) (lv' := [(2, .int _), (1, .int _), (5, .int _), (4, .int _), (3, .int _), (0, .ref _)]) rfl ?_
      refine Z_goto 46 rfl (tgt := 9) rfl ?_
      refine Z_pick [0, 1, 2] (lv' := [(0, .ref _), (1, .int _), (2, .int _)]) rfl ?_
      exact ih (a + 1) (b + -1) (by omega) (by omega) (by omega) (by omega)
theorem c_T_turn (l : Launch) (t : TT) (h : TB t) : Con l M_T_turn R_T_turn 0 0 false [.ref 0] (eT t) (zAv (fun m => m = eT (tnT t t.2.2.2 (-1)))) := by
  have h1 := h.1
  have e : tnT t 0 (t.2.2.2 - 1) = t := by unfold tnT; rw [tnF_0, tnF_0, tnF_0]
  refine Con.of_Z (by decide) D_T_turn (Nat.le_of_ble_eq_true rfl) ?_
  refine Z_iconst 0 rfl ?_
  refine Z_istore_n 1 rfl rfl (Nat.le_of_ble_eq_true rfl) (lv' := [(1, .int _), (0, .ref _)]) rfl ?_
  refine Z_aload_n 2 rfl rfl rfl ?_
  refine Z_get 3 rfl f_T_21 rfl rfl ?_
  refine Z_iconst 4 rfl ?_
  refine Z_isub 5 rfl ?_
  refine Z_istore_n 6 rfl rfl (Nat.le_of_ble_eq_true rfl) (lv' := [(2, .int _), (1, .int _), (0, .ref _)]) rfl ?_
  refine Z_pick [0, 1, 2] (lv' := [(0, .ref _), (1, .int _), (2, .int _)]) rfl ?_
  have h9 := lp_T_turn l t h 16 0 (t.2.2.2 - 1) (by omega) (by omega) (by omega) (by omega)
  rw [e] at h9
  exact h9
theorem c_T_areAlike (l : Launch) (t : TT) (h : TB t) (j k : Int) (hj : 0 ≤ j ∧ j < 12) (hk : 0 ≤ k ∧ k < 12) : Con l M_T_areAlike R_T_areAlike 0 0 false [.ref 0, .int (iI j), .int (iI k)] (eT t) (zAb (t.1 j = t.1 k ∧ t.2.1 j = t.2.1 k ∧ t.2.2.1 j = t.2.2.1 k) (fun m => m = eT t)) := by
  have a1 := h.2.1 j
  have a2 := h.2.1 k
  have b1 := h.2.2.1 j
  have b2 := h.2.2.1 k
  have d1 := h.2.2.2 j
  have d2 := h.2.2.2 k
  refine Con.of_Z (by decide) D_T_areAlike (Nat.le_of_ble_eq_true rfl) ?_
  refine Z_aload_n 0 rfl rfl rfl ?_
  refine Z_iload_n 1 rfl rfl rfl ?_
  refine Z_callVip (M' := M_T_kindOf) 2 [0, 1, 2, 3] rfl l_T_25 C_T_kindOf (c_T_kindOf l t j hj) ⟨by decide, (zEL.c (Or.inl rfl) (zEL.c (Or.inl rfl) (zEL.c (Or.inl rfl) (zEL.c (Or.inl rfl) zEL.n))))⟩ (Or.inl ⟨_, _, _, _, rfl, rfl⟩) rfl rfl rfl (Nat.le_of_ble_eq_true rfl) ⟨rfl, rfl, Nat.le_of_ble_eq_true rfl, Nat.le_of_ble_eq_true rfl⟩ ⟨Nat.zero_le _, Nat.zero_le _⟩ ?_
  refine Z_aload_n 3 rfl rfl rfl ?_
  refine Z_iload_n 4 rfl rfl rfl ?_
  refine Z_callVip (M' := M_T_kindOf) 5 [0, 1, 2, 3] rfl l_T_25 C_T_kindOf (c_T_kindOf l t k hk) ⟨by decide, (zEL.c (Or.inl rfl) (zEL.c (Or.inl rfl) (zEL.c (Or.inl rfl) (zEL.c (Or.inl rfl) zEL.n))))⟩ (Or.inl ⟨_, _, _, _, rfl, rfl⟩) rfl rfl rfl (Nat.le_of_ble_eq_true rfl) ⟨rfl, rfl, Nat.le_of_ble_eq_true rfl, Nat.le_of_ble_eq_true rfl⟩ ⟨Nat.zero_le _, Nat.zero_le _⟩ ?_
  refine Z_icmp_ne 6 rfl (tgt := 43) rfl (by omega) (by omega) (fun c10 => ?_) (fun c10 => ?_)
  · refine Z_iconst 23 rfl ?_
    refine Z_zret 24 rfl rfl rfl ⟨Nat.le_refl _, Nat.le_refl _⟩ ?_
    exact ⟨by first | rw [bI_t (by omega)] | rw [bI_f (by omega)], rfl⟩
  · refine Z_aload_n 7 rfl rfl rfl ?_
    refine Z_iload_n 8 rfl rfl rfl ?_
    refine Z_callVip (M' := M_T_longOf) 9 [0, 1, 2, 3] rfl l_T_29 C_T_longOf (c_T_longOf l t j hj) ⟨by decide, (zEL.c (Or.inl rfl) (zEL.c (Or.inl rfl) (zEL.c (Or.inl rfl) (zEL.c (Or.inl rfl) zEL.n))))⟩ (Or.inl ⟨_, _, _, _, rfl, rfl⟩) rfl rfl rfl (Nat.le_of_ble_eq_true rfl) ⟨rfl, rfl, Nat.le_of_ble_eq_true rfl, Nat.le_of_ble_eq_true rfl⟩ ⟨Nat.zero_le _, Nat.zero_le _⟩ ?_
    refine Z_aload_n 10 rfl rfl rfl ?_
    refine Z_iload_n 11 rfl rfl rfl ?_
    refine Z_callVip (M' := M_T_longOf) 12 [0, 1, 2, 3] rfl l_T_29 C_T_longOf (c_T_longOf l t k hk) ⟨by decide, (zEL.c (Or.inl rfl) (zEL.c (Or.inl rfl) (zEL.c (Or.inl rfl) (zEL.c (Or.inl rfl) zEL.n))))⟩ (Or.inl ⟨_, _, _, _, rfl, rfl⟩) rfl rfl rfl (Nat.le_of_ble_eq_true rfl) ⟨rfl, rfl, Nat.le_of_ble_eq_true rfl, Nat.le_of_ble_eq_true rfl⟩ ⟨Nat.zero_le _, Nat.zero_le _⟩ ?_
    refine Z_icmp_ne 13 rfl (tgt := 43) rfl (by omega) (by omega) (fun c23 => ?_) (fun c23 => ?_)
    · refine Z_iconst 23 rfl ?_
      refine Z_zret 24 rfl rfl rfl ⟨Nat.le_refl _, Nat.le_refl _⟩ ?_
      exact ⟨by first | rw [bI_t (by omega)] | rw [bI_f (by omega)], rfl⟩
    · refine Z_aload_n 14 rfl rfl rfl ?_
      refine Z_iload_n 15 rfl rfl rfl ?_
      refine Z_callVip (M' := M_T_riseOf) 16 [0, 1, 2, 3] rfl l_T_32 C_T_riseOf (c_T_riseOf l t j hj) ⟨by decide, (zEL.c (Or.inl rfl) (zEL.c (Or.inl rfl) (zEL.c (Or.inl rfl) (zEL.c (Or.inl rfl) zEL.n))))⟩ (Or.inl ⟨_, _, _, _, rfl, rfl⟩) rfl rfl rfl (Nat.le_of_ble_eq_true rfl) ⟨rfl, rfl, Nat.le_of_ble_eq_true rfl, Nat.le_of_ble_eq_true rfl⟩ ⟨Nat.zero_le _, Nat.zero_le _⟩ ?_
      refine Z_aload_n 17 rfl rfl rfl ?_
      refine Z_iload_n 18 rfl rfl rfl ?_
      refine Z_callVip (M' := M_T_riseOf) 19 [0, 1, 2, 3] rfl l_T_32 C_T_riseOf (c_T_riseOf l t k hk) ⟨by decide, (zEL.c (Or.inl rfl) (zEL.c (Or.inl rfl) (zEL.c (Or.inl rfl) (zEL.c (Or.inl rfl) zEL.n))))⟩ (Or.inl ⟨_, _, _, _, rfl, rfl⟩) rfl rfl rfl (Nat.le_of_ble_eq_true rfl) ⟨rfl, rfl, Nat.le_of_ble_eq_true rfl, Nat.le_of_ble_eq_true rfl⟩ ⟨Nat.zero_le _, Nat.zero_le _⟩ ?_
      refine Z_icmp_ne 20 rfl (tgt := 43) rfl (by omega) (by omega) (fun c36 => ?_) (fun c36 => ?_)
      · refine Z_iconst 23 rfl ?_
        refine Z_zret 24 rfl rfl rfl ⟨Nat.le_refl _, Nat.le_refl _⟩ ?_
        exact ⟨by first | rw [bI_t (by omega)] | rw [bI_f (by omega)], rfl⟩
      · refine Z_iconst 21 rfl ?_
        refine Z_goto 22 rfl (tgt := 44) rfl ?_
        refine Z_zret 24 rfl rfl rfl ⟨Nat.le_refl _, Nat.le_refl _⟩ ?_
        exact ⟨by first | rw [bI_t (by omega)] | rw [bI_f (by omega)], rfl⟩
/-- j is alike to k -/
def alk (t : TT) (j k : Int) : Prop := t.1 j = t.1 k ∧ t.2.1 j = t.2.1 k ∧ t.2.2.1 j = t.2.2.1 k
/-- none ahead of k is like it -/
def fst1 (t : TT) (k : Int) : Prop := ∀ j, 0 ≤ j → j < k → ¬ alk t j k
theorem lp_T_isFirst (l : Launch) (t : TT) (h : TB t) (k : Int) (hk : 0 ≤ k ∧ k < t.2.2.2) : ∀ (d : Nat) (j : Int), 0 ≤ j → j ≤ k → (∀ i, 0 ≤ i → i < j → ¬ alk t i k) → k - j < d → Z (l, M_T_isFirstOfItsLike, R_T_isFirstOfItsLike, (0, 0), false, zAb (fst1 t k) (fun m => m = eT t)) 0 0 (eT t) 2 [(0, .ref 0), (1, .int (iI k)), (2, .int (iI j))] [] := by
  have h1 := h.1
  intro d
  induction d with
  | zero => intro i h1 h2 h3; omega
  | succ d ih =>
    intro j h2 h3 h4 h5
    refine Z_iload_n 2 rfl rfl rfl ?_
    refine Z_iload_n 3 rfl rfl rfl ?_
    refine Z_icmp_ge 4 rfl (tgt := 32) rfl (by omega) (by omega) (fun c4 => ?_) (fun c4 => ?_)
    · refine Z_iconst 18 rfl ?_
      refine Z_zret 19 rfl rfl rfl ⟨Nat.le_refl _, Nat.le_refl _⟩ ?_
      exact ⟨by rw [bI_t (show fst1 t k from fun i hi1 hi2 => h4 i hi1 (by omega))], rfl⟩
    · refine Z_iload_n 5 rfl rfl rfl ?_
      refine Z_aload_n 6 rfl rfl rfl ?_
      refine Z_get 7 rfl f_T_21 rfl rfl ?_
      refine Z_icmp_ge 8 rfl (tgt := 32) rfl (by omega) (by omega) (fun c12 => ?_) (fun c12 => ?_)
      · exfalso; omega
      refine Z_aload_n 9 rfl rfl rfl ?_
      refine Z_iload_n 10 rfl rfl rfl ?_
      refine Z_iload_n 11 rfl rfl rfl ?_
      refine Z_callVbp (M' := M_T_areAlike) 12 [0, 1, 2, 3] rfl l_T_64 C_T_areAlike (c_T_areAlike l t h j k (by omega) (by omega)) ⟨by decide, (zEL.c (Or.inl rfl) (zEL.c (Or.inl rfl) (zEL.c (Or.inl rfl) (zEL.c (Or.inl rfl) zEL.n))))⟩ (Or.inl ⟨_, _, _, _, rfl, rfl⟩) rfl rfl rfl (Nat.le_of_ble_eq_true rfl) ⟨rfl, rfl, Nat.le_of_ble_eq_true rfl, Nat.le_of_ble_eq_true rfl⟩ ⟨Nat.zero_le _, Nat.zero_le _⟩ ?_
      refine Z_ifb_eq 13 rfl (tgt := 26) rfl (fun c21 => ?_) (fun c21 => ?_)
      · refine Z_iinc 16 rfl rfl (Nat.le_of_ble_eq_true rfl) (lv' := [(2, .int _), (0, .ref _), (1, .int _)]) rfl ?_
        refine Z_goto 17 rfl (tgt := 2) rfl ?_
        refine Z_pick [0, 1, 2] (lv' := [(0, .ref _), (1, .int _), (2, .int _)]) rfl ?_
        exact ih (j + 1) (by omega) (by omega) (fun i hi1 hi2 => by
          by_cases e : i = j
          · rw [e]; exact c21
          · exact h4 i hi1 (by omega)) (by omega)
      · refine Z_iconst 14 rfl ?_
        refine Z_zret 15 rfl rfl rfl ⟨Nat.le_refl _, Nat.le_refl _⟩ ?_
        exact ⟨by rw [bI_f (show ¬ fst1 t k from fun z => z j h2 (by omega) c21)], rfl⟩
theorem c_T_isFirst (l : Launch) (t : TT) (h : TB t) (k : Int) (hk : 0 ≤ k ∧ k < t.2.2.2) : Con l M_T_isFirstOfItsLike R_T_isFirstOfItsLike 0 0 false [.ref 0, .int (iI k)] (eT t) (zAb (fst1 t k) (fun m => m = eT t)) := by
  have h1 := h.1
  refine Con.of_Z (by decide) D_T_isFirstOfItsLike (Nat.le_of_ble_eq_true rfl) ?_
  refine Z_iconst 0 rfl ?_
  refine Z_istore_n 1 rfl rfl (Nat.le_of_ble_eq_true rfl) (lv' := [(2, .int _), (0, .ref _), (1, .int _)]) rfl ?_
  refine Z_pick [0, 1, 2] (lv' := [(0, .ref _), (1, .int _), (2, .int _)]) rfl ?_
  exact lp_T_isFirst l t h k hk 13 0 (by omega) (by omega) (fun i h1 h2 => by omega) (by omega)
/-- without sign -/
def ab (x : Int) : Int := if 0 ≤ x then x else -x
def stp (t : TT) (j k : Int) : Prop := ab (t.2.2.1 k) * t.2.1 j < ab (t.2.2.1 j) * t.2.1 k
theorem ab_bd {x A : Int} (h : -A ≤ x ∧ x ≤ A) : 0 ≤ ab x ∧ ab x ≤ A := by unfold ab; split <;> omega
theorem mul_bd {x y A B : Int} (hx : 0 ≤ x ∧ x ≤ A) (hy : 0 ≤ y ∧ y ≤ B) : 0 ≤ x * y ∧ x * y ≤ A * B := ⟨Int.mul_nonneg hx.1 hy.1, Int.mul_le_mul hx.2 hy.2 hy.1 (by omega)⟩
theorem c_T_isSteeper (l : Launch) (t : TT) (h : TB t) (j k : Int) (hj : 0 ≤ j ∧ j < 12) (hk : 0 ≤ k ∧ k < 12) : Con l M_T_isSteeper R_T_isSteeper 0 0 false [.ref 0, .int (iI j), .int (iI k)] (eT t) (zAb (stp t j k) (fun m => m = eT t)) := by
  have d1 := h.2.2.2 j
  have d2 := h.2.2.2 k
  have m1 := mul_bd (ab_bd d1) (h.2.2.1 k)
  have m2 := mul_bd (ab_bd d2) (h.2.2.1 j)
  refine Con.of_Z (by decide) D_T_isSteeper (Nat.le_of_ble_eq_true rfl) ?_
  refine Z_aload_n 0 rfl rfl rfl ?_
  refine Z_iload_n 1 rfl rfl rfl ?_
  refine Z_callVip (M' := M_T_riseOf) 2 [0, 1, 2, 3] rfl l_T_32 C_T_riseOf (c_T_riseOf l t j hj) ⟨by decide, (zEL.c (Or.inl rfl) (zEL.c (Or.inl rfl) (zEL.c (Or.inl rfl) (zEL.c (Or.inl rfl) zEL.n))))⟩ (Or.inl ⟨_, _, _, _, rfl, rfl⟩) rfl rfl rfl (Nat.le_of_ble_eq_true rfl) ⟨rfl, rfl, Nat.le_of_ble_eq_true rfl, Nat.le_of_ble_eq_true rfl⟩ ⟨Nat.zero_le _, Nat.zero_le _⟩ ?_
  refine Z_absI 3 rfl l_T_68 b_st_absI b_ini_Math b_cd_absI (by omega) (Nat.le_of_ble_eq_true rfl) ⟨Nat.le_of_ble_eq_true rfl, Nat.zero_le _, Nat.zero_le _⟩ ?_
  refine Z_ci (show _ = ab (t.2.2.1 j) from rfl) ?_
  refine Z_aload_n 4 rfl rfl rfl ?_
  refine Z_iload_n 5 rfl rfl rfl ?_
  refine Z_callVip (M' := M_T_longOf) 6 [0, 1, 2, 3] rfl l_T_29 C_T_longOf (c_T_longOf l t k hk) ⟨by decide, (zEL.c (Or.inl rfl) (zEL.c (Or.inl rfl) (zEL.c (Or.inl rfl) (zEL.c (Or.inl rfl) zEL.n))))⟩ (Or.inl ⟨_, _, _, _, rfl, rfl⟩) rfl rfl rfl (Nat.le_of_ble_eq_true rfl) ⟨rfl, rfl, Nat.le_of_ble_eq_true rfl, Nat.le_of_ble_eq_true rfl⟩ ⟨Nat.zero_le _, Nat.zero_le _⟩ ?_
  refine Z_imul 7 rfl ?_
  refine Z_aload_n 8 rfl rfl rfl ?_
  refine Z_iload_n 9 rfl rfl rfl ?_
  refine Z_callVip (M' := M_T_riseOf) 10 [0, 1, 2, 3] rfl l_T_32 C_T_riseOf (c_T_riseOf l t k hk) ⟨by decide, (zEL.c (Or.inl rfl) (zEL.c (Or.inl rfl) (zEL.c (Or.inl rfl) (zEL.c (Or.inl rfl) zEL.n))))⟩ (Or.inl ⟨_, _, _, _, rfl, rfl⟩) rfl rfl rfl (Nat.le_of_ble_eq_true rfl) ⟨rfl, rfl, Nat.le_of_ble_eq_true rfl, Nat.le_of_ble_eq_true rfl⟩ ⟨Nat.zero_le _, Nat.zero_le _⟩ ?_
  refine Z_absI 11 rfl l_T_68 b_st_absI b_ini_Math b_cd_absI (by omega) (Nat.le_of_ble_eq_true rfl) ⟨Nat.le_of_ble_eq_true rfl, Nat.zero_le _, Nat.zero_le _⟩ ?_
  refine Z_ci (show _ = ab (t.2.2.1 k) from rfl) ?_
  refine Z_aload_n 12 rfl rfl rfl ?_
  refine Z_iload_n 13 rfl rfl rfl ?_
  refine Z_callVip (M' := M_T_longOf) 14 [0, 1, 2, 3] rfl l_T_29 C_T_longOf (c_T_longOf l t j hj) ⟨by decide, (zEL.c (Or.inl rfl) (zEL.c (Or.inl rfl) (zEL.c (Or.inl rfl) (zEL.c (Or.inl rfl) zEL.n))))⟩ (Or.inl ⟨_, _, _, _, rfl, rfl⟩) rfl rfl rfl (Nat.le_of_ble_eq_true rfl) ⟨rfl, rfl, Nat.le_of_ble_eq_true rfl, Nat.le_of_ble_eq_true rfl⟩ ⟨Nat.zero_le _, Nat.zero_le _⟩ ?_
  refine Z_imul 15 rfl ?_
  refine Z_icmp_le 16 rfl (tgt := 35) rfl (by omega) (by omega) (fun c28 => ?_) (fun c28 => ?_)
  · refine Z_iconst 19 rfl ?_
    refine Z_zret 20 rfl rfl rfl ⟨Nat.le_refl _, Nat.le_refl _⟩ ?_
    exact ⟨by first | rw [bI_t (show stp t j k by unfold stp; omega)] | rw [bI_f (show ¬ stp t j k by unfold stp; omega)], rfl⟩
  · refine Z_iconst 17 rfl ?_
    refine Z_goto 18 rfl (tgt := 36) rfl ?_
    refine Z_zret 20 rfl rfl rfl ⟨Nat.le_refl _, Nat.le_refl _⟩ ?_
    exact ⟨by first | rw [bI_t (show stp t j k by unfold stp; omega)] | rw [bI_f (show ¬ stp t j k by unfold stp; omega)], rfl⟩
end
section
/-! floorDiv, the greatest common divisor, lowest terms, which of two fractions is more; Ratio, Range -/
/-- as Met.ofW, for the JDK's own names too -/
theorem met_ofWF {l : Launch} {y : MethodName} {ws ws' : List Cond} {rm : Room} {Pc : Array Value → State → Prop} {Qc : Array Value → State → Outcome → State → Prop} {mc ms : Nat} {free : Addr → Prop} {cc : ByteArray} {maxL : Nat} {ret : Option FieldType} (hy : plainFor y = true) (hw : ws = Cond.code y cc maxL ret :: ws') (body : ∀ p e s m args below meth c s₁, BodyLoose p l y (headSpec ws rm) cc maxL ret e s m args below meth c s₁ → c.maxLocals = maxL → Pc args s → W p l e (headSpec ws rm).room s m args below meth c s.heap [] 0 0 (MQ below Qc args s mc ms free) (entryFrame m args maxL)) : Met l y ws rm Pc Qc mc ms free := by
  refine MetFree.of_bodySF (code := cc) (maxLocals := maxL) (ret := ret) hy ?_ ?_
  · intro args s m h hn
    obtain ⟨meth, c, h1, h2, h3, h4, h5, h6, -, -⟩ := Cond.code_spec hn (atoms_spec (ws := ws) h _ (by rw [hw]; exact List.mem_cons_self))
    exact ⟨meth, c, h1, h2, h3, h4, h5, h6⟩
  · intro p e s m args below meth c s₁ B hml hP _
    have hh0 : s₁.heap = s.heap := by rw [B.state]; rfl
    obtain ⟨t, a1, o, b1, b2, b3⟩ := body p e s m args below meth c s₁ B hml hP s₁ hh0 (Stand.of_body B)
    exact ⟨t, o, a1, b1, b2, ⟨b3.1, b3.2⟩⟩
theorem Con.of_ZF {l : Launch} {M : zM} {rm : Room} {mc ms : Nat} {al : Bool} {av : List Value} {mem : List zE} {Q : Option Value → List zE → Prop} (hy : plainFor M.1 = true) (hd : zDec M) (hlen : (lg_sl av).length ≤ M.2.2.1) (h : Z (l, M, rm, (mc, ms), al, Q) 0 0 mem 0 (lv_args 0 av) []) : Con l M rm mc ms al av mem Q := by
  intro D cI cL ad0 sz
  refine met_ofWF (cc := M.2.1) (maxL := M.2.2.1) (ret := M.2.2.2.1) hy rfl ?_
  intro p e s m args below meth c s₁ B hml hv
  obtain ⟨rfl, hsz, hWd, hK, hNW⟩ := hv
  have hts := atoms_spec (ws := zws M) B.pre
  have hown : s.vm.findClass M.1.cls = some m.cls := findClass_of_methodNamed B.named
  have hin : meth.name = M.1.name := (name_of_methodNamed B.named B.method).1
  subst hsz
  have hl := lv_entry (av.map (zv ad0)) (n := M.2.2.1) (by rw [lg_sl_zv]; exact hlen)
  rw [lv_args_zv] at hl
  rw [lg_entry_eq]
  exact h D cI cL ad0 ad0 mem.length (zA mem ad0 s.heap.size) p e s m _ below meth c s.heap [] _ hd ⟨B.exec, B.bytes, hml, B.returns, B.notSynchronized, hown, hin, fun w hw => hts w (List.mem_cons_of_mem _ hw), hNW, hK⟩ hWd zAg.rf (Nat.le_refl _) (fun q hq => Or.inr hq) va_S.rf hl
def xr (x y : Int) : Int := (lI x ^^^ lI y).toInt
theorem xr_e (x y : Int) : lI x ^^^ lI y = lI (xr x y) := (lI_o _).symm
theorem msb_neg (x : Int64) : x.toBitVec.msb = true ↔ x.toInt < 0 := by
  rw [BitVec.msb_eq_toInt]
  exact decide_eq_true_iff
theorem xr_neg {x y : Int} (hx : inL x) (hy : inL y) : xr x y < 0 ↔ ((x < 0 ∧ 0 ≤ y) ∨ (0 ≤ x ∧ y < 0)) := by
  unfold xr
  rw [← msb_neg, Int64.toBitVec_xor, BitVec.msb_xor]
  have h1 := msb_neg (lI x)
  have h2 := msb_neg (lI y)
  rw [lI_t hx] at h1
  rw [lI_t hy] at h2
  cases hm1 : (lI x).toBitVec.msb <;> cases hm2 : (lI y).toBitVec.msb <;> simp only [hm1, hm2] at h1 h2 <;> simp at h1 h2 ⊢ <;> omega
theorem td_n {x y : Int} (h : 0 ≤ x) : x.tdiv y = x / y := Int.tdiv_eq_ediv_of_nonneg h
theorem td_z {x y : Int} (hy : 0 < y) (h : x.tdiv y * y = x) : x.tdiv y = x / y := by
  have := Int.mul_ediv_cancel (x.tdiv y) (show y ≠ 0 by omega)
  rw [h] at this
  exact this.symm
theorem td_m {x y : Int} (hy : 0 < y) (h0 : x < 0) (h : ¬ x.tdiv y * y = x) : x.tdiv y - 1 = x / y := by
  have h1 := Int.tmod_add_mul_tdiv x y
  have h2 : -y < x.tmod y ∧ x.tmod y ≤ 0 := by
    have a1 := Int.tmod_nonneg y (show 0 ≤ -x by omega)
    have a2 := Int.tmod_lt_of_pos (-x) hy
    rw [Int.neg_tmod] at a1 a2
    omega
  rw [Int.mul_comm] at h
  exact (((Int.ediv_emod_unique hy (r := x.tmod y + y) (q := x.tdiv y - 1)).mpr ⟨by rw [Int.mul_sub, Int.mul_one]; omega, by omega, by omega⟩).1).symm
theorem ed_bd {x y : Int} (hx : inL x) (hy : 0 < y) : inL (x / y) := by
  rcases Int.le_total 0 x with h | h
  · have h1 := Int.ediv_nonneg h (show 0 ≤ y by omega)
    have h2 := Int.ediv_le_self y h
    omega
  · have h1 : x / y ≤ 0 / y := Int.ediv_le_ediv hy h
    rw [Int.zero_ediv] at h1
    have h2 : x ≤ x / y := by
      refine Int.le_ediv_of_mul_le hy ?_
      have := Int.mul_le_mul_of_nonpos_left h (show 1 ≤ y by omega)
      omega
    omega
theorem c_floorDiv (l : Launch) (x y : Int) (hx : inL x) (hy : inL y) (h0 : 0 < y) : Con l M_J9_floorDiv R_J9_floorDiv 0 0 false [.long (lI x), .long (lI y)] [] (zAl (x / y) (fun m => m = [])) := by
  have b1 : inL (x.tdiv y) := by
    by_cases h : x.tdiv y * y = x
    · rw [td_z h0 h]; exact ed_bd hx h0
    · by_cases h2 : x < 0
      · have := td_m h0 h2 h
        have := ed_bd hx h0
        have := Int.ediv_le_ediv h0 (show x ≤ 0 by omega)
        rw [Int.zero_ediv] at this
        omega
      · rw [td_n (by omega)]; exact ed_bd hx h0
  have b2 : inL (x.tdiv y * y) := by
    have h1 := Int.tmod_add_mul_tdiv x y
    rw [Int.mul_comm] at h1
    rcases Int.le_total 0 x with h | h
    · have a1 := Int.tmod_nonneg y h
      have a2 := Int.tdiv_nonneg h (show 0 ≤ y by omega)
      have a3 := Int.mul_nonneg a2 (show 0 ≤ y by omega)
      omega
    · have a1 := Int.tmod_nonneg y (show 0 ≤ -x by omega)
      rw [Int.neg_tmod] at a1
      have a2 := Int.tdiv_nonneg (show 0 ≤ -x by omega) (show 0 ≤ y by omega)
      rw [Int.neg_tdiv] at a2
      have a3 := Int.mul_nonneg a2 (show 0 ≤ y by omega)
      rw [Int.neg_mul] at a3
      omega
  refine Con.of_ZF (by decide +kernel) D_J9_floorDiv (Nat.le_of_ble_eq_true rfl) ?_
  refine Z_lload_n 0 rfl rfl rfl ?_
  refine Z_lload_n 1 rfl rfl rfl ?_
  refine Z_ldiv 2 rfl (by omega) (by omega) (by omega) ?_
  refine Z_lstore 3 rfl (Nat.le_of_ble_eq_true rfl) (lv' := [(4, .long _), (0, .long _), (2, .long _)]) rfl ?_
  refine Z_lload_n 4 rfl rfl rfl ?_
  refine Z_lload_n 5 rfl rfl rfl ?_
  refine Z_lxor 6 rfl ?_
  refine Z_tl (xr_e x y) ?_
  refine Z_lconst 7 rfl ?_
  refine Z_lc_ge 8 rfl rfl (tgt := 27) rfl (lI_in _) (by omega) (fun c9 => ?_) (fun c9 => ?_)
  · refine Z_lload 20 rfl rfl ?_
    refine Z_lret 21 rfl rfl ⟨Nat.le_refl _, Nat.le_refl _⟩ ?_
    exact ⟨by first | rw [← td_z h0 c18] | rw [← td_n (by have := mt (xr_neg hx hy).mpr (by omega); omega)], rfl⟩
  · refine Z_lload 10 rfl rfl ?_
    refine Z_lload_n 11 rfl rfl rfl ?_
    refine Z_lmul 12 rfl ?_
    refine Z_lload_n 13 rfl rfl rfl ?_
    refine Z_lc_eq 14 rfl rfl (tgt := 27) rfl (by omega) (by omega) (fun c18 => ?_) (fun c18 => ?_)
    · refine Z_lload 20 rfl rfl ?_
      refine Z_lret 21 rfl rfl ⟨Nat.le_refl _, Nat.le_refl _⟩ ?_
      exact ⟨by first | rw [← td_z h0 c18] | rw [← td_n (by have := mt (xr_neg hx hy).mpr (by omega); omega)], rfl⟩
    · refine Z_lload 16 rfl rfl ?_
      refine Z_lconst 17 rfl ?_
      refine Z_lsub 18 rfl ?_
      refine Z_lret 19 rfl rfl ⟨Nat.le_refl _, Nat.le_refl _⟩ ?_
      exact ⟨by rw [← td_m h0 (by have := (xr_neg hx hy).mp (by omega); omega) c18]; rfl, rfl⟩
/-! the greatest common divisor -/
def pw : Nat → Int
  | 0 => 1
  | k + 1 => 2 * pw k
theorem pw_pos : ∀ k, 0 < pw k := by
  intro k
  induction k with
  | zero => show (0 : Int) < 1; omega
  | succ k ih => show 0 < 2 * pw k; omega
theorem gcd_st {x y : Int} (hx : 0 ≤ x) (hy : 0 ≤ y) : Int.gcd y (x.tmod y) = Int.gcd x y := by
  obtain ⟨a, rfl⟩ := Int.eq_ofNat_of_zero_le hx
  obtain ⟨b, rfl⟩ := Int.eq_ofNat_of_zero_le hy
  rw [← Int.ofNat_tmod]
  show Nat.gcd b (a % b) = Nat.gcd a b
  rw [Nat.gcd_comm b (a % b), ← Nat.gcd_rec, Nat.gcd_comm]
theorem tm_bd {x y : Int} (hx : 0 ≤ x) (hy : 0 < y) : 0 ≤ x.tmod y ∧ x.tmod y < y := ⟨Int.tmod_nonneg y hx, Int.tmod_lt_of_pos x hy⟩
theorem tm_two {x y : Int} (hx : 0 ≤ x) (hy : 0 < y) (h : y ≤ x) : 2 * x.tmod y < x := by
  have h1 := tm_bd hx hy
  rw [Int.tmod_eq_emod_of_nonneg hx] at h1 ⊢
  have h2 := Int.emod_add_mul_ediv x y
  have h3 : 1 ≤ x / y := Int.le_ediv_of_mul_le hy (by omega)
  have h4 := Int.mul_le_mul_of_nonneg_left h3 (show 0 ≤ y by omega)
  omega
/-- a step of Euclid's: the bound of the product falls, or the numbers change places once -/
def eu (x y : Int) (k i N : Nat) : Prop := x * y < pw k ∧ ((y ≤ x ∧ i + k ≤ N) ∨ i + k + 1 ≤ N)
theorem eu_st {x y : Int} {k i N : Nat} (hx : 0 ≤ x) (hy : 0 < y) (h : eu x y k i N) : ∃ k', eu y (x.tmod y) k' (i + 1) N := by
  have h1 := tm_bd hx hy
  rcases h.2 with ⟨h2, h3⟩ | h3
  · have h5 := tm_two hx hy h2
    have h6 := Int.mul_lt_mul_of_pos_left h5 hy
    cases k with
    | zero =>
      exfalso
      have h7 : x * y < 1 := h.1
      have h8 := Int.mul_pos (show 0 < x by omega) hy
      omega
    | succ k =>
      refine ⟨k, ?_, Or.inl ⟨by omega, by omega⟩⟩
      have h7 : x * y < 2 * pw k := h.1
      rw [Int.mul_comm x y] at h7
      rw [show y * (2 * x.tmod y) = 2 * (y * x.tmod y) by grind] at h6
      omega
  · by_cases h2 : y ≤ x
    · have h5 := tm_two hx hy h2
      have h6 := Int.mul_lt_mul_of_pos_left h5 hy
      refine ⟨k, ?_, Or.inl ⟨by omega, by omega⟩⟩
      have h7 := h.1
      rw [Int.mul_comm x y] at h7
      rw [show y * (2 * x.tmod y) = 2 * (y * x.tmod y) by grind] at h6
      have h8 := Int.mul_nonneg (show 0 ≤ y by omega) h1.1
      unfold eu at *
      omega
    · have e : x.tmod y = x := by rw [Int.tmod_eq_emod_of_nonneg hx]; exact Int.emod_eq_of_lt hx (by omega)
      rw [e]
      refine ⟨k, ?_, Or.inl ⟨by omega, by omega⟩⟩
      rw [Int.mul_comm]
      exact h.1
theorem eu_end {x y : Int} {k i N : Nat} (hx : 0 ≤ x) (hy : 0 ≤ y) (hi : N ≤ i) (h : eu x y k i N) : y = 0 := by
  rcases h.2 with ⟨h2, h3⟩ | h3
  · have e : k = 0 := by omega
    subst e
    have h7 : x * y < 1 := h.1
    by_cases h0 : y = 0
    · exact h0
    · exfalso
      have h8 := Int.mul_pos (show 0 < x by omega) (show 0 < y by omega)
      omega
  · omega
theorem eu_0 {x y : Int} (hx : 0 ≤ x ∧ x ≤ 9223372036854775807) (hy : 0 ≤ y ∧ y ≤ 9223372036854775807) : eu x y 126 0 200 := by
  refine ⟨?_, Or.inr (by omega)⟩
  have h := mul_bd hx hy
  have e : pw 126 = 85070591730234615865843651857942052864 := by decide +kernel
  rw [e]
  omega
theorem lp_C_commonDivisor (l : Launch) (g : Nat) : ∀ (d : Nat) (x y : Int) (i : Nat), (0 ≤ x ∧ x ≤ 9223372036854775807) → (0 ≤ y ∧ y ≤ 9223372036854775807) → i ≤ 200 → 200 - i < d → (∃ k, eu x y k i 200) → Int.gcd x y = g → Z (l, M_C_commonDivisor, R_C_commonDivisor, (0, 0), false, zAl (g : Int) (fun m => m = [])) 0 0 [] 15 [(4, .long (lI x)), (6, .long (lI y)), (8, .int (iI (i : Int)))] [] := by
  intro d
  induction d with
  | zero => intro x y i h1 h2 h3 h4; omega
  | succ d ih =>
    intro x y i h1 h2 h3 h4 ⟨k, h5⟩ h6
    refine Z_iload 8 rfl rfl ?_
    refine Z_sipush 9 rfl rfl ?_
    refine Z_icmp_ge 10 rfl (tgt := 51) rfl (by omega) (by omega) (fun c20 => ?_) (fun c20 => ?_)
    · refine Z_lload 25 rfl rfl ?_
      refine Z_lret 26 rfl rfl ⟨Nat.le_refl _, Nat.le_refl _⟩ ?_
      have e : y = 0 := by first | exact c26 | exact eu_end h1.1 h2.1 (by omega) h5
      rw [e, Int.gcd_zero_right] at h6
      exact ⟨by rw [← h6, Int.natAbs_of_nonneg h1.1], rfl⟩
    · refine Z_lload 11 rfl rfl ?_
      refine Z_lconst 12 rfl ?_
      refine Z_lc_eq 13 rfl rfl (tgt := 51) rfl (by omega) (by omega) (fun c26 => ?_) (fun c26 => ?_)
      · refine Z_lload 25 rfl rfl ?_
        refine Z_lret 26 rfl rfl ⟨Nat.le_refl _, Nat.le_refl _⟩ ?_
        have e : y = 0 := by first | exact c26 | exact eu_end h1.1 h2.1 (by omega) h5
        rw [e, Int.gcd_zero_right] at h6
        exact ⟨by rw [← h6, Int.natAbs_of_nonneg h1.1], rfl⟩
      · refine Z_lload 15 rfl rfl ?_
        refine Z_lload 16 rfl rfl ?_
        refine Z_lrem 17 rfl (by omega) (by omega) (by omega) ?_
        refine Z_lstore 18 rfl (Nat.le_of_ble_eq_true rfl) (lv' := [(9, .long _), (4, .long _), (6, .long _), (8, .int _)]) rfl ?_
        refine Z_lload 19 rfl rfl ?_
        refine Z_lstore 20 rfl (Nat.le_of_ble_eq_true rfl) (lv' := [(4, .long _), (9, .long _), (6, .long _), (8, .int _)]) rfl ?_
        refine Z_lload 21 rfl rfl ?_
        refine Z_lstore 22 rfl (Nat.le_of_ble_eq_true rfl) (lv' := [(6, .long _), (4, .long _), (9, .long _), (8, .int _)]) rfl ?_
        refine Z_iinc 23 rfl rfl (Nat.le_of_ble_eq_true rfl) (lv' := [(8, .int _), (6, .long _), (4, .long _), (9, .long _)]) rfl ?_
        refine Z_goto 24 rfl (tgt := 15) rfl ?_
        refine Z_pick [4, 6, 8] (lv' := [(4, .long _), (6, .long _), (8, .int _)]) rfl ?_
        have h7 := tm_bd h1.1 (show 0 < y by omega)
        exact ih y (x.tmod y) (i + 1) h2 (by omega) (by omega) (by omega) (eu_st h1.1 (by omega) h5) (by rw [gcd_st h1.1 h2.1]; exact h6)
theorem ab_gcd (a b : Int) : Int.gcd (ab a) (ab b) = Int.gcd a b := by
  have e : ∀ x, (ab x).natAbs = x.natAbs := by intro x; unfold ab; split <;> omega
  unfold Int.gcd
  rw [e, e]
theorem c_C_commonDivisor (l : Launch) (a b : Int) (ha : inL a ∧ a ≠ -9223372036854775808) (hb : inL b ∧ b ≠ -9223372036854775808) : Con l M_C_commonDivisor R_C_commonDivisor 0 0 false [.long (lI a), .long (lI b)] [] (zAl (Int.gcd a b : Nat) (fun m => m = [])) := by
  have h1 : 0 ≤ ab a ∧ ab a ≤ 9223372036854775807 := by unfold ab; split <;> omega
  have h2 : 0 ≤ ab b ∧ ab b ≤ 9223372036854775807 := by unfold ab; split <;> omega
  refine Con.of_Z (by decide) D_C_commonDivisor (Nat.le_of_ble_eq_true rfl) ?_
  refine Z_lload_n 0 rfl rfl rfl ?_
  refine Z_absL 1 rfl l_C_250 b_st_absL b_ini_Math b_cd_absL (by omega) (Nat.le_of_ble_eq_true rfl) ⟨Nat.le_of_ble_eq_true rfl, Nat.zero_le _, Nat.zero_le _⟩ ?_
  refine Z_cl (show _ = ab a from rfl) ?_
  refine Z_lstore 2 rfl (Nat.le_of_ble_eq_true rfl) (lv' := [(4, .long _), (0, .long _), (2, .long _)]) rfl ?_
  refine Z_lload_n 3 rfl rfl rfl ?_
  refine Z_absL 4 rfl l_C_250 b_st_absL b_ini_Math b_cd_absL (by omega) (Nat.le_of_ble_eq_true rfl) ⟨Nat.le_of_ble_eq_true rfl, Nat.zero_le _, Nat.zero_le _⟩ ?_
  refine Z_cl (show _ = ab b from rfl) ?_
  refine Z_lstore 5 rfl (Nat.le_of_ble_eq_true rfl) (lv' := [(6, .long _), (4, .long _), (0, .long _), (2, .long _)]) rfl ?_
  refine Z_iconst 6 rfl ?_
  refine Z_istore 7 rfl (Nat.le_of_ble_eq_true rfl) (lv' := [(8, .int _), (6, .long _), (4, .long _), (0, .long _), (2, .long _)]) rfl ?_
  refine Z_pick [4, 6, 8] (lv' := [(4, .long _), (6, .long _), (8, .int _)]) rfl ?_
  exact lp_C_commonDivisor l _ 201 (ab a) (ab b) 0 h1 h2 (by omega) (by omega) ⟨126, eu_0 h1 h2⟩ (ab_gcd a b)
/-- a fraction in lowest terms -/
def lo (a b p : Int) : Int := (if p = 0 then a else b).tdiv (Int.gcd a b : Nat)
theorem gcd_pos {a b : Int} (h : 0 < b) : 0 < ((Int.gcd a b : Nat) : Int) := by
  have := Int.gcd_pos_of_ne_zero_right a (show b ≠ 0 by omega)
  omega
theorem gcd_le {a b : Int} (h : 0 < b) : ((Int.gcd a b : Nat) : Int) ≤ b := Int.le_of_dvd h (Int.gcd_dvd_right ..)
theorem lo_mul (a b p : Int) {c : Int} (h : 0 < c) : lo (c * a) (c * b) p = lo a b p := by
  unfold lo
  rw [Int.gcd_mul_left, show (if p = 0 then c * a else c * b) = c * (if p = 0 then a else b) by split <;> rfl]
  have e : ((c.natAbs * Int.gcd a b : Nat) : Int) = c * ((Int.gcd a b : Nat) : Int) := by
    rw [Int.natCast_mul, Int.natAbs_of_nonneg (by omega)]
  rw [e, Int.mul_tdiv_mul_of_pos _ _ h]
theorem c_C_lowest (l : Launch) (a b p : Int) (ha : inL a ∧ a ≠ -9223372036854775808) (hb : 0 < b ∧ inL b) (hp : inI p) : Con l M_C_lowest R_C_lowest 0 0 false [.long (lI a), .long (lI b), .int (iI p)] [] (zAl (lo a b p) (fun m => m = [])) := by
  have h1 := gcd_pos (a := a) hb.1
  have h2 := gcd_le (a := a) hb.1
  refine Con.of_Z (by decide) D_C_lowest (Nat.le_of_ble_eq_true rfl) ?_
  refine Z_lload_n 0 rfl rfl rfl ?_
  refine Z_lload_n 1 rfl rfl rfl ?_
  refine Z_callSlp (M' := M_C_commonDivisor) 2 [] rfl l_C_393 C_C_commonDivisor (c_C_commonDivisor l a b ha (by omega)) ⟨List.nodup_nil, zEL.n⟩ rfl rfl rfl (Nat.le_of_ble_eq_true rfl) ⟨rfl, rfl, Nat.le_of_ble_eq_true rfl, Nat.le_of_ble_eq_true rfl⟩ ⟨Nat.zero_le _, Nat.zero_le _⟩ ?_
  refine Z_lstore 3 rfl (Nat.le_of_ble_eq_true rfl) (lv' := [(5, .long _), (0, .long _), (2, .long _), (4, .int _)]) rfl ?_
  refine Z_lload 4 rfl rfl ?_
  refine Z_lconst 5 rfl ?_
  refine Z_lc_ne 6 rfl rfl (tgt := 18) rfl (by omega) (by omega) (fun c10 => ?_) (fun c10 => ?_)
  rotate_left
  · exfalso; omega
  refine Z_iload 10 rfl rfl ?_
  refine Z_if_ne 11 rfl (tgt := 30) rfl (by omega) (fun c20 => ?_) (fun c20 => ?_)
  · refine Z_lload_n 16 rfl rfl rfl ?_
    refine Z_lload 17 rfl rfl ?_
    refine Z_ldiv 18 rfl (by omega) (by omega) (by omega) ?_
    refine Z_lret 19 rfl rfl ⟨Nat.le_refl _, Nat.le_refl _⟩ ?_
    exact ⟨by unfold lo; first | rw [if_pos (by omega)] | rw [if_neg (by omega)], rfl⟩
  · refine Z_lload_n 12 rfl rfl rfl ?_
    refine Z_lload 13 rfl rfl ?_
    refine Z_ldiv 14 rfl (by omega) (by omega) (by omega) ?_
    refine Z_goto 15 rfl (tgt := 34) rfl ?_
    refine Z_lret 19 rfl rfl ⟨Nat.le_refl _, Nat.le_refl _⟩ ?_
    exact ⟨by unfold lo; first | rw [if_pos (by omega)] | rw [if_neg (by omega)], rfl⟩
theorem bT {p : Prop} (h : p) : some (Value.int (iI 1)) = some (Value.int (iI (bI p))) := by rw [bI_t h]
theorem bF {p : Prop} (h : ¬ p) : some (Value.int (iI 0)) = some (Value.int (iI (bI p))) := by rw [bI_f h]
/-! which of two fractions is more -/
theorem mo_ne {a b c d : Int} (hb : 0 < b) (hd : 0 < d) (h : c / d < a / b) : c * b < a * d := by
  rcases Int.lt_or_le (c * b) (a * d) with h1 | h1
  · exact h1
  · exfalso
    have h2 : (a * d) / (b * d) ≤ (c * b) / (b * d) := Int.ediv_le_ediv (Int.mul_pos hb hd) h1
    rw [Int.mul_ediv_mul_of_pos_left _ _ hd, Int.mul_comm b d, Int.mul_ediv_mul_of_pos_left _ _ hb] at h2
    omega
theorem mo_eq {a b c d : Int} (h : a / b = c / d) : c * b < a * d ↔ (c % d) * b < (a % b) * d := by
  have h1 := Int.emod_add_mul_ediv a b
  have h2 := Int.emod_add_mul_ediv c d
  rw [← h] at h2
  have e1 : a * d = (a % b) * d + b * (a / b) * d := by rw [← Int.add_mul, h1]
  have e2 : c * b = (c % d) * b + d * (a / b) * b := by rw [← Int.add_mul, h2]
  have e3 : b * (a / b) * d = d * (a / b) * b := by grind
  omega
theorem lp_C_isMore (l : Launch) (p : Prop) : ∀ (n : Nat) (a b c d : Int) (i : Nat), (0 ≤ a ∧ inL a) → (0 < b ∧ inL b) → (0 ≤ c ∧ inL c) → (0 < d ∧ inL d) → i ≤ 100 → 100 - i < n → (∃ k, eu a b k i 100) → (∃ k, eu c d k i 100) → (p ↔ c * b < a * d) → Z (l, M_C_isMore, R_C_isMore, (0, 0), false, zAb p (fun m => m = [])) 0 0 [] 3 [(0, .long (lI a)), (2, .long (lI b)), (4, .long (lI c)), (6, .long (lI d)), (8, .int (iI (i : Int)))] [] := by
  intro n
  induction n with
  | zero => intro a b c d i h1 h2 h3 h4 h5 h6; omega
  | succ n ih =>
    intro a b c d i ha hb hc hd h5 h6 ⟨k1, h7⟩ ⟨k2, h8⟩ h9
    have r1 := tm_bd ha.1 hb.1
    have r2 := tm_bd hc.1 hd.1
    have q1 : inL (a.tdiv b) := by rw [td_n ha.1]; exact ed_bd ha.2 hb.1
    have q2 : inL (c.tdiv d) := by rw [td_n hc.1]; exact ed_bd hc.2 hd.1
    refine Z_iload 2 rfl rfl ?_
    refine Z_bipush 3 rfl rfl ?_
    refine Z_icmp_ge 4 rfl (tgt := 116) rfl (by omega) (by omega) (fun c7 => ?_) (fun c7 => ?_)
    · refine Z_iconst 67 rfl ?_
      refine Z_zret 68 rfl rfl rfl ⟨Nat.le_refl _, Nat.le_refl _⟩ ?_
      exfalso; first | (have e := eu_end ha.1 (by omega) (by omega) h7; omega) | omega
    · refine Z_lload_n 5 rfl rfl rfl ?_
      refine Z_lconst 6 rfl ?_
      refine Z_lc_le 7 rfl rfl (tgt := 116) rfl (by omega) (by omega) (fun c12 => ?_) (fun c12 => ?_)
      · refine Z_iconst 67 rfl ?_
        refine Z_zret 68 rfl rfl rfl ⟨Nat.le_refl _, Nat.le_refl _⟩ ?_
        exfalso; first | (have e := eu_end ha.1 (by omega) (by omega) h7; omega) | omega
      · refine Z_lload 9 rfl rfl ?_
        refine Z_lconst 10 rfl ?_
        refine Z_lc_le 11 rfl rfl (tgt := 116) rfl (by omega) (by omega) (fun c19 => ?_) (fun c19 => ?_)
        · refine Z_iconst 67 rfl ?_
          refine Z_zret 68 rfl rfl rfl ⟨Nat.le_refl _, Nat.le_refl _⟩ ?_
          exfalso; first | (have e := eu_end ha.1 (by omega) (by omega) h7; omega) | omega
        · refine Z_lload_n 13 rfl rfl rfl ?_
          refine Z_lload_n 14 rfl rfl rfl ?_
          refine Z_ldiv 15 rfl (by omega) (by omega) (by omega) ?_
          refine Z_lstore 16 rfl (Nat.le_of_ble_eq_true rfl) (lv' := [(9, .long _), (0, .long _), (2, .long _), (4, .long _), (6, .long _), (8, .int _)]) rfl ?_
          refine Z_lload 17 rfl rfl ?_
          refine Z_lload 18 rfl rfl ?_
          refine Z_ldiv 19 rfl (by omega) (by omega) (by omega) ?_
          refine Z_lstore 20 rfl (Nat.le_of_ble_eq_true rfl) (lv' := [(11, .long _), (9, .long _), (0, .long _), (2, .long _), (4, .long _), (6, .long _), (8, .int _)]) rfl ?_
          refine Z_lload 21 rfl rfl ?_
          refine Z_lload 22 rfl rfl ?_
          refine Z_lc_eq 23 rfl rfl (tgt := 57) rfl q1 q2 (fun c39 => ?_) (fun c39 => ?_)
          · refine Z_lload_n 33 rfl rfl rfl ?_
            refine Z_lload_n 34 rfl rfl rfl ?_
            refine Z_lrem 35 rfl (by omega) (by omega) (by omega) ?_
            refine Z_lstore 36 rfl (Nat.le_of_ble_eq_true rfl) (lv' := [(13, .long _), (11, .long _), (9, .long _), (0, .long _), (2, .long _), (4, .long _), (6, .long _), (8, .int _)]) rfl ?_
            refine Z_lload 37 rfl rfl ?_
            refine Z_lload 38 rfl rfl ?_
            refine Z_lrem 39 rfl (by omega) (by omega) (by omega) ?_
            refine Z_lstore 40 rfl (Nat.le_of_ble_eq_true rfl) (lv' := [(15, .long _), (13, .long _), (11, .long _), (9, .long _), (0, .long _), (2, .long _), (4, .long _), (6, .long _), (8, .int _)]) rfl ?_
            refine Z_lload 41 rfl rfl ?_
            rw [td_n ha.1, td_n hc.1] at c39
            rw [mo_eq c39, ← Int.tmod_eq_emod_of_nonneg ha.1, ← Int.tmod_eq_emod_of_nonneg hc.1] at h9
            refine Z_lconst 42 rfl ?_
            refine Z_lc_eq 43 rfl rfl (tgt := 83) rfl (by omega) (by omega) (fun c72 => ?_) (fun c72 => ?_)
            · refine Z_lload 49 rfl rfl ?_
              refine Z_lload 50 rfl rfl ?_
              refine Z_lc_le 51 rfl rfl (tgt := 95) rfl (by omega) (by omega) (fun c87 => ?_) (fun c87 => ?_)
              · refine Z_iconst 55 rfl ?_
                refine Z_zret 56 rfl rfl rfl ⟨Nat.le_refl _, Nat.le_refl _⟩ ?_
                have g1 : 0 < c.tmod d → 0 < c.tmod d * b := fun z => Int.mul_pos z hb.1
                have g2 : 0 < a.tmod b → 0 < a.tmod b * d := fun z => Int.mul_pos z hd.1
                have g3 : c.tmod d = 0 → c.tmod d * b = 0 := fun z => by rw [z, Int.zero_mul]
                have g4 : a.tmod b = 0 → a.tmod b * d = 0 := fun z => by rw [z, Int.zero_mul]
                first | exact ⟨bT (h9.mpr (by omega)), rfl⟩ | exact ⟨bF (fun z => by have := h9.mp z; omega), rfl⟩
              · refine Z_iconst 53 rfl ?_
                refine Z_goto 54 rfl (tgt := 96) rfl ?_
                refine Z_zret 56 rfl rfl rfl ⟨Nat.le_refl _, Nat.le_refl _⟩ ?_
                have g1 : 0 < c.tmod d → 0 < c.tmod d * b := fun z => Int.mul_pos z hb.1
                have g2 : 0 < a.tmod b → 0 < a.tmod b * d := fun z => Int.mul_pos z hd.1
                have g3 : c.tmod d = 0 → c.tmod d * b = 0 := fun z => by rw [z, Int.zero_mul]
                have g4 : a.tmod b = 0 → a.tmod b * d = 0 := fun z => by rw [z, Int.zero_mul]
                first | exact ⟨bT (h9.mpr (by omega)), rfl⟩ | exact ⟨bF (fun z => by have := h9.mp z; omega), rfl⟩
            · refine Z_lload 45 rfl rfl ?_
              refine Z_lconst 46 rfl ?_
              refine Z_lc_ne 47 rfl rfl (tgt := 97) rfl (by omega) (by omega) (fun c79 => ?_) (fun c79 => ?_)
              · refine Z_lload 57 rfl rfl ?_
                refine Z_lstore_n 58 rfl rfl (Nat.le_of_ble_eq_true rfl) (lv' := [(0, .long _), (15, .long _), (13, .long _), (11, .long _), (9, .long _), (2, .long _), (4, .long _), (6, .long _), (8, .int _)]) rfl ?_
                refine Z_lload_n 59 rfl rfl rfl ?_
                refine Z_lstore 60 rfl (Nat.le_of_ble_eq_true rfl) (lv' := [(4, .long _), (0, .long _), (15, .long _), (13, .long _), (11, .long _), (9, .long _), (2, .long _), (6, .long _), (8, .int _)]) rfl ?_
                refine Z_lload 61 rfl rfl ?_
                refine Z_lstore_n 62 rfl rfl (Nat.le_of_ble_eq_true rfl) (lv' := [(2, .long _), (4, .long _), (0, .long _), (15, .long _), (13, .long _), (11, .long _), (9, .long _), (6, .long _), (8, .int _)]) rfl ?_
                refine Z_lload 63 rfl rfl ?_
                refine Z_lstore 64 rfl (Nat.le_of_ble_eq_true rfl) (lv' := [(6, .long _), (2, .long _), (4, .long _), (0, .long _), (15, .long _), (13, .long _), (11, .long _), (9, .long _), (8, .int _)]) rfl ?_
                refine Z_iinc 65 rfl rfl (Nat.le_of_ble_eq_true rfl) (lv' := [(8, .int _), (6, .long _), (2, .long _), (4, .long _), (0, .long _), (15, .long _), (13, .long _), (11, .long _), (9, .long _)]) rfl ?_
                refine Z_goto 66 rfl (tgt := 3) rfl ?_
                refine Z_pick [0, 2, 4, 6, 8] (lv' := [(0, .long _), (2, .long _), (4, .long _), (6, .long _), (8, .int _)]) rfl ?_
                exact ih d (c.tmod d) b (a.tmod b) (i + 1) (by omega) (by omega) (by omega) (by omega) (by omega) (by omega) (eu_st hc.1 hd.1 h8) (eu_st ha.1 hb.1 h7) (by rw [h9, Int.mul_comm b, Int.mul_comm d])
              · refine Z_lload 49 rfl rfl ?_
                refine Z_lload 50 rfl rfl ?_
                refine Z_lc_le 51 rfl rfl (tgt := 95) rfl (by omega) (by omega) (fun c87 => ?_) (fun c87 => ?_)
                · refine Z_iconst 55 rfl ?_
                  refine Z_zret 56 rfl rfl rfl ⟨Nat.le_refl _, Nat.le_refl _⟩ ?_
                  have g1 : 0 < c.tmod d → 0 < c.tmod d * b := fun z => Int.mul_pos z hb.1
                  have g2 : 0 < a.tmod b → 0 < a.tmod b * d := fun z => Int.mul_pos z hd.1
                  have g3 : c.tmod d = 0 → c.tmod d * b = 0 := fun z => by rw [z, Int.zero_mul]
                  have g4 : a.tmod b = 0 → a.tmod b * d = 0 := fun z => by rw [z, Int.zero_mul]
                  first | exact ⟨bT (h9.mpr (by omega)), rfl⟩ | exact ⟨bF (fun z => by have := h9.mp z; omega), rfl⟩
                · refine Z_iconst 53 rfl ?_
                  refine Z_goto 54 rfl (tgt := 96) rfl ?_
                  refine Z_zret 56 rfl rfl rfl ⟨Nat.le_refl _, Nat.le_refl _⟩ ?_
                  have g1 : 0 < c.tmod d → 0 < c.tmod d * b := fun z => Int.mul_pos z hb.1
                  have g2 : 0 < a.tmod b → 0 < a.tmod b * d := fun z => Int.mul_pos z hd.1
                  have g3 : c.tmod d = 0 → c.tmod d * b = 0 := fun z => by rw [z, Int.zero_mul]
                  have g4 : a.tmod b = 0 → a.tmod b * d = 0 := fun z => by rw [z, Int.zero_mul]
                  first | exact ⟨bT (h9.mpr (by omega)), rfl⟩ | exact ⟨bF (fun z => by have := h9.mp z; omega), rfl⟩
          · refine Z_lload 25 rfl rfl ?_
            refine Z_lload 26 rfl rfl ?_
            rw [td_n ha.1, td_n hc.1] at c39
            refine Z_lc_le 27 rfl rfl (tgt := 55) rfl q1 q2 (fun c47 => ?_) (fun c47 => ?_)
            · refine Z_iconst 31 rfl ?_
              refine Z_zret 32 rfl rfl rfl ⟨Nat.le_refl _, Nat.le_refl _⟩ ?_
              rw [td_n ha.1, td_n hc.1] at c47
              first | exact ⟨bT (h9.mpr (mo_ne hb.1 hd.1 (by omega))), rfl⟩ | exact ⟨bF (fun z => by have := h9.mp z; have := mo_ne hd.1 hb.1 (show a / b < c / d by omega); omega), rfl⟩
            · refine Z_iconst 29 rfl ?_
              refine Z_goto 30 rfl (tgt := 56) rfl ?_
              refine Z_zret 32 rfl rfl rfl ⟨Nat.le_refl _, Nat.le_refl _⟩ ?_
              rw [td_n ha.1, td_n hc.1] at c47
              first | exact ⟨bT (h9.mpr (mo_ne hb.1 hd.1 (by omega))), rfl⟩ | exact ⟨bF (fun z => by have := h9.mp z; have := mo_ne hd.1 hb.1 (show a / b < c / d by omega); omega), rfl⟩
theorem c_C_isMore (l : Launch) (a b c d : Int) (ha : 0 ≤ a ∧ inL a) (hb : 0 < b ∧ inL b) (hc : 0 ≤ c ∧ inL c) (hd : 0 < d ∧ inL d) (h1 : a * b < 79228162514264337593543950336) (h2 : c * d < 79228162514264337593543950336) : Con l M_C_isMore R_C_isMore 0 0 false [.long (lI a), .long (lI b), .long (lI c), .long (lI d)] [] (zAb (c * b < a * d) (fun m => m = [])) := by
  have e : pw 96 = 79228162514264337593543950336 := by decide +kernel
  refine Con.of_Z (by decide) D_C_isMore (Nat.le_of_ble_eq_true rfl) ?_
  refine Z_iconst 0 rfl ?_
  refine Z_istore 1 rfl (Nat.le_of_ble_eq_true rfl) (lv' := [(8, .int _), (0, .long _), (2, .long _), (4, .long _), (6, .long _)]) rfl ?_
  refine Z_pick [0, 2, 4, 6, 8] (lv' := [(0, .long _), (2, .long _), (4, .long _), (6, .long _), (8, .int _)]) rfl ?_
  exact lp_C_isMore l _ 101 a b c d 0 ha hb hc hd (by omega) (by omega) ⟨96, by rw [← e] at h1; exact ⟨h1, Or.inr (by omega)⟩⟩ ⟨96, by rw [← e] at h2; exact ⟨h2, Or.inr (by omega)⟩⟩ Iff.rfl
theorem c_C_isPart (l : Launch) (p : Int) (hp : inI p) : Con l M_C_isPart R_C_isPart 0 0 false [.int (iI p)] [] (zAb (p = 0 ∨ p = 1) (fun m => m = [])) := by
  refine Con.of_Z (by decide) D_C_isPart (Nat.le_of_ble_eq_true rfl) ?_
  refine Z_iload_n 0 rfl rfl rfl ?_
  refine Z_if_eq 1 rfl (tgt := 9) rfl (by omega) (fun c1 => ?_) (fun c1 => ?_)
  · refine Z_iconst 5 rfl ?_
    refine Z_goto 6 rfl (tgt := 14) rfl ?_
    refine Z_zret 8 rfl rfl rfl ⟨Nat.le_refl _, Nat.le_refl _⟩ ?_
    exact ⟨by first | rw [bI_t (by omega)] | rw [bI_f (by omega)], rfl⟩
  · refine Z_iload_n 2 rfl rfl rfl ?_
    refine Z_iconst 3 rfl ?_
    refine Z_icmp_ne 4 rfl (tgt := 13) rfl (by omega) (by omega) (fun c6 => ?_) (fun c6 => ?_)
    · refine Z_iconst 7 rfl ?_
      refine Z_zret 8 rfl rfl rfl ⟨Nat.le_refl _, Nat.le_refl _⟩ ?_
      exact ⟨by first | rw [bI_t (by omega)] | rw [bI_f (by omega)], rfl⟩
    · refine Z_iconst 5 rfl ?_
      refine Z_goto 6 rfl (tgt := 14) rfl ?_
      refine Z_zret 8 rfl rfl rfl ⟨Nat.le_refl _, Nat.le_refl _⟩ ?_
      exact ⟨by first | rw [bI_t (by omega)] | rw [bI_f (by omega)], rfl⟩
/-- a piece that may be -/
def mb (k n r : Int) : Prop := (0 ≤ k ∧ k ≤ 5) ∧ (1 ≤ n ∧ n ≤ 360) ∧ (-99 ≤ r ∧ r ≤ 99) ∧ (k = 0 ↔ r = 0)
theorem c_C_mayBe (l : Launch) (k n r : Int) (hk : inI k) (hn : inI n) (hr : inI r) : Con l M_C_mayBe R_C_mayBe 0 0 false [.int (iI k), .int (iI n), .int (iI r)] [] (zAb (mb k n r) (fun m => m = [])) := by
  refine Con.of_Z (by decide) D_C_mayBe (Nat.le_of_ble_eq_true rfl) ?_
  refine Z_iload_n 0 rfl rfl rfl ?_
  refine Z_if_lt 1 rfl (tgt := 22) rfl (by omega) (fun c1 => ?_) (fun c1 => ?_)
  · refine Z_iconst 11 rfl ?_
    refine Z_zret 12 rfl rfl rfl ⟨Nat.le_refl _, Nat.le_refl _⟩ ?_
    first | (exfalso; omega) | exact ⟨bT (by unfold mb; omega), rfl⟩ | exact ⟨bF (by unfold mb; omega), rfl⟩
  · refine Z_iload_n 2 rfl rfl rfl ?_
    refine Z_bipush 3 rfl rfl ?_
    refine Z_icmp_ge 4 rfl (tgt := 22) rfl (by omega) (by omega) (fun c7 => ?_) (fun c7 => ?_)
    · refine Z_iconst 11 rfl ?_
      refine Z_zret 12 rfl rfl rfl ⟨Nat.le_refl _, Nat.le_refl _⟩ ?_
      first | (exfalso; omega) | exact ⟨bT (by unfold mb; omega), rfl⟩ | exact ⟨bF (by unfold mb; omega), rfl⟩
    · refine Z_iload_n 5 rfl rfl rfl ?_
      refine Z_iconst 6 rfl ?_
      refine Z_icmp_lt 7 rfl (tgt := 22) rfl (by omega) (by omega) (fun c12 => ?_) (fun c12 => ?_)
      · refine Z_iconst 11 rfl ?_
        refine Z_zret 12 rfl rfl rfl ⟨Nat.le_refl _, Nat.le_refl _⟩ ?_
        first | (exfalso; omega) | exact ⟨bT (by unfold mb; omega), rfl⟩ | exact ⟨bF (by unfold mb; omega), rfl⟩
      · refine Z_iload_n 8 rfl rfl rfl ?_
        refine Z_sipush 9 rfl rfl ?_
        refine Z_icmp_le 10 rfl (tgt := 24) rfl (by omega) (by omega) (fun c19 => ?_) (fun c19 => ?_)
        · refine Z_iload_n 13 rfl rfl rfl ?_
          refine Z_bipush 14 rfl rfl ?_
          refine Z_icmp_lt 15 rfl (tgt := 61) rfl (by omega) (by omega) (fun c27 => ?_) (fun c27 => ?_)
          · refine Z_iconst 32 rfl ?_
            refine Z_zret 33 rfl rfl rfl ⟨Nat.le_refl _, Nat.le_refl _⟩ ?_
            first | (exfalso; omega) | exact ⟨bT (by unfold mb; omega), rfl⟩ | exact ⟨bF (by unfold mb; omega), rfl⟩
          · refine Z_iload_n 16 rfl rfl rfl ?_
            refine Z_bipush 17 rfl rfl ?_
            refine Z_icmp_gt 18 rfl (tgt := 61) rfl (by omega) (by omega) (fun c33 => ?_) (fun c33 => ?_)
            · refine Z_iconst 32 rfl ?_
              refine Z_zret 33 rfl rfl rfl ⟨Nat.le_refl _, Nat.le_refl _⟩ ?_
              first | (exfalso; omega) | exact ⟨bT (by unfold mb; omega), rfl⟩ | exact ⟨bF (by unfold mb; omega), rfl⟩
            · refine Z_iload_n 19 rfl rfl rfl ?_
              refine Z_if_ne 20 rfl (tgt := 44) rfl (by omega) (fun c37 => ?_) (fun c37 => ?_)
              · refine Z_iconst 23 rfl ?_
                refine Z_iload_n 24 rfl rfl rfl ?_
                refine Z_if_ne 25 rfl (tgt := 53) rfl (by omega) (fun c46 => ?_) (fun c46 => ?_)
                · refine Z_iconst 28 rfl ?_
                  refine Z_icmp_ne 29 rfl (tgt := 61) rfl (by omega) (by omega) (fun c54 => ?_) (fun c54 => ?_)
                  · refine Z_iconst 32 rfl ?_
                    refine Z_zret 33 rfl rfl rfl ⟨Nat.le_refl _, Nat.le_refl _⟩ ?_
                    first | (exfalso; omega) | exact ⟨bT (by unfold mb; omega), rfl⟩ | exact ⟨bF (by unfold mb; omega), rfl⟩
                  · refine Z_iconst 30 rfl ?_
                    refine Z_goto 31 rfl (tgt := 62) rfl ?_
                    refine Z_zret 33 rfl rfl rfl ⟨Nat.le_refl _, Nat.le_refl _⟩ ?_
                    first | (exfalso; omega) | exact ⟨bT (by unfold mb; omega), rfl⟩ | exact ⟨bF (by unfold mb; omega), rfl⟩
                · refine Z_iconst 26 rfl ?_
                  refine Z_goto 27 rfl (tgt := 54) rfl ?_
                  refine Z_icmp_ne 29 rfl (tgt := 61) rfl (by omega) (by omega) (fun c54 => ?_) (fun c54 => ?_)
                  · refine Z_iconst 32 rfl ?_
                    refine Z_zret 33 rfl rfl rfl ⟨Nat.le_refl _, Nat.le_refl _⟩ ?_
                    first | (exfalso; omega) | exact ⟨bT (by unfold mb; omega), rfl⟩ | exact ⟨bF (by unfold mb; omega), rfl⟩
                  · refine Z_iconst 30 rfl ?_
                    refine Z_goto 31 rfl (tgt := 62) rfl ?_
                    refine Z_zret 33 rfl rfl rfl ⟨Nat.le_refl _, Nat.le_refl _⟩ ?_
                    first | (exfalso; omega) | exact ⟨bT (by unfold mb; omega), rfl⟩ | exact ⟨bF (by unfold mb; omega), rfl⟩
              · refine Z_iconst 21 rfl ?_
                refine Z_goto 22 rfl (tgt := 45) rfl ?_
                refine Z_iload_n 24 rfl rfl rfl ?_
                refine Z_if_ne 25 rfl (tgt := 53) rfl (by omega) (fun c46 => ?_) (fun c46 => ?_)
                · refine Z_iconst 28 rfl ?_
                  refine Z_icmp_ne 29 rfl (tgt := 61) rfl (by omega) (by omega) (fun c54 => ?_) (fun c54 => ?_)
                  · refine Z_iconst 32 rfl ?_
                    refine Z_zret 33 rfl rfl rfl ⟨Nat.le_refl _, Nat.le_refl _⟩ ?_
                    first | (exfalso; omega) | exact ⟨bT (by unfold mb; omega), rfl⟩ | exact ⟨bF (by unfold mb; omega), rfl⟩
                  · refine Z_iconst 30 rfl ?_
                    refine Z_goto 31 rfl (tgt := 62) rfl ?_
                    refine Z_zret 33 rfl rfl rfl ⟨Nat.le_refl _, Nat.le_refl _⟩ ?_
                    first | (exfalso; omega) | exact ⟨bT (by unfold mb; omega), rfl⟩ | exact ⟨bF (by unfold mb; omega), rfl⟩
                · refine Z_iconst 26 rfl ?_
                  refine Z_goto 27 rfl (tgt := 54) rfl ?_
                  refine Z_icmp_ne 29 rfl (tgt := 61) rfl (by omega) (by omega) (fun c54 => ?_) (fun c54 => ?_)
                  · refine Z_iconst 32 rfl ?_
                    refine Z_zret 33 rfl rfl rfl ⟨Nat.le_refl _, Nat.le_refl _⟩ ?_
                    first | (exfalso; omega) | exact ⟨bT (by unfold mb; omega), rfl⟩ | exact ⟨bF (by unfold mb; omega), rfl⟩
                  · refine Z_iconst 30 rfl ?_
                    refine Z_goto 31 rfl (tgt := 62) rfl ?_
                    refine Z_zret 33 rfl rfl rfl ⟨Nat.le_refl _, Nat.le_refl _⟩ ?_
                    first | (exfalso; omega) | exact ⟨bT (by unfold mb; omega), rfl⟩ | exact ⟨bF (by unfold mb; omega), rfl⟩
        · refine Z_iconst 11 rfl ?_
          refine Z_zret 12 rfl rfl rfl ⟨Nat.le_refl _, Nat.le_refl _⟩ ?_
          first | (exfalso; omega) | exact ⟨bT (by unfold mb; omega), rfl⟩ | exact ⟨bF (by unfold mb; omega), rfl⟩
/-! Ratio -/
def eQ (a b : Int) : List zE := [zO 1 [.long (lI a), .long (lI b)]]
theorem c_Q_become (l : Launch) (a b x y : Int) : Con l M_Q_become R_Q_become 0 0 false [.ref 0, .long (lI x), .long (lI y)] (eQ a b) (zAv (fun m => m = eQ x y)) := by
  refine Con.of_Z (by decide) D_Q_become (Nat.le_of_ble_eq_true rfl) ?_
  refine Z_aload_n 0 rfl rfl rfl ?_
  refine Z_lload_n 1 rfl rfl rfl ?_
  refine Z_put 2 rfl f_Q_7 rfl (Nat.le_of_ble_eq_true rfl) (fun _ => ⟨rfl, rfl⟩) (fs' := []) (mem' := eQ x b) rfl ?_
  refine Z_aload_n 3 rfl rfl rfl ?_
  refine Z_lload_n 4 rfl rfl rfl ?_
  refine Z_put 5 rfl f_Q_13 rfl (Nat.le_of_ble_eq_true rfl) (fun _ => ⟨rfl, rfl⟩) (fs' := []) (mem' := eQ x y) rfl ?_
  refine Z_vret 6 rfl rfl ⟨Nat.le_refl _, Nat.le_refl _⟩ ?_
  exact ⟨rfl, rfl⟩
theorem c_Q_lower (l : Launch) (a b : Int) (ha : inL a ∧ a ≠ -9223372036854775808) (hb : 0 < b ∧ inL b) : Con l M_Q_lower R_Q_lower 0 0 false [.ref 0] (eQ a b) (zAv (fun m => m = eQ (lo a b 0) (lo a b 1))) := by
  have h1 := gcd_pos (a := a) hb.1
  have h2 := gcd_le (a := a) hb.1
  refine Con.of_Z (by decide) D_Q_lower (Nat.le_of_ble_eq_true rfl) ?_
  refine Z_aload_n 0 rfl rfl rfl ?_
  refine Z_get 1 rfl f_Q_7 rfl rfl ?_
  refine Z_aload_n 2 rfl rfl rfl ?_
  refine Z_get 3 rfl f_Q_13 rfl rfl ?_
  refine Z_callSNlp (M' := M_C_commonDivisor) 4 [] rfl l_Q_16 C_C_commonDivisor (c_C_commonDivisor l a b ha (by omega)) ⟨List.nodup_nil, zEL.n⟩ rfl rfl rfl (Nat.le_of_ble_eq_true rfl) ⟨rfl, rfl, Nat.le_of_ble_eq_true rfl, Nat.le_of_ble_eq_true rfl⟩ ⟨Nat.zero_le _, Nat.zero_le _⟩ ?_
  refine Z_lstore_n 5 rfl rfl (Nat.le_of_ble_eq_true rfl) (lv' := [(1, .long _), (0, .ref _)]) rfl ?_
  refine Z_lload_n 6 rfl rfl rfl ?_
  refine Z_lconst 7 rfl ?_
  refine Z_lc_ne 8 rfl rfl (tgt := 19) rfl (by omega) (by omega) (fun c14 => ?_) (fun c14 => ?_)
  rotate_left
  · exfalso; omega
  refine Z_aload_n 11 rfl rfl rfl ?_
  refine Z_dup 12 rfl rfl ?_
  refine Z_get 13 rfl f_Q_7 rfl rfl ?_
  refine Z_lload_n 14 rfl rfl rfl ?_
  refine Z_ldiv 15 rfl (by omega) (by omega) (by omega) ?_
  refine Z_put 16 rfl f_Q_7 rfl (Nat.le_of_ble_eq_true rfl) (fun _ => ⟨rfl, rfl⟩) (fs' := []) (mem' := eQ (lo a b 0) b) rfl ?_
  refine Z_aload_n 17 rfl rfl rfl ?_
  refine Z_dup 18 rfl rfl ?_
  refine Z_get 19 rfl f_Q_13 rfl rfl ?_
  refine Z_lload_n 20 rfl rfl rfl ?_
  refine Z_ldiv 21 rfl (by omega) (by omega) (by omega) ?_
  refine Z_put 22 rfl f_Q_13 rfl (Nat.le_of_ble_eq_true rfl) (fun _ => ⟨rfl, rfl⟩) (fs' := []) (mem' := eQ (lo a b 0) (lo a b 1)) rfl ?_
  refine Z_vret 23 rfl rfl ⟨Nat.le_refl _, Nat.le_refl _⟩ ?_
  exact ⟨rfl, rfl⟩
def eQQ (a b c d : Int) : List zE := [zO 1 [.long (lI a), .long (lI b)], zO 1 [.long (lI c), .long (lI d)]]
theorem c_Q_take (l : Launch) (a b c d : Int) : Con l M_Q_take R_Q_take 0 0 false [.ref 0, .ref 1] (eQQ a b c d) (zAv (fun m => m = eQQ (a * d - c * b) (b * d) c d)) := by
  refine Con.of_Z (by decide) D_Q_take (Nat.le_of_ble_eq_true rfl) ?_
  refine Z_aload_n 0 rfl rfl rfl ?_
  refine Z_aload_n 1 rfl rfl rfl ?_
  refine Z_get 2 rfl f_Q_7 rfl rfl ?_
  refine Z_aload_n 3 rfl rfl rfl ?_
  refine Z_get 4 rfl f_Q_13 rfl rfl ?_
  refine Z_lmul 5 rfl ?_
  refine Z_aload_n 6 rfl rfl rfl ?_
  refine Z_get 7 rfl f_Q_7 rfl rfl ?_
  refine Z_aload_n 8 rfl rfl rfl ?_
  refine Z_get 9 rfl f_Q_13 rfl rfl ?_
  refine Z_lmul 10 rfl ?_
  refine Z_lsub 11 rfl ?_
  refine Z_put 12 rfl f_Q_7 rfl (Nat.le_of_ble_eq_true rfl) (fun _ => ⟨rfl, rfl⟩) (fs' := []) (mem' := eQQ (a * d - c * b) b c d) rfl ?_
  refine Z_aload_n 13 rfl rfl rfl ?_
  refine Z_aload_n 14 rfl rfl rfl ?_
  refine Z_get 15 rfl f_Q_13 rfl rfl ?_
  refine Z_aload_n 16 rfl rfl rfl ?_
  refine Z_get 17 rfl f_Q_13 rfl rfl ?_
  refine Z_lmul 18 rfl ?_
  refine Z_put 19 rfl f_Q_13 rfl (Nat.le_of_ble_eq_true rfl) (fun _ => ⟨rfl, rfl⟩) (fs' := []) (mem' := eQQ (a * d - c * b) (b * d) c d) rfl ?_
  refine Z_vret 20 rfl rfl ⟨Nat.le_refl _, Nat.le_refl _⟩ ?_
  exact ⟨rfl, rfl⟩
/-! Range -/
abbrev RR : Type := Int × Int × Int
def eR (r : RR) : List zE := [zO 0 [.long (lI r.1), .long (lI r.2.1), .int (iI r.2.2)]]
def RB (r : RR) : Prop := inL r.1 ∧ inL r.2.1 ∧ (r.2.2 = 0 ∨ r.2.2 = 1)
def InR (r : RR) (x : Int) : Prop := r.2.2 = 0 ∧ r.1 ≤ x ∧ x ≤ r.2.1
theorem c_R_open (l : Launch) (r : RR) (x y : Int) : Con l M_R_open R_R_open 0 0 false [.ref 0, .long (lI x), .long (lI y)] (eR r) (zAv (fun m => m = eR (x, y, 0))) := by
  refine Con.of_Z (by decide) D_R_open (Nat.le_of_ble_eq_true rfl) ?_
  refine Z_aload_n 0 rfl rfl rfl ?_
  refine Z_lload_n 1 rfl rfl rfl ?_
  refine Z_put 2 rfl f_R_9 rfl (Nat.le_of_ble_eq_true rfl) (fun _ => ⟨rfl, rfl⟩) (fs' := []) (mem' := eR (x, r.2.1, r.2.2)) rfl ?_
  refine Z_aload_n 3 rfl rfl rfl ?_
  refine Z_lload_n 4 rfl rfl rfl ?_
  refine Z_put 5 rfl f_R_15 rfl (Nat.le_of_ble_eq_true rfl) (fun _ => ⟨rfl, rfl⟩) (fs' := []) (mem' := eR (x, y, r.2.2)) rfl ?_
  refine Z_aload_n 6 rfl rfl rfl ?_
  refine Z_iconst 7 rfl ?_
  refine Z_put 8 rfl f_R_18 rfl (Nat.le_of_ble_eq_true rfl) (fun _ => ⟨rfl, rfl⟩) (fs' := []) (mem' := eR (x, y, 0)) rfl ?_
  refine Z_vret 9 rfl rfl ⟨Nat.le_refl _, Nat.le_refl _⟩ ?_
  exact ⟨rfl, rfl⟩
def kp (r : RR) (a b : Int) : RR := if 0 < b then ((if r.1 < (-a) / b + 1 then (-a) / b + 1 else r.1), r.2) else if b < 0 then (r.1, (if -((-a) / (-b)) - 1 < r.2.1 then -((-a) / (-b)) - 1 else r.2.1), r.2.2) else if a ≤ 0 then (r.1, r.2.1, 1) else r
theorem kp_in (r : RR) (a b x : Int) (hr : r.2.2 = 0 ∨ r.2.2 = 1) : InR (kp r a b) x ↔ InR r x ∧ 0 < a + b * x := by
  unfold InR kp
  by_cases h1 : 0 < b
  · have e : (-a) / b + 1 ≤ x ↔ 0 < a + b * x := by
      have h := Int.le_ediv_iff_mul_le h1 (a := x) (b := -a)
      rw [Int.mul_comm] at h
      omega
    rw [if_pos h1]
    show r.2.2 = 0 ∧ (if r.1 < (-a) / b + 1 then (-a) / b + 1 else r.1) ≤ x ∧ x ≤ r.2.1 ↔ _
    split <;> omega
  · rw [if_neg h1]
    by_cases h2 : b < 0
    · have e : x ≤ -((-a) / (-b)) - 1 ↔ 0 < a + b * x := by
        have h := Int.le_ediv_iff_mul_le (show 0 < -b by omega) (a := -x) (b := -a)
        rw [Int.neg_mul_neg, Int.mul_comm] at h
        omega
      rw [if_pos h2]
      show r.2.2 = 0 ∧ r.1 ≤ x ∧ x ≤ (if -((-a) / (-b)) - 1 < r.2.1 then -((-a) / (-b)) - 1 else r.2.1) ↔ _
      split <;> omega
    · have e : b = 0 := by omega
      subst e
      rw [if_neg h2, Int.zero_mul]
      split
      · show (1 : Int) = 0 ∧ _ ↔ _
        omega
      · omega
theorem ed_ab {x y A : Int} (h : -A ≤ x ∧ x ≤ A) (hy : 0 < y) : -A ≤ x / y ∧ x / y ≤ A := by
  rcases Int.le_total 0 x with h0 | h0
  · have h1 := Int.ediv_nonneg h0 (show 0 ≤ y by omega)
    have h2 := Int.ediv_le_self y h0
    omega
  · have h1 : x / y ≤ 0 / y := Int.ediv_le_ediv hy h0
    rw [Int.zero_ediv] at h1
    have h2 : x ≤ x / y := by
      refine Int.le_ediv_of_mul_le hy ?_
      have := Int.mul_le_mul_of_nonpos_left h0 (show 1 ≤ y by omega)
      omega
    omega
theorem kp_bd {r : RR} {a b : Int} (hr : RB r) (ha : -9223372036854775807 < a ∧ a < 9223372036854775807) (hb : inL b ∧ b ≠ -9223372036854775808) : RB (kp r a b) := by
  unfold RB kp at *
  by_cases h1 : 0 < b
  · have h2 := ed_ab (x := -a) (A := 9223372036854775806) (by omega) h1
    rw [if_pos h1]
    show inL (if r.1 < (-a) / b + 1 then (-a) / b + 1 else r.1) ∧ inL r.2.1 ∧ _
    refine ⟨?_, hr.2⟩
    split <;> omega
  · rw [if_neg h1]
    by_cases h2 : b < 0
    · have h3 := ed_ab (x := -a) (y := -b) (A := 9223372036854775806) (by omega) (by omega)
      rw [if_pos h2]
      refine ⟨hr.1, ?_, hr.2.2⟩
      show inL (if -((-a) / (-b)) - 1 < r.2.1 then -((-a) / (-b)) - 1 else r.2.1)
      split <;> omega
    · rw [if_neg h2]
      split
      · exact ⟨hr.1, hr.2.1, Or.inr rfl⟩
      · exact hr
theorem kp_p {r : RR} {a b : Int} (h : 0 < b) : kp r a b = ((if r.1 < (-a) / b + 1 then (-a) / b + 1 else r.1), r.2.1, r.2.2) := by unfold kp; rw [if_pos h]
theorem kp_m {r : RR} {a b : Int} (h : b < 0) : kp r a b = (r.1, (if -((-a) / (-b)) - 1 < r.2.1 then -((-a) / (-b)) - 1 else r.2.1), r.2.2) := by unfold kp; rw [if_neg (by omega), if_pos h]
theorem kp_z {r : RR} {a b : Int} (h : b = 0) (ha : a ≤ 0) : kp r a b = (r.1, r.2.1, 1) := by unfold kp; rw [if_neg (by omega), if_neg (by omega), if_pos ha]
theorem kp_n {r : RR} {a b : Int} (h : b = 0) (ha : ¬ a ≤ 0) : kp r a b = r := by unfold kp; rw [if_neg (by omega), if_neg (by omega), if_neg ha]
theorem c_R_keep (l : Launch) (r : RR) (a b : Int) (hr : RB r) (ha : -9223372036854775807 < a ∧ a < 9223372036854775807) (hb : inL b ∧ b ≠ -9223372036854775808) : Con l M_R_keepAboveZero R_R_keepAboveZero 0 0 false [.ref 0, .long (lI a), .long (lI b)] (eR r) (zAv (fun m => m = eR (kp r a b))) := by
  have hk := kp_bd hr ha hb
  unfold RB at hr hk
  refine Con.of_Z (by decide) D_R_keepAboveZero (Nat.le_of_ble_eq_true rfl) ?_
  refine Z_lload_n 0 rfl rfl rfl ?_
  refine Z_lconst 1 rfl ?_
  refine Z_lc_le 2 rfl rfl (tgt := 28) rfl (by omega) (by omega) (fun c2 => ?_) (fun c2 => ?_)
  · refine Z_lload_n 16 rfl rfl rfl ?_
    refine Z_lconst 17 rfl ?_
    refine Z_lc_ge 18 rfl rfl (tgt := 58) rfl (by omega) (by omega) (fun c30 => ?_) (fun c30 => ?_)
    · refine Z_lload_n 34 rfl rfl rfl ?_
      refine Z_lconst 35 rfl ?_
      refine Z_lc_gt 36 rfl rfl (tgt := 69) rfl (by omega) (by omega) (fun c60 => ?_) (fun c60 => ?_)
      · refine Z_vret 41 rfl rfl ⟨Nat.le_refl _, Nat.le_refl _⟩ ?_
        first | (rw [kp_p (by omega)]; exact ⟨rfl, rfl⟩) | (rw [kp_m (by omega)]; exact ⟨rfl, rfl⟩) | (rw [kp_z (by omega) (by omega)]; exact ⟨rfl, rfl⟩) | (rw [kp_n (by omega) (by omega)]; exact ⟨rfl, rfl⟩)
      · refine Z_aload_n 38 rfl rfl rfl ?_
        refine Z_iconst 39 rfl ?_
        refine Z_put 40 rfl f_R_18 rfl (Nat.le_of_ble_eq_true rfl) (fun _ => ⟨rfl, rfl⟩) (fs' := []) (mem' := eR (r.1, r.2.1, 1)) rfl ?_
        refine Z_vret 41 rfl rfl ⟨Nat.le_refl _, Nat.le_refl _⟩ ?_
        first | (rw [kp_p (by omega)]; exact ⟨rfl, rfl⟩) | (rw [kp_m (by omega)]; exact ⟨rfl, rfl⟩) | (rw [kp_z (by omega) (by omega)]; exact ⟨rfl, rfl⟩) | (rw [kp_n (by omega) (by omega)]; exact ⟨rfl, rfl⟩)
    · refine Z_aload_n 20 rfl rfl rfl ?_
      refine Z_aload_n 21 rfl rfl rfl ?_
      refine Z_get 22 rfl f_R_15 rfl rfl ?_
      refine Z_lload_n 23 rfl rfl rfl ?_
      refine Z_lneg 24 rfl ?_
      refine Z_lload_n 25 rfl rfl rfl ?_
      refine Z_lneg 26 rfl ?_
      refine Z_callSlp (M' := M_J9_floorDiv) 27 [] rfl l_R_22 C_J9_floorDiv (c_floorDiv l (-a) (-b) (by omega) (by omega) (by omega)) ⟨List.nodup_nil, zEL.n⟩ rfl rfl rfl (Nat.le_of_ble_eq_true rfl) ⟨rfl, rfl, Nat.le_of_ble_eq_true rfl, Nat.le_of_ble_eq_true rfl⟩ ⟨Nat.zero_le _, Nat.zero_le _⟩ ?_
      refine Z_lneg 28 rfl ?_
      refine Z_lconst 29 rfl ?_
      refine Z_lsub 30 rfl ?_
      refine Z_minL 31 rfl l_R_31 b_st_minL b_ini_Math b_cd_minL (hr.2.1) (by have h2 := ed_ab (x := -a) (y := -b) (A := 9223372036854775806) (by omega) (by omega); omega) (Nat.le_of_ble_eq_true rfl) ⟨Nat.le_of_ble_eq_true rfl, Nat.zero_le _, Nat.zero_le _⟩ ?_
      refine Z_put 32 rfl f_R_15 rfl (Nat.le_of_ble_eq_true rfl) (fun _ => ⟨rfl, rfl⟩) (fs' := []) (mem' := eR (r.1, (if -((-a) / (-b)) - 1 < r.2.1 then -((-a) / (-b)) - 1 else r.2.1), r.2.2)) rfl ?_
      refine Z_goto 33 rfl (tgt := 69) rfl ?_
      refine Z_vret 41 rfl rfl ⟨Nat.le_refl _, Nat.le_refl _⟩ ?_
      first | (rw [kp_p (by omega)]; exact ⟨rfl, rfl⟩) | (rw [kp_m (by omega)]; exact ⟨rfl, rfl⟩) | (rw [kp_z (by omega) (by omega)]; exact ⟨rfl, rfl⟩) | (rw [kp_n (by omega) (by omega)]; exact ⟨rfl, rfl⟩)
  · refine Z_aload_n 4 rfl rfl rfl ?_
    refine Z_aload_n 5 rfl rfl rfl ?_
    refine Z_get 6 rfl f_R_9 rfl rfl ?_
    refine Z_lload_n 7 rfl rfl rfl ?_
    refine Z_lneg 8 rfl ?_
    refine Z_lload_n 9 rfl rfl rfl ?_
    refine Z_callSlp (M' := M_J9_floorDiv) 10 [] rfl l_R_22 C_J9_floorDiv (c_floorDiv l (-a) b (by omega) (by omega) (by omega)) ⟨List.nodup_nil, zEL.n⟩ rfl rfl rfl (Nat.le_of_ble_eq_true rfl) ⟨rfl, rfl, Nat.le_of_ble_eq_true rfl, Nat.le_of_ble_eq_true rfl⟩ ⟨Nat.zero_le _, Nat.zero_le _⟩ ?_
    refine Z_lconst 11 rfl ?_
    refine Z_ladd 12 rfl ?_
    refine Z_maxL 13 rfl l_R_28 b_st_maxL b_ini_Math b_cd_maxL (hr.1) (by have h2 := ed_ab (x := -a) (A := 9223372036854775806) (y := b) (by omega) (by omega); omega) (Nat.le_of_ble_eq_true rfl) ⟨Nat.le_of_ble_eq_true rfl, Nat.zero_le _, Nat.zero_le _⟩ ?_
    refine Z_put 14 rfl f_R_9 rfl (Nat.le_of_ble_eq_true rfl) (fun _ => ⟨rfl, rfl⟩) (fs' := []) (mem' := eR ((if r.1 < (-a) / b + 1 then (-a) / b + 1 else r.1), r.2.1, r.2.2)) rfl ?_
    refine Z_goto 15 rfl (tgt := 69) rfl ?_
    refine Z_vret 41 rfl rfl ⟨Nat.le_refl _, Nat.le_refl _⟩ ?_
    first | (rw [kp_p (by omega)]; exact ⟨rfl, rfl⟩) | (rw [kp_m (by omega)]; exact ⟨rfl, rfl⟩) | (rw [kp_z (by omega) (by omega)]; exact ⟨rfl, rfl⟩) | (rw [kp_n (by omega) (by omega)]; exact ⟨rfl, rfl⟩)
theorem c_R_holds (l : Launch) (r : RR) (x : Int) (hr : RB r) (hx : inL x) : Con l M_R_holds R_R_holds 0 0 false [.ref 0, .long (lI x)] (eR r) (zAb (InR r x) (fun m => m = eR r)) := by
  unfold RB at hr
  refine Con.of_Z (by decide) D_R_holds (Nat.le_of_ble_eq_true rfl) ?_
  refine Z_aload_n 0 rfl rfl rfl ?_
  refine Z_get 1 rfl f_R_18 rfl rfl ?_
  refine Z_if_ne 2 rfl (tgt := 29) rfl (by omega) (fun c4 => ?_) (fun c4 => ?_)
  · refine Z_iconst 15 rfl ?_
    refine Z_zret 16 rfl rfl rfl ⟨Nat.le_refl _, Nat.le_refl _⟩ ?_
    first | exact ⟨bT (by unfold InR; omega), rfl⟩ | exact ⟨bF (by unfold InR; omega), rfl⟩
  · refine Z_lload_n 3 rfl rfl rfl ?_
    refine Z_aload_n 4 rfl rfl rfl ?_
    refine Z_get 5 rfl f_R_9 rfl rfl ?_
    refine Z_lc_lt 6 rfl rfl (tgt := 29) rfl (by omega) (by omega) (fun c12 => ?_) (fun c12 => ?_)
    · refine Z_iconst 15 rfl ?_
      refine Z_zret 16 rfl rfl rfl ⟨Nat.le_refl _, Nat.le_refl _⟩ ?_
      first | exact ⟨bT (by unfold InR; omega), rfl⟩ | exact ⟨bF (by unfold InR; omega), rfl⟩
    · refine Z_lload_n 8 rfl rfl rfl ?_
      refine Z_aload_n 9 rfl rfl rfl ?_
      refine Z_get 10 rfl f_R_15 rfl rfl ?_
      refine Z_lc_gt 11 rfl rfl (tgt := 29) rfl (by omega) (by omega) (fun c21 => ?_) (fun c21 => ?_)
      · refine Z_iconst 15 rfl ?_
        refine Z_zret 16 rfl rfl rfl ⟨Nat.le_refl _, Nat.le_refl _⟩ ?_
        first | exact ⟨bT (by unfold InR; omega), rfl⟩ | exact ⟨bF (by unfold InR; omega), rfl⟩
      · refine Z_iconst 13 rfl ?_
        refine Z_goto 14 rfl (tgt := 30) rfl ?_
        refine Z_zret 16 rfl rfl rfl ⟨Nat.le_refl _, Nat.le_refl _⟩ ?_
        first | exact ⟨bT (by unfold InR; omega), rfl⟩ | exact ⟨bF (by unfold InR; omega), rfl⟩
noncomputable def lst (r : RR) : Int := @ite Int (InR r r.1) (Classical.propDecidable _) r.1 (-5)
theorem c_R_leastOne (l : Launch) (r : RR) (hr : RB r) : Con l M_R_leastOne R_R_leastOne 0 0 false [.ref 0] (eR r) (zAi (lst r) (fun m => m = eR r)) := by
  have hr2 := hr
  unfold RB at hr2
  refine Con.of_Z (by decide) D_R_leastOne (Nat.le_of_ble_eq_true rfl) ?_
  refine Z_aload_n 0 rfl rfl rfl ?_
  refine Z_aload_n 1 rfl rfl rfl ?_
  refine Z_get 2 rfl f_R_9 rfl rfl ?_
  refine Z_callVbp (M' := M_R_holds) 3 [0] rfl l_R_34 C_R_holds (c_R_holds l r r.1 hr (by omega)) ⟨by decide, (zEL.c (Or.inl rfl) zEL.n)⟩ (Or.inl ⟨_, _, _, _, rfl, rfl⟩) rfl rfl rfl (Nat.le_of_ble_eq_true rfl) ⟨rfl, rfl, Nat.le_of_ble_eq_true rfl, Nat.le_of_ble_eq_true rfl⟩ ⟨Nat.zero_le _, Nat.zero_le _⟩ ?_
  refine Z_ifb_eq 4 rfl (tgt := 19) rfl (fun c8 => ?_) (fun c8 => ?_)
  · refine Z_bipush 9 rfl rfl ?_
    refine Z_iret 10 rfl rfl ⟨Nat.le_refl _, Nat.le_refl _⟩ ?_
    exact ⟨by unfold lst; first | rw [if_pos c8] | rw [if_neg c8], rfl⟩
  · refine Z_aload_n 5 rfl rfl rfl ?_
    refine Z_get 6 rfl f_R_9 rfl rfl ?_
    refine Z_l2i 7 rfl ?_
    refine Z_goto 8 rfl (tgt := 21) rfl ?_
    refine Z_iret 10 rfl rfl ⟨Nat.le_refl _, Nat.le_refl _⟩ ?_
    exact ⟨by unfold lst; first | rw [if_pos c8] | rw [if_neg c8], rfl⟩
end
section
/-! Spot: below, gain, slope, bend, base -/
abbrev SS : Type := Int × Int × Int × Int × Int
def eS (s : SS) : List zE := [zO 4 [.long (lI s.1), .long (lI s.2.1), .long (lI s.2.2.1), .long (lI s.2.2.2.1), .long (lI s.2.2.2.2)]]
def lf (s : SS) : Int := s.2.2.2.2 * s.1 + s.2.1
def sd (k L r a u : Int) : SS :=
  if k = 1 then (L, r * u, r, 0, a)
  else if k = 2 then (L * L, r * u * u, 2 * r * u, 2 * r, a)
  else if k = 3 then (L * L, r * u * (2 * L - u), 2 * r * (L - u), -2 * r, a)
  else if k = 4 then (L * L * L, r * u * u * (3 * L - 2 * u), 6 * r * u * (L - u), 6 * r * (L - 2 * u), a)
  else if k = 5 then (L * L * (L * L) * L, r * u * u * u * (10 * (L * L) - 15 * u * L + 6 * u * u), 30 * r * u * u * (L - u) * (L - u), 60 * r * u * (L - u) * (L - u - u), a)
  else (1, 0, 0, 0, a)
theorem c_S_write (l : Launch) (s : SS) (b g x y : Int) : Con l M_S_write R_S_write 0 0 false [.ref 0, .long (lI b), .long (lI g), .long (lI x), .long (lI y)] (eS s) (zAv (fun m => m = eS (b, g, x, y, s.2.2.2.2))) := by
  refine Con.of_Z (by decide) D_S_write (Nat.le_of_ble_eq_true rfl) ?_
  refine Z_aload_n 0 rfl rfl rfl ?_
  refine Z_lload_n 1 rfl rfl rfl ?_
  refine Z_put 2 rfl f_S_9 rfl (Nat.le_of_ble_eq_true rfl) (fun _ => ⟨rfl, rfl⟩) (fs' := []) (mem' := eS (b, s.2.1, s.2.2.1, s.2.2.2.1, s.2.2.2.2)) rfl ?_
  refine Z_aload_n 3 rfl rfl rfl ?_
  refine Z_lload_n 4 rfl rfl rfl ?_
  refine Z_put 5 rfl f_S_15 rfl (Nat.le_of_ble_eq_true rfl) (fun _ => ⟨rfl, rfl⟩) (fs' := []) (mem' := eS (b, g, s.2.2.1, s.2.2.2.1, s.2.2.2.2)) rfl ?_
  refine Z_aload_n 6 rfl rfl rfl ?_
  refine Z_lload 7 rfl rfl ?_
  refine Z_put 8 rfl f_S_18 rfl (Nat.le_of_ble_eq_true rfl) (fun _ => ⟨rfl, rfl⟩) (fs' := []) (mem' := eS (b, g, x, s.2.2.2.1, s.2.2.2.2)) rfl ?_
  refine Z_aload_n 9 rfl rfl rfl ?_
  refine Z_lload 10 rfl rfl ?_
  refine Z_put 11 rfl f_S_21 rfl (Nat.le_of_ble_eq_true rfl) (fun _ => ⟨rfl, rfl⟩) (fs' := []) (mem' := eS (b, g, x, y, s.2.2.2.2)) rfl ?_
  refine Z_vret 12 rfl rfl ⟨Nat.le_refl _, Nat.le_refl _⟩ ?_
  exact ⟨rfl, rfl⟩
theorem c_S_cubic (l : Launch) (s : SS) (L r u : Int) : Con l M_S_standInCubic R_S_standInCubic 0 0 false [.ref 0, .long (lI L), .long (lI r), .long (lI u)] (eS s) (zAv (fun m => m = eS (sd 4 L r s.2.2.2.2 u))) := by
  refine Con.of_Z (by decide) D_S_standInCubic (Nat.le_of_ble_eq_true rfl) ?_
  refine Z_aload_n 0 rfl rfl rfl ?_
  refine Z_lload_n 1 rfl rfl rfl ?_
  refine Z_lload_n 2 rfl rfl rfl ?_
  refine Z_lmul 3 rfl ?_
  refine Z_lload_n 4 rfl rfl rfl ?_
  refine Z_lmul 5 rfl ?_
  refine Z_lload_n 6 rfl rfl rfl ?_
  refine Z_lload 7 rfl rfl ?_
  refine Z_lmul 8 rfl ?_
  refine Z_lload 9 rfl rfl ?_
  refine Z_lmul 10 rfl ?_
  refine Z_ldc2 11 rfl k_S_48 (c := 3) rfl ?_
  refine Z_lload_n 12 rfl rfl rfl ?_
  refine Z_lmul 13 rfl ?_
  refine Z_ldc2 14 rfl k_S_27 (c := 2) rfl ?_
  refine Z_lload 15 rfl rfl ?_
  refine Z_lmul 16 rfl ?_
  refine Z_lsub 17 rfl ?_
  refine Z_lmul 18 rfl ?_
  refine Z_ldc2 19 rfl k_S_50 (c := 6) rfl ?_
  refine Z_lload_n 20 rfl rfl rfl ?_
  refine Z_lmul 21 rfl ?_
  refine Z_lload 22 rfl rfl ?_
  refine Z_lmul 23 rfl ?_
  refine Z_lload_n 24 rfl rfl rfl ?_
  refine Z_lload 25 rfl rfl ?_
  refine Z_lsub 26 rfl ?_
  refine Z_lmul 27 rfl ?_
  refine Z_ldc2 28 rfl k_S_50 (c := 6) rfl ?_
  refine Z_lload_n 29 rfl rfl rfl ?_
  refine Z_lmul 30 rfl ?_
  refine Z_lload_n 31 rfl rfl rfl ?_
  refine Z_ldc2 32 rfl k_S_27 (c := 2) rfl ?_
  refine Z_lload 33 rfl rfl ?_
  refine Z_lmul 34 rfl ?_
  refine Z_lsub 35 rfl ?_
  refine Z_lmul 36 rfl ?_
  refine Z_callVv (M' := M_S_write) 37 [0] rfl l_S_35 C_S_write (c_S_write l s (L * L * L) (r * u * u * (3 * L - 2 * u)) (6 * r * u * (L - u)) (6 * r * (L - 2 * u))) ⟨by decide, (zEL.c (Or.inl rfl) zEL.n)⟩ (Or.inl ⟨_, _, _, _, rfl, rfl⟩) rfl rfl rfl (Nat.le_of_ble_eq_true rfl) ⟨rfl, rfl, Nat.le_of_ble_eq_true rfl, Nat.le_of_ble_eq_true rfl⟩ ⟨Nat.zero_le _, Nat.zero_le _⟩ (fun out hq => ?_)
  obtain rfl := hq
  refine Z_mem (show _ = eS (sd 4 L r s.2.2.2.2 u) from rfl) ?_
  refine Z_vret 38 rfl rfl ⟨Nat.le_refl _, Nat.le_refl _⟩ ?_
  exact ⟨rfl, rfl⟩
theorem c_S_quintic (l : Launch) (s : SS) (L r u : Int) : Con l M_S_standInQuintic R_S_standInQuintic 0 0 false [.ref 0, .long (lI L), .long (lI r), .long (lI u)] (eS s) (zAv (fun m => m = eS (sd 5 L r s.2.2.2.2 u))) := by
  refine Con.of_Z (by decide) D_S_standInQuintic (Nat.le_of_ble_eq_true rfl) ?_
  refine Z_lload_n 0 rfl rfl rfl ?_
  refine Z_lload_n 1 rfl rfl rfl ?_
  refine Z_lmul 2 rfl ?_
  refine Z_lstore 3 rfl (Nat.le_of_ble_eq_true rfl) (lv' := [(7, .long _), (0, .ref _), (1, .long _), (3, .long _), (5, .long _)]) rfl ?_
  refine Z_lload_n 4 rfl rfl rfl ?_
  refine Z_lload 5 rfl rfl ?_
  refine Z_lsub 6 rfl ?_
  refine Z_lstore 7 rfl (Nat.le_of_ble_eq_true rfl) (lv' := [(9, .long _), (7, .long _), (0, .ref _), (1, .long _), (3, .long _), (5, .long _)]) rfl ?_
  refine Z_aload_n 8 rfl rfl rfl ?_
  refine Z_lload 9 rfl rfl ?_
  refine Z_lload 10 rfl rfl ?_
  refine Z_lmul 11 rfl ?_
  refine Z_lload_n 12 rfl rfl rfl ?_
  refine Z_lmul 13 rfl ?_
  refine Z_lload_n 14 rfl rfl rfl ?_
  refine Z_lload 15 rfl rfl ?_
  refine Z_lmul 16 rfl ?_
  refine Z_lload 17 rfl rfl ?_
  refine Z_lmul 18 rfl ?_
  refine Z_lload 19 rfl rfl ?_
  refine Z_lmul 20 rfl ?_
  refine Z_ldc2 21 rfl k_S_52 (c := 10) rfl ?_
  refine Z_lload 22 rfl rfl ?_
  refine Z_lmul 23 rfl ?_
  refine Z_ldc2 24 rfl k_S_54 (c := 15) rfl ?_
  refine Z_lload 25 rfl rfl ?_
  refine Z_lmul 26 rfl ?_
  refine Z_lload_n 27 rfl rfl rfl ?_
  refine Z_lmul 28 rfl ?_
  refine Z_lsub 29 rfl ?_
  refine Z_ldc2 30 rfl k_S_50 (c := 6) rfl ?_
  refine Z_lload 31 rfl rfl ?_
  refine Z_lmul 32 rfl ?_
  refine Z_lload 33 rfl rfl ?_
  refine Z_lmul 34 rfl ?_
  refine Z_ladd 35 rfl ?_
  refine Z_lmul 36 rfl ?_
  refine Z_ldc2 37 rfl k_S_56 (c := 30) rfl ?_
  refine Z_lload_n 38 rfl rfl rfl ?_
  refine Z_lmul 39 rfl ?_
  refine Z_lload 40 rfl rfl ?_
  refine Z_lmul 41 rfl ?_
  refine Z_lload 42 rfl rfl ?_
  refine Z_lmul 43 rfl ?_
  refine Z_lload 44 rfl rfl ?_
  refine Z_lmul 45 rfl ?_
  refine Z_lload 46 rfl rfl ?_
  refine Z_lmul 47 rfl ?_
  refine Z_ldc2 48 rfl k_S_58 (c := 60) rfl ?_
  refine Z_lload_n 49 rfl rfl rfl ?_
  refine Z_lmul 50 rfl ?_
  refine Z_lload 51 rfl rfl ?_
  refine Z_lmul 52 rfl ?_
  refine Z_lload 53 rfl rfl ?_
  refine Z_lmul 54 rfl ?_
  refine Z_lload 55 rfl rfl ?_
  refine Z_lload 56 rfl rfl ?_
  refine Z_lsub 57 rfl ?_
  refine Z_lmul 58 rfl ?_
  refine Z_callVv (M' := M_S_write) 59 [0] rfl l_S_35 C_S_write (c_S_write l s _ _ _ _) ⟨by decide, (zEL.c (Or.inl rfl) zEL.n)⟩ (Or.inl ⟨_, _, _, _, rfl, rfl⟩) rfl rfl rfl (Nat.le_of_ble_eq_true rfl) ⟨rfl, rfl, Nat.le_of_ble_eq_true rfl, Nat.le_of_ble_eq_true rfl⟩ ⟨Nat.zero_le _, Nat.zero_le _⟩ (fun out hq => ?_)
  obtain rfl := hq
  refine Z_mem (show _ = eS (sd 5 L r s.2.2.2.2 u) from rfl) ?_
  refine Z_vret 60 rfl rfl ⟨Nat.le_refl _, Nat.le_refl _⟩ ?_
  exact ⟨rfl, rfl⟩
theorem c_S_lift (l : Launch) (s : SS) : Con l M_S_lift R_S_lift 0 0 false [.ref 0] (eS s) (zAl (lf s) (fun m => m = eS s)) := by
  refine Con.of_Z (by decide) D_S_lift (Nat.le_of_ble_eq_true rfl) ?_
  refine Z_aload_n 0 rfl rfl rfl ?_
  refine Z_get 1 rfl f_S_24 rfl rfl ?_
  refine Z_aload_n 2 rfl rfl rfl ?_
  refine Z_get 3 rfl f_S_9 rfl rfl ?_
  refine Z_lmul 4 rfl ?_
  refine Z_aload_n 5 rfl rfl rfl ?_
  refine Z_get 6 rfl f_S_15 rfl rfl ?_
  refine Z_ladd 7 rfl ?_
  refine Z_lret 8 rfl rfl ⟨Nat.le_refl _, Nat.le_refl _⟩ ?_
  exact ⟨rfl, rfl⟩
theorem sd_o {k L r a u : Int} (h : k < 1 ∨ 5 < k) : sd k L r a u = (1, 0, 0, 0, a) := by
  unfold sd
  rw [if_neg (by omega), if_neg (by omega), if_neg (by omega), if_neg (by omega), if_neg (by omega)]
theorem c_S_stand (l : Launch) (s : SS) (k L r a u : Int) (hk : inI k) : Con l M_S_stand R_S_stand 0 0 false [.ref 0, .int (iI k), .long (lI L), .long (lI r), .long (lI a), .long (lI u)] (eS s) (zAv (fun m => m = eS (sd k L r a u))) := by
  refine Con.of_Z (by decide) D_S_stand (Nat.le_of_ble_eq_true rfl) ?_
  refine Z_aload_n 0 rfl rfl rfl ?_
  refine Z_lload 1 rfl rfl ?_
  refine Z_put 2 rfl f_S_24 rfl (Nat.le_of_ble_eq_true rfl) (fun _ => ⟨rfl, rfl⟩) (fs' := []) (mem' := eS (s.1, s.2.1, s.2.2.1, s.2.2.2.1, a)) rfl ?_
  refine Z_iload_n 3 rfl rfl rfl ?_
  rcases Classical.em (k < 1 ∨ 5 < k) with cs | cs
  · refine Z_tabOut 4 rfl hk cs (tgt := 154) rfl ?_
    refine Z_aload_n 70 rfl rfl rfl ?_
    refine Z_lconst 71 rfl ?_
    refine Z_lconst 72 rfl ?_
    refine Z_lconst 73 rfl ?_
    refine Z_lconst 74 rfl ?_
    refine Z_callVv (M' := M_S_write) 75 [0] rfl l_S_35 C_S_write (c_S_write l (s.1, s.2.1, s.2.2.1, s.2.2.2.1, a) _ _ _ _) ⟨by decide, (zEL.c (Or.inl rfl) zEL.n)⟩ (Or.inl ⟨_, _, _, _, rfl, rfl⟩) rfl rfl rfl (Nat.le_of_ble_eq_true rfl) ⟨rfl, rfl, Nat.le_of_ble_eq_true rfl, Nat.le_of_ble_eq_true rfl⟩ ⟨Nat.zero_le _, Nat.zero_le _⟩ (fun out hq => ?_)
    obtain rfl := hq
    refine Z_vret 76 rfl rfl ⟨Nat.le_refl _, Nat.le_refl _⟩ ?_
    first | (subst cs; exact ⟨rfl, rfl⟩) | (rw [sd_o cs]; exact ⟨rfl, rfl⟩)
  rcases (show k = 1 ∨ k = 2 ∨ k = 3 ∨ k = 4 ∨ k = 5 by omega) with cs | cs | cs | cs | cs
  · refine Z_ci cs ?_
    refine Z_tabIn 4 rfl (by decide) (by decide) (by decide) (off := 33) rfl (tgt := 40) rfl ?_
    refine Z_aload_n 5 rfl rfl rfl ?_
    refine Z_lload_n 6 rfl rfl rfl ?_
    refine Z_lload 7 rfl rfl ?_
    refine Z_lload 8 rfl rfl ?_
    refine Z_lmul 9 rfl ?_
    refine Z_lload 10 rfl rfl ?_
    refine Z_lconst 11 rfl ?_
    refine Z_callVv (M' := M_S_write) 12 [0] rfl l_S_35 C_S_write (c_S_write l (s.1, s.2.1, s.2.2.1, s.2.2.2.1, a) _ _ _ _) ⟨by decide, (zEL.c (Or.inl rfl) zEL.n)⟩ (Or.inl ⟨_, _, _, _, rfl, rfl⟩) rfl rfl rfl (Nat.le_of_ble_eq_true rfl) ⟨rfl, rfl, Nat.le_of_ble_eq_true rfl, Nat.le_of_ble_eq_true rfl⟩ ⟨Nat.zero_le _, Nat.zero_le _⟩ (fun out hq => ?_)
    obtain rfl := hq
    refine Z_goto 13 rfl (tgt := 162) rfl ?_
    refine Z_vret 76 rfl rfl ⟨Nat.le_refl _, Nat.le_refl _⟩ ?_
    first | (subst cs; exact ⟨rfl, rfl⟩) | (rw [sd_o cs]; exact ⟨rfl, rfl⟩)
  · refine Z_ci cs ?_
    refine Z_tabIn 4 rfl (by decide) (by decide) (by decide) (off := 49) rfl (tgt := 56) rfl ?_
    refine Z_aload_n 14 rfl rfl rfl ?_
    refine Z_lload_n 15 rfl rfl rfl ?_
    refine Z_lload_n 16 rfl rfl rfl ?_
    refine Z_lmul 17 rfl ?_
    refine Z_lload 18 rfl rfl ?_
    refine Z_lload 19 rfl rfl ?_
    refine Z_lmul 20 rfl ?_
    refine Z_lload 21 rfl rfl ?_
    refine Z_lmul 22 rfl ?_
    refine Z_ldc2 23 rfl k_S_27 (c := 2) rfl ?_
    refine Z_lload 24 rfl rfl ?_
    refine Z_lmul 25 rfl ?_
    refine Z_lload 26 rfl rfl ?_
    refine Z_lmul 27 rfl ?_
    refine Z_ldc2 28 rfl k_S_27 (c := 2) rfl ?_
    refine Z_lload 29 rfl rfl ?_
    refine Z_lmul 30 rfl ?_
    refine Z_callVv (M' := M_S_write) 31 [0] rfl l_S_35 C_S_write (c_S_write l (s.1, s.2.1, s.2.2.1, s.2.2.2.1, a) _ _ _ _) ⟨by decide, (zEL.c (Or.inl rfl) zEL.n)⟩ (Or.inl ⟨_, _, _, _, rfl, rfl⟩) rfl rfl rfl (Nat.le_of_ble_eq_true rfl) ⟨rfl, rfl, Nat.le_of_ble_eq_true rfl, Nat.le_of_ble_eq_true rfl⟩ ⟨Nat.zero_le _, Nat.zero_le _⟩ (fun out hq => ?_)
    obtain rfl := hq
    refine Z_goto 32 rfl (tgt := 162) rfl ?_
    refine Z_vret 76 rfl rfl ⟨Nat.le_refl _, Nat.le_refl _⟩ ?_
    first | (subst cs; exact ⟨rfl, rfl⟩) | (rw [sd_o cs]; exact ⟨rfl, rfl⟩)
  · refine Z_ci cs ?_
    refine Z_tabIn 4 rfl (by decide) (by decide) (by decide) (off := 82) rfl (tgt := 89) rfl ?_
    refine Z_aload_n 33 rfl rfl rfl ?_
    refine Z_lload_n 34 rfl rfl rfl ?_
    refine Z_lload_n 35 rfl rfl rfl ?_
    refine Z_lmul 36 rfl ?_
    refine Z_lload 37 rfl rfl ?_
    refine Z_lload 38 rfl rfl ?_
    refine Z_lmul 39 rfl ?_
    refine Z_ldc2 40 rfl k_S_27 (c := 2) rfl ?_
    refine Z_lload_n 41 rfl rfl rfl ?_
    refine Z_lmul 42 rfl ?_
    refine Z_lload 43 rfl rfl ?_
    refine Z_lsub 44 rfl ?_
    refine Z_lmul 45 rfl ?_
    refine Z_ldc2 46 rfl k_S_27 (c := 2) rfl ?_
    refine Z_lload 47 rfl rfl ?_
    refine Z_lmul 48 rfl ?_
    refine Z_lload_n 49 rfl rfl rfl ?_
    refine Z_lload 50 rfl rfl ?_
    refine Z_lsub 51 rfl ?_
    refine Z_lmul 52 rfl ?_
    refine Z_ldc2 53 rfl k_S_39 (c := -2) rfl ?_
    refine Z_lload 54 rfl rfl ?_
    refine Z_lmul 55 rfl ?_
    refine Z_callVv (M' := M_S_write) 56 [0] rfl l_S_35 C_S_write (c_S_write l (s.1, s.2.1, s.2.2.1, s.2.2.2.1, a) _ _ _ _) ⟨by decide, (zEL.c (Or.inl rfl) zEL.n)⟩ (Or.inl ⟨_, _, _, _, rfl, rfl⟩) rfl rfl rfl (Nat.le_of_ble_eq_true rfl) ⟨rfl, rfl, Nat.le_of_ble_eq_true rfl, Nat.le_of_ble_eq_true rfl⟩ ⟨Nat.zero_le _, Nat.zero_le _⟩ (fun out hq => ?_)
    obtain rfl := hq
    refine Z_goto 57 rfl (tgt := 162) rfl ?_
    refine Z_vret 76 rfl rfl ⟨Nat.le_refl _, Nat.le_refl _⟩ ?_
    first | (subst cs; exact ⟨rfl, rfl⟩) | (rw [sd_o cs]; exact ⟨rfl, rfl⟩)
  · refine Z_ci cs ?_
    refine Z_tabIn 4 rfl (by decide) (by decide) (by decide) (off := 123) rfl (tgt := 130) rfl ?_
    refine Z_aload_n 58 rfl rfl rfl ?_
    refine Z_lload_n 59 rfl rfl rfl ?_
    refine Z_lload 60 rfl rfl ?_
    refine Z_lload 61 rfl rfl ?_
    refine Z_callVv (M' := M_S_standInCubic) 62 [0] rfl l_S_41 C_S_standInCubic (c_S_cubic l (s.1, s.2.1, s.2.2.1, s.2.2.2.1, a) L r u) ⟨by decide, (zEL.c (Or.inl rfl) zEL.n)⟩ (Or.inl ⟨_, _, _, _, rfl, rfl⟩) rfl rfl rfl (Nat.le_of_ble_eq_true rfl) ⟨rfl, rfl, Nat.le_of_ble_eq_true rfl, Nat.le_of_ble_eq_true rfl⟩ ⟨Nat.zero_le _, Nat.zero_le _⟩ (fun out hq => ?_)
    obtain rfl := hq
    refine Z_goto 63 rfl (tgt := 162) rfl ?_
    refine Z_vret 76 rfl rfl ⟨Nat.le_refl _, Nat.le_refl _⟩ ?_
    first | (subst cs; exact ⟨rfl, rfl⟩) | (rw [sd_o cs]; exact ⟨rfl, rfl⟩)
  · refine Z_ci cs ?_
    refine Z_tabIn 4 rfl (by decide) (by decide) (by decide) (off := 135) rfl (tgt := 142) rfl ?_
    refine Z_aload_n 64 rfl rfl rfl ?_
    refine Z_lload_n 65 rfl rfl rfl ?_
    refine Z_lload 66 rfl rfl ?_
    refine Z_lload 67 rfl rfl ?_
    refine Z_callVv (M' := M_S_standInQuintic) 68 [0] rfl l_S_45 C_S_standInQuintic (c_S_quintic l (s.1, s.2.1, s.2.2.1, s.2.2.2.1, a) L r u) ⟨by decide, (zEL.c (Or.inl rfl) zEL.n)⟩ (Or.inl ⟨_, _, _, _, rfl, rfl⟩) rfl rfl rfl (Nat.le_of_ble_eq_true rfl) ⟨rfl, rfl, Nat.le_of_ble_eq_true rfl, Nat.le_of_ble_eq_true rfl⟩ ⟨Nat.zero_le _, Nat.zero_le _⟩ (fun out hq => ?_)
    obtain rfl := hq
    refine Z_goto 69 rfl (tgt := 162) rfl ?_
    refine Z_vret 76 rfl rfl ⟨Nat.le_refl _, Nat.le_refl _⟩ ?_
    first | (subst cs; exact ⟨rfl, rfl⟩) | (rw [sd_o cs]; exact ⟨rfl, rfl⟩)
/-- a sample -/
def smp (s : SS) (g : Int) : Int := s.2.2.2.2 * g + (2 * g * s.2.1 + s.1) / (2 * s.1)
theorem c_S_sampled (l : Launch) (s : SS) (g : Int) (h0 : 0 < s.1 ∧ s.1 ≤ 4611686018427387903) (h1 : inL (2 * g * s.2.1 + s.1)) : Con l M_S_sampled R_S_sampled 0 0 false [.ref 0, .long (lI g)] (eS s) (zAl (smp s g) (fun m => m = eS s)) := by
  refine Con.of_Z (by decide) D_S_sampled (Nat.le_of_ble_eq_true rfl) ?_
  refine Z_aload_n 0 rfl rfl rfl ?_
  refine Z_get 1 rfl f_S_9 rfl rfl ?_
  refine Z_lconst 2 rfl ?_
  refine Z_lc_le 3 rfl rfl (tgt := 45) rfl (by omega) (by omega) (fun c5 => ?_) (fun c5 => ?_)
  · exfalso; omega
  refine Z_aload_n 5 rfl rfl rfl ?_
  refine Z_get 6 rfl f_S_24 rfl rfl ?_
  refine Z_lload_n 7 rfl rfl rfl ?_
  refine Z_lmul 8 rfl ?_
  refine Z_ldc2 9 rfl k_S_27 (c := 2) rfl ?_
  refine Z_lload_n 10 rfl rfl rfl ?_
  refine Z_lmul 11 rfl ?_
  refine Z_aload_n 12 rfl rfl rfl ?_
  refine Z_get 13 rfl f_S_15 rfl rfl ?_
  refine Z_lmul 14 rfl ?_
  refine Z_aload_n 15 rfl rfl rfl ?_
  refine Z_get 16 rfl f_S_9 rfl rfl ?_
  refine Z_ladd 17 rfl ?_
  refine Z_ldc2 18 rfl k_S_27 (c := 2) rfl ?_
  refine Z_aload_n 19 rfl rfl rfl ?_
  refine Z_get 20 rfl f_S_9 rfl rfl ?_
  refine Z_lmul 21 rfl ?_
  refine Z_callSlp (M' := M_J9_floorDiv) 22 [] rfl l_S_29 C_J9_floorDiv (c_floorDiv l (2 * g * s.2.1 + s.1) (2 * s.1) h1 (by omega) (by omega)) ⟨List.nodup_nil, zEL.n⟩ rfl rfl rfl (Nat.le_of_ble_eq_true rfl) ⟨rfl, rfl, Nat.le_of_ble_eq_true rfl, Nat.le_of_ble_eq_true rfl⟩ ⟨Nat.zero_le _, Nat.zero_le _⟩ ?_
  refine Z_ladd 23 rfl ?_
  refine Z_goto 24 rfl (tgt := 46) rfl ?_
  refine Z_lret 26 rfl rfl ⟨Nat.le_refl _, Nat.le_refl _⟩ ?_
  exact ⟨rfl, rfl⟩
end
section
/-! Spot: against the numbers over LONG to the fifth; bounds -/
def o5 (L : Int) : Int := L * L * L * L * L
def shr (k u L : Int) : Int :=
  if k = 1 then u * L * L * L * L
  else if k = 2 then u * u * L * L * L
  else if k = 3 then (2 * u * L - u * u) * L * L * L
  else if k = 4 then (3 * u * u * L - 2 * u * u * u) * L * L
  else if k = 5 then 10 * u * u * u * L * L - 15 * u * u * u * u * L + 6 * o5 u
  else 0
def shs (k u L : Int) : Int :=
  if k = 1 then L * L * L * L
  else if k = 2 then 2 * u * L * L * L
  else if k = 3 then 2 * (L - u) * L * L * L
  else if k = 4 then 6 * u * (L - u) * L * L
  else if k = 5 then 30 * u * u * (L - u) * (L - u)
  else 0
def shb (k u L : Int) : Int :=
  if k = 2 then 2 * L * L * L
  else if k = 3 then -2 * L * L * L
  else if k = 4 then (6 * L - 12 * u) * L * L
  else if k = 5 then 60 * u * L * L - 180 * u * u * L + 120 * u * u * u
  else 0
/-- the factor between the two -/
def cf (k L : Int) : Int := if k = 1 then L * L * L * L else if k = 2 then L * L * L else if k = 3 then L * L * L else if k = 4 then L * L else if k = 5 then 1 else L * L * L * L * L
theorem kd_cases {P : Int → Prop} {k : Int} (h : 0 ≤ k ∧ k ≤ 5) (h0 : P 0) (h1 : P 1) (h2 : P 2) (h3 : P 3) (h4 : P 4) (h5 : P 5) : P k := by
  rcases (show k = 0 ∨ k = 1 ∨ k = 2 ∨ k = 3 ∨ k = 4 ∨ k = 5 by omega) with e | e | e | e | e | e <;> rw [e] <;> assumption
theorem sp_over (k L r a u : Int) (h : 0 ≤ k ∧ k ≤ 5) : o5 L = cf k L * (sd k L r a u).1 := by
  refine kd_cases (P := fun k => o5 L = cf k L * (sd k L r a u).1) h ?_ ?_ ?_ ?_ ?_ ?_ <;> simp [cf, sd, o5] <;> grind
theorem sp_gain (k L r a u : Int) (h : 0 ≤ k ∧ k ≤ 5) : r * shr k u L = cf k L * (sd k L r a u).2.1 := by
  refine kd_cases (P := fun k => r * shr k u L = cf k L * (sd k L r a u).2.1) h ?_ ?_ ?_ ?_ ?_ ?_ <;> simp [cf, sd, shr, o5] <;> grind
theorem sp_slope (k L r a u : Int) (h : 0 ≤ k ∧ k ≤ 5) : r * shs k u L = cf k L * (sd k L r a u).2.2.1 := by
  refine kd_cases (P := fun k => r * shs k u L = cf k L * (sd k L r a u).2.2.1) h ?_ ?_ ?_ ?_ ?_ ?_ <;> simp [cf, sd, shs] <;> grind
theorem sp_bend (k L r a u : Int) (h : 0 ≤ k ∧ k ≤ 5) : r * shb k u L = cf k L * (sd k L r a u).2.2.2.1 := by
  refine kd_cases (P := fun k => r * shb k u L = cf k L * (sd k L r a u).2.2.2.1) h ?_ ?_ ?_ ?_ ?_ ?_ <;> simp [cf, sd, shb] <;> grind
theorem sd_base (k L r a u : Int) : (sd k L r a u).2.2.2.2 = a := by
  unfold sd
  repeat' split
  all_goals rfl
theorem sp_lift (k L r a u : Int) (h : 0 ≤ k ∧ k ≤ 5) : a * o5 L + r * shr k u L = cf k L * lf (sd k L r a u) := by
  rw [sp_gain k L r a u h, sp_over k L r a u h]
  unfold lf
  rw [sd_base]
  grind
theorem mul_ab {x y A B : Int} (hx : -A ≤ x ∧ x ≤ A) (hy : -B ≤ y ∧ y ≤ B) : -(A * B) ≤ x * y ∧ x * y ≤ A * B := by
  have h1 : x.natAbs ≤ A.natAbs := by omega
  have h2 : y.natAbs ≤ B.natAbs := by omega
  have h3 := Nat.mul_le_mul h1 h2
  rw [← Int.natAbs_mul, ← Int.natAbs_mul] at h3
  have h4 := Int.mul_nonneg (show 0 ≤ A by omega) (show 0 ≤ B by omega)
  omega
theorem pos_L {L : Int} (h : 1 ≤ L) : 1 ≤ L * L ∧ 1 ≤ L * L * L ∧ 1 ≤ L * L * L * L ∧ 1 ≤ L * L * L * L * L := by
  have h2 := Int.mul_pos (show 0 < L by omega) (show 0 < L by omega)
  have h3 := Int.mul_pos h2 (show 0 < L by omega)
  have h4 := Int.mul_pos h3 (show 0 < L by omega)
  have h5 := Int.mul_pos h4 (show 0 < L by omega)
  omega
theorem cf_pos {k L : Int} (h : 1 ≤ L) : 1 ≤ cf k L := by
  have := pos_L h
  unfold cf
  repeat' split
  all_goals omega
theorem dv {c x A : Int} (h : 1 ≤ c) (h1 : -A ≤ c * x ∧ c * x ≤ A) : -A ≤ x ∧ x ≤ A := by
  rcases Int.le_total 0 x with h0 | h0
  · have := Int.mul_le_mul_of_nonneg_right h h0
    omega
  · have := Int.mul_le_mul_of_nonpos_right h h0
    omega
theorem o5_bd {L : Int} (h : 1 ≤ L ∧ L ≤ 360) : 1 ≤ o5 L ∧ o5 L ≤ 6046617600000 := by
  have h1 := pos_L h.1
  have a2 := mul_bd (A := 360) (B := 360) (x := L) (y := L) (by omega) (by omega)
  have a3 := mul_bd (x := L * L) (y := L) a2 (B := 360) (by omega)
  have a4 := mul_bd (x := L * L * L) (y := L) a3 (B := 360) (by omega)
  have a5 := mul_bd (x := L * L * L * L) (y := L) a4 (B := 360) (by omega)
  unfold o5
  omega
theorem id1 (u v : Int) : u * (u + v) * (u + v) * (u + v) * (u + v) = u * ((u + v) * (u + v) * (u + v) * (u + v)) ∧ o5 (u + v) = u * ((u + v) * (u + v) * (u + v) * (u + v)) + v * ((u + v) * (u + v) * (u + v) * (u + v)) := by
  unfold o5
  constructor <;> grind
theorem id2 (u v : Int) : u * u * (u + v) * (u + v) * (u + v) = u * u * ((u + v) * (u + v) * (u + v)) ∧ o5 (u + v) = u * u * ((u + v) * (u + v) * (u + v)) + (v * v + 2 * (u * v)) * ((u + v) * (u + v) * (u + v)) := by
  unfold o5
  constructor <;> grind
theorem id3 (u v : Int) : (2 * u * (u + v) - u * u) * (u + v) * (u + v) * (u + v) = (u * u + 2 * (u * v)) * ((u + v) * (u + v) * (u + v)) ∧ o5 (u + v) = (u * u + 2 * (u * v)) * ((u + v) * (u + v) * (u + v)) + v * v * ((u + v) * (u + v) * (u + v)) := by
  unfold o5
  constructor <;> grind
theorem id4 (u v : Int) : (3 * u * u * (u + v) - 2 * u * u * u) * (u + v) * (u + v) = u * u * (u + 3 * v) * ((u + v) * (u + v)) ∧ o5 (u + v) = u * u * (u + 3 * v) * ((u + v) * (u + v)) + v * v * (v + 3 * u) * ((u + v) * (u + v)) := by
  unfold o5
  constructor <;> grind
theorem id5 (u v : Int) : 10 * u * u * u * (u + v) * (u + v) - 15 * u * u * u * u * (u + v) + 6 * o5 u = u * u * u * (u * u + 5 * (u * v) + 10 * (v * v)) ∧ o5 (u + v) = u * u * u * (u * u + 5 * (u * v) + 10 * (v * v)) + v * v * v * (10 * (u * u) + 5 * (u * v) + v * v) := by
  unfold o5
  constructor <;> grind
theorem id_bd {x o A B : Int} (h : x = A ∧ o = A + B) (ha : 0 ≤ A) (hb : 0 ≤ B) : 0 ≤ x ∧ x ≤ o := by omega
/-- from nought to all -/
theorem shr_bd {k u L : Int} (hk : 0 ≤ k ∧ k ≤ 5) (hL : 1 ≤ L) (hu : 0 ≤ u ∧ u ≤ L) : 0 ≤ shr k u L ∧ shr k u L ≤ o5 L := by
  obtain ⟨v, rfl⟩ : ∃ v, L = u + v := ⟨L - u, by omega⟩
  have hv0 : 0 ≤ v := by omega
  have hL0 : 0 ≤ u + v := by omega
  have L2 := Int.mul_nonneg hL0 hL0
  have L3 := Int.mul_nonneg L2 hL0
  have L4 := Int.mul_nonneg L3 hL0
  have u2 := Int.mul_nonneg hu.1 hu.1
  have u3 := Int.mul_nonneg u2 hu.1
  have v2 := Int.mul_nonneg hv0 hv0
  have v3 := Int.mul_nonneg v2 hv0
  have uv := Int.mul_nonneg hu.1 hv0
  refine kd_cases (P := fun k => 0 ≤ shr k u (u + v) ∧ shr k u (u + v) ≤ o5 (u + v)) hk ?_ ?_ ?_ ?_ ?_ ?_
  · have := pos_L hL
    refine ⟨Int.le_refl _, ?_⟩
    show (0 : Int) ≤ _
    unfold o5
    omega
  · exact id_bd (id1 u v) (Int.mul_nonneg hu.1 L4) (Int.mul_nonneg hv0 L4)
  · exact id_bd (id2 u v) (Int.mul_nonneg u2 L3) (Int.mul_nonneg (by omega) L3)
  · exact id_bd (id3 u v) (Int.mul_nonneg (by omega) L3) (Int.mul_nonneg v2 L3)
  · exact id_bd (id4 u v) (Int.mul_nonneg (Int.mul_nonneg u2 (by omega)) L2) (Int.mul_nonneg (Int.mul_nonneg v2 (by omega)) L2)
  · exact id_bd (id5 u v) (Int.mul_nonneg u3 (by omega)) (Int.mul_nonneg v3 (by omega))
theorem shs_bd {k u L : Int} (hk : 0 ≤ k ∧ k ≤ 5) (hL : 1 ≤ L ∧ L ≤ 360) (hu : 0 ≤ u ∧ u ≤ L) : 0 ≤ shs k u L ∧ shs k u L ≤ 503884800000 := by
  have hv : 0 ≤ L - u ∧ L - u ≤ 360 := by omega
  have hU : 0 ≤ u ∧ u ≤ 360 := by omega
  have hL' : 0 ≤ L ∧ L ≤ 360 := by omega
  have m := @mul_bd
  have t2 : (0 : Int) ≤ 2 ∧ (2 : Int) ≤ 2 := by omega
  have t6 : (0 : Int) ≤ 6 ∧ (6 : Int) ≤ 6 := by omega
  have t30 : (0 : Int) ≤ 30 ∧ (30 : Int) ≤ 30 := by omega
  refine kd_cases (P := fun k => 0 ≤ shs k u L ∧ shs k u L ≤ 503884800000) hk ?_ ?_ ?_ ?_ ?_ ?_
  · show 0 ≤ (0 : Int) ∧ (0 : Int) ≤ _
    omega
  · show 0 ≤ L * L * L * L ∧ L * L * L * L ≤ _
    have a := m (m (m hL' hL') hL') hL'
    omega
  · show 0 ≤ 2 * u * L * L * L ∧ 2 * u * L * L * L ≤ _
    have a := m (m (m (m t2 hU) hL') hL') hL'
    omega
  · show 0 ≤ 2 * (L - u) * L * L * L ∧ 2 * (L - u) * L * L * L ≤ _
    have a := m (m (m (m t2 hv) hL') hL') hL'
    omega
  · show 0 ≤ 6 * u * (L - u) * L * L ∧ 6 * u * (L - u) * L * L ≤ _
    have a := m (m (m (m t6 hU) hv) hL') hL'
    omega
  · show 0 ≤ 30 * u * u * (L - u) * (L - u) ∧ 30 * u * u * (L - u) * (L - u) ≤ _
    have a := m (m (m (m t30 hU) hU) hv) hv
    omega
theorem ie1 (L : Int) : 2 * L * L * L = 2 * (L * L * L) := by grind
theorem ie2 (L : Int) : -2 * L * L * L = -2 * (L * L * L) := by grind
theorem ie3 (L u : Int) : (6 * L - 12 * u) * L * L = 6 * ((L - 2 * u) * (L * L)) := by grind
theorem ie4 (L u : Int) : 60 * u * L * L - 180 * u * u * L + 120 * u * u * u = 15 * (4 * (u * (L - u)) * (L - 2 * u)) := by grind
theorem ie5 (L u : Int) : 4 * (u * (L - u)) + (L - 2 * u) * (L - 2 * u) = L * L := by grind
theorem shb_bd {k u L : Int} (hk : 0 ≤ k ∧ k ≤ 5) (hL : 1 ≤ L ∧ L ≤ 360) (hu : 0 ≤ u ∧ u ≤ L) : -699840000 ≤ shb k u L ∧ shb k u L ≤ 699840000 := by
  have hL' : -360 ≤ L ∧ L ≤ 360 := by omega
  have m := @mul_ab
  have LL := m hL' hL'
  have LLL := m LL hL'
  have hw : -360 ≤ L - 2 * u ∧ L - 2 * u ≤ 360 := by omega
  refine kd_cases (P := fun k => -699840000 ≤ shb k u L ∧ shb k u L ≤ 699840000) hk ?_ ?_ ?_ ?_ ?_ ?_
  · show _ ≤ (0 : Int) ∧ (0 : Int) ≤ _
    omega
  · show _ ≤ (0 : Int) ∧ (0 : Int) ≤ _
    omega
  · show _ ≤ 2 * L * L * L ∧ 2 * L * L * L ≤ _
    have e := ie1 L
    omega
  · show _ ≤ -2 * L * L * L ∧ -2 * L * L * L ≤ _
    have e := ie2 L
    omega
  · show _ ≤ (6 * L - 12 * u) * L * L ∧ (6 * L - 12 * u) * L * L ≤ _
    have e := ie3 L u
    have a := m hw LL
    omega
  · show _ ≤ 60 * u * L * L - 180 * u * u * L + 120 * u * u * u ∧ 60 * u * L * L - 180 * u * u * L + 120 * u * u * u ≤ _
    have e := ie4 L u
    have b1 := Int.mul_nonneg hu.1 (show 0 ≤ L - u by omega)
    have b2 : 0 ≤ (L - 2 * u) * (L - 2 * u) := by
      rcases Int.le_total 0 (L - 2 * u) with h | h
      · exact Int.mul_nonneg h h
      · exact Int.mul_nonneg_of_nonpos_of_nonpos h h
    have b3 := ie5 L u
    have a := m (x := 4 * (u * (L - u))) (A := 129600) (by omega) hw
    omega
/-- what stays in a long -/
def SBd (s : SS) : Prop := (1 ≤ s.1 ∧ s.1 ≤ 6046617600000) ∧ (-598615142400000 ≤ s.2.1 ∧ s.2.1 ≤ 598615142400000) ∧ (-7781996851200000 ≤ lf s ∧ lf s ≤ 7781996851200000) ∧ (-49884595200000 ≤ s.2.2.1 ∧ s.2.2.1 ≤ 49884595200000) ∧ (-69284160000 ≤ s.2.2.2.1 ∧ s.2.2.2.1 ≤ 69284160000) ∧ (-1188 ≤ s.2.2.2.2 ∧ s.2.2.2.2 ≤ 1188)
theorem sd_bd {k L r a u : Int} (hk : 0 ≤ k ∧ k ≤ 5) (hL : 1 ≤ L ∧ L ≤ 360) (hr : -99 ≤ r ∧ r ≤ 99) (ha : -1188 ≤ a ∧ a ≤ 1188) (hu : 0 ≤ u ∧ u ≤ L) : SBd (sd k L r a u) := by
  have hc := cf_pos (k := k) hL.1
  have h5 := o5_bd hL
  have e1 := sp_over k L r a u hk
  have e2 := sp_gain k L r a u hk
  have e3 := sp_lift k L r a u hk
  have e4 := sp_slope k L r a u hk
  have e5 := sp_bend k L r a u hk
  have b2 := shr_bd hk hL.1 hu
  have b3 := shs_bd hk hL hu
  have b4 := shb_bd hk hL hu
  have r2 := mul_ab hr (show -6046617600000 ≤ shr k u L ∧ shr k u L ≤ 6046617600000 by omega)
  have r3 := mul_ab hr (show -503884800000 ≤ shs k u L ∧ shs k u L ≤ 503884800000 by omega)
  have r4 := mul_ab hr b4
  have r5 := mul_ab ha (show -6046617600000 ≤ o5 L ∧ o5 L ≤ 6046617600000 by omega)
  have p1 : 1 ≤ (sd k L r a u).1 := by
    rcases Int.lt_or_le 0 (sd k L r a u).1 with h | h
    · omega
    · have := Int.mul_nonpos_of_nonneg_of_nonpos (show 0 ≤ cf k L by omega) h
      omega
  have d1 := dv (x := (sd k L r a u).1) (A := 6046617600000) hc (by omega)
  have d2 := dv (x := (sd k L r a u).2.1) (A := 598615142400000) hc (by omega)
  have d3 := dv (x := lf (sd k L r a u)) (A := 7781996851200000) hc (by omega)
  have d4 := dv (x := (sd k L r a u).2.2.1) (A := 49884595200000) hc (by omega)
  have d5 := dv (x := (sd k L r a u).2.2.2.1) (A := 69284160000) hc (by omega)
  refine ⟨⟨p1, d1.2⟩, d2, d3, d4, d5, ?_⟩
  rw [sd_base]
  exact ha
end
section
/-! Walk: angle, index, begin, base, u, whether closed -/
abbrev WW : Type := Int × Int × Int × Int × Int × Int
def oK6 (a i b c u d : Int) : zE := zO 6 [.int (iI a), .int (iI i), .int (iI b), .int (iI c), .int (iI u), .int (iI d)]
def oK (w : WW) : zE := zO 6 [.int (iI w.1), .int (iI w.2.1), .int (iI w.2.2.1), .int (iI w.2.2.2.1), .int (iI w.2.2.2.2.1), .int (iI w.2.2.2.2.2)]
def oS (s : SS) : zE := zO 4 [.long (lI s.1), .long (lI s.2.1), .long (lI s.2.2.1), .long (lI s.2.2.2.1), .long (lI s.2.2.2.2)]
def eTS (t : TT) (s : SS) : List zE := [zO 5 [.ref 1, .ref 2, .ref 3, .int (iI t.2.2.2)], aI 12 t.1, aI 12 t.2.1, aI 12 t.2.2.1, oS s]
def eK (w : WW) (t : TT) (s : SS) : List zE := [oK w, zO 5 [.ref 2, .ref 3, .ref 4, .int (iI t.2.2.2)], aI 12 t.1, aI 12 t.2.1, aI 12 t.2.2.1, oS s]
def eKT (w : WW) (t : TT) : List zE := [oK w, zO 5 [.ref 2, .ref 3, .ref 4, .int (iI t.2.2.2)], aI 12 t.1, aI 12 t.2.1, aI 12 t.2.2.1]
/-- a train as it may be -/
def TV (t : TT) : Prop := TB t ∧ tot t ≤ 360 ∧ ∀ k, 0 ≤ k → k < t.2.2.2 → mb (t.1 k) (t.2.1 k) (t.2.2.1 k)
/-- the spot so far in a piece -/
def pl (t : TT) (k u : Int) : SS := sd (t.1 k) (t.2.1 k) (t.2.2.1 k) (ah t k) u
theorem c_K_stand (l : Launch) (t : TT) (h : TB t) (s : SS) (k a u : Int) (hk : 0 ≤ k ∧ k < 12) (ha : inI a) (hu : inI u) : Con l M_K_stand R_K_stand 0 0 false [.ref 0, .ref 4, .int (iI k), .int (iI a), .int (iI u)] (eTS t s) (zAv (fun m => m = eTS t (sd (t.1 k) (t.2.1 k) (t.2.2.1 k) a u))) := by
  have b1 := h.2.1 k
  have b2 := h.2.2.1 k
  have b3 := h.2.2.2 k
  refine Con.of_Z (by decide) D_K_stand (Nat.le_of_ble_eq_true rfl) ?_
  refine Z_aload_n 0 rfl rfl rfl ?_
  refine Z_aload_n 1 rfl rfl rfl ?_
  refine Z_iload_n 2 rfl rfl rfl ?_
  refine Z_callVip (M' := M_T_kindOf) 3 [0, 1, 2, 3] rfl l_K_53 C_T_kindOf (c_T_kindOf l t k hk) ⟨by decide, (zEL.c (Or.inl rfl) (zEL.c (Or.inl rfl) (zEL.c (Or.inl rfl) (zEL.c (Or.inl rfl) zEL.n))))⟩ (Or.inl ⟨_, _, _, _, rfl, rfl⟩) rfl rfl rfl (Nat.le_of_ble_eq_true rfl) ⟨rfl, rfl, Nat.le_of_ble_eq_true rfl, Nat.le_of_ble_eq_true rfl⟩ ⟨Nat.zero_le _, Nat.zero_le _⟩ ?_
  refine Z_aload_n 4 rfl rfl rfl ?_
  refine Z_iload_n 5 rfl rfl rfl ?_
  refine Z_callVip (M' := M_T_longOf) 6 [0, 1, 2, 3] rfl l_K_42 C_T_longOf (c_T_longOf l t k hk) ⟨by decide, (zEL.c (Or.inl rfl) (zEL.c (Or.inl rfl) (zEL.c (Or.inl rfl) (zEL.c (Or.inl rfl) zEL.n))))⟩ (Or.inl ⟨_, _, _, _, rfl, rfl⟩) rfl rfl rfl (Nat.le_of_ble_eq_true rfl) ⟨rfl, rfl, Nat.le_of_ble_eq_true rfl, Nat.le_of_ble_eq_true rfl⟩ ⟨Nat.zero_le _, Nat.zero_le _⟩ ?_
  refine Z_i2l 7 rfl (by omega) ?_
  refine Z_aload_n 8 rfl rfl rfl ?_
  refine Z_iload_n 9 rfl rfl rfl ?_
  refine Z_callVip (M' := M_T_riseOf) 10 [0, 1, 2, 3] rfl l_K_38 C_T_riseOf (c_T_riseOf l t k hk) ⟨by decide, (zEL.c (Or.inl rfl) (zEL.c (Or.inl rfl) (zEL.c (Or.inl rfl) (zEL.c (Or.inl rfl) zEL.n))))⟩ (Or.inl ⟨_, _, _, _, rfl, rfl⟩) rfl rfl rfl (Nat.le_of_ble_eq_true rfl) ⟨rfl, rfl, Nat.le_of_ble_eq_true rfl, Nat.le_of_ble_eq_true rfl⟩ ⟨Nat.zero_le _, Nat.zero_le _⟩ ?_
  refine Z_i2l 11 rfl (by omega) ?_
  refine Z_iload_n 12 rfl rfl rfl ?_
  refine Z_i2l 13 rfl (by omega) ?_
  refine Z_iload 14 rfl rfl ?_
  refine Z_i2l 15 rfl (by omega) ?_
  refine Z_callVv (M' := M_S_stand) 16 [4] rfl l_K_56 C_S_stand (c_S_stand l s (t.1 k) (t.2.1 k) (t.2.2.1 k) a u (by omega)) ⟨by decide, (zEL.c (Or.inl rfl) zEL.n)⟩ (Or.inl ⟨_, _, _, _, rfl, rfl⟩) rfl rfl rfl (Nat.le_of_ble_eq_true rfl) ⟨rfl, rfl, Nat.le_of_ble_eq_true rfl, Nat.le_of_ble_eq_true rfl⟩ ⟨Nat.zero_le _, Nat.zero_le _⟩ (fun out hq => ?_)
  obtain rfl := hq
  refine Z_mem (show _ = eTS t (sd (t.1 k) (t.2.1 k) (t.2.2.1 k) a u) from rfl) ?_
  refine Z_vret 17 rfl rfl ⟨Nat.le_refl _, Nat.le_refl _⟩ ?_
  exact ⟨rfl, rfl⟩
noncomputable def wk0 (t : TT) : WW := (0, -bI (clo t), 0, 0, 0, bI (clo t))
theorem c_K_start (l : Launch) (t : TT) (h : TB t) (w : WW) : Con l M_K_start R_K_start 0 0 false [.ref 0, .ref 1] (eKT w t) (zAv (fun m => m = eKT (wk0 t) t)) := by
  have hb := bI_01 (clo t)
  refine Con.of_Z (by decide) D_K_start (Nat.le_of_ble_eq_true rfl) ?_
  refine Z_aload_n 0 rfl rfl rfl ?_
  refine Z_aload_n 1 rfl rfl rfl ?_
  refine Z_callVbp (M' := M_T_isClosed) 2 [1, 2, 3, 4] rfl l_K_29 C_T_isClosed (c_T_isClosed l t h) ⟨by decide, (zEL.c (Or.inl rfl) (zEL.c (Or.inl rfl) (zEL.c (Or.inl rfl) (zEL.c (Or.inl rfl) zEL.n))))⟩ (Or.inl ⟨_, _, _, _, rfl, rfl⟩) rfl rfl rfl (Nat.le_of_ble_eq_true rfl) ⟨rfl, rfl, Nat.le_of_ble_eq_true rfl, Nat.le_of_ble_eq_true rfl⟩ ⟨Nat.zero_le _, Nat.zero_le _⟩ ?_
  refine Z_put 3 rfl f_K_25 rfl (Nat.le_of_ble_eq_true rfl) (fun _ => ⟨bI_nar _, bI_fit _⟩) (fs' := []) (mem' := eKT (w.1, w.2.1, w.2.2.1, w.2.2.2.1, w.2.2.2.2.1, bI (clo t)) t) rfl ?_
  refine Z_aload_n 4 rfl rfl rfl ?_
  refine Z_aload_n 5 rfl rfl rfl ?_
  refine Z_get 6 rfl f_K_25 rfl rfl ?_
  refine Z_ifb_eq 7 rfl (tgt := 20) rfl (fun c13 => ?_) (fun c13 => ?_)
  · refine Z_iconst 10 rfl ?_
    refine Z_ci (show _ = -bI (clo t) by first | (rw [bI_t c13] <;> rfl) | (rw [bI_f c13] <;> rfl)) ?_
    refine Z_put 11 rfl f_K_13 rfl (Nat.le_of_ble_eq_true rfl) (fun _ => ⟨rfl, rfl⟩) (fs' := []) (mem' := eKT (w.1, -bI (clo t), w.2.2.1, w.2.2.2.1, w.2.2.2.2.1, bI (clo t)) t) rfl ?_
    refine Z_aload_n 12 rfl rfl rfl ?_
    refine Z_iconst 13 rfl ?_
    refine Z_put 14 rfl f_K_7 rfl (Nat.le_of_ble_eq_true rfl) (fun _ => ⟨rfl, rfl⟩) (fs' := []) (mem' := eKT (0, -bI (clo t), w.2.2.1, w.2.2.2.1, w.2.2.2.2.1, bI (clo t)) t) rfl ?_
    refine Z_aload_n 15 rfl rfl rfl ?_
    refine Z_iconst 16 rfl ?_
    refine Z_put 17 rfl f_K_16 rfl (Nat.le_of_ble_eq_true rfl) (fun _ => ⟨rfl, rfl⟩) (fs' := []) (mem' := eKT (0, -bI (clo t), 0, w.2.2.2.1, w.2.2.2.2.1, bI (clo t)) t) rfl ?_
    refine Z_aload_n 18 rfl rfl rfl ?_
    refine Z_iconst 19 rfl ?_
    refine Z_put 20 rfl f_K_19 rfl (Nat.le_of_ble_eq_true rfl) (fun _ => ⟨rfl, rfl⟩) (fs' := []) (mem' := eKT (0, -bI (clo t), 0, 0, w.2.2.2.2.1, bI (clo t)) t) rfl ?_
    refine Z_aload_n 21 rfl rfl rfl ?_
    refine Z_iconst 22 rfl ?_
    refine Z_put 23 rfl f_K_22 rfl (Nat.le_of_ble_eq_true rfl) (fun _ => ⟨rfl, rfl⟩) (fs' := []) (mem' := eKT (wk0 t) t) rfl ?_
    refine Z_vret 24 rfl rfl ⟨Nat.le_refl _, Nat.le_refl _⟩ ?_
    exact ⟨rfl, rfl⟩
  · refine Z_iconst 8 rfl ?_
    refine Z_goto 9 rfl (tgt := 21) rfl ?_
    refine Z_ci (show _ = -bI (clo t) by first | (rw [bI_t c13] <;> rfl) | (rw [bI_f c13] <;> rfl)) ?_
    refine Z_put 11 rfl f_K_13 rfl (Nat.le_of_ble_eq_true rfl) (fun _ => ⟨rfl, rfl⟩) (fs' := []) (mem' := eKT (w.1, -bI (clo t), w.2.2.1, w.2.2.2.1, w.2.2.2.2.1, bI (clo t)) t) rfl ?_
    refine Z_aload_n 12 rfl rfl rfl ?_
    refine Z_iconst 13 rfl ?_
    refine Z_put 14 rfl f_K_7 rfl (Nat.le_of_ble_eq_true rfl) (fun _ => ⟨rfl, rfl⟩) (fs' := []) (mem' := eKT (0, -bI (clo t), w.2.2.1, w.2.2.2.1, w.2.2.2.2.1, bI (clo t)) t) rfl ?_
    refine Z_aload_n 15 rfl rfl rfl ?_
    refine Z_iconst 16 rfl ?_
    refine Z_put 17 rfl f_K_16 rfl (Nat.le_of_ble_eq_true rfl) (fun _ => ⟨rfl, rfl⟩) (fs' := []) (mem' := eKT (0, -bI (clo t), 0, w.2.2.2.1, w.2.2.2.2.1, bI (clo t)) t) rfl ?_
    refine Z_aload_n 18 rfl rfl rfl ?_
    refine Z_iconst 19 rfl ?_
    refine Z_put 20 rfl f_K_19 rfl (Nat.le_of_ble_eq_true rfl) (fun _ => ⟨rfl, rfl⟩) (fs' := []) (mem' := eKT (0, -bI (clo t), 0, 0, w.2.2.2.2.1, bI (clo t)) t) rfl ?_
    refine Z_aload_n 21 rfl rfl rfl ?_
    refine Z_iconst 22 rfl ?_
    refine Z_put 23 rfl f_K_22 rfl (Nat.le_of_ble_eq_true rfl) (fun _ => ⟨rfl, rfl⟩) (fs' := []) (mem' := eKT (wk0 t) t) rfl ?_
    refine Z_vret 24 rfl rfl ⟨Nat.le_refl _, Nat.le_refl _⟩ ?_
    exact ⟨rfl, rfl⟩
def stp1 (w : WW) (n r : Int) : WW := if w.2.2.2.2.1 + 1 ≤ n then (w.1, w.2.1, w.2.2.1, w.2.2.2.1, w.2.2.2.2.1 + 1, w.2.2.2.2.2) else (w.1, w.2.1 + 1, w.2.2.1 + n, w.2.2.2.1 + r, 0, w.2.2.2.2.2)
theorem c_K_stepOn (l : Launch) (w : WW) (n r : Int) (hu : 0 ≤ w.2.2.2.2.1 ∧ w.2.2.2.2.1 ≤ 1000) (hn : inI n) : Con l M_K_stepOn R_K_stepOn 0 0 false [.ref 0, .int (iI n), .int (iI r)] [oK w] (zAv (fun m => m = [oK (stp1 w n r)])) := by
  refine Con.of_Z (by decide) D_K_stepOn (Nat.le_of_ble_eq_true rfl) ?_
  refine Z_aload_n 0 rfl rfl rfl ?_
  refine Z_dup 1 rfl rfl ?_
  refine Z_get 2 rfl f_K_22 rfl rfl ?_
  refine Z_iconst 3 rfl ?_
  refine Z_iadd 4 rfl ?_
  refine Z_put 5 rfl f_K_22 rfl (Nat.le_of_ble_eq_true rfl) (fun _ => ⟨rfl, rfl⟩) (fs' := []) (mem' := [oK6 w.1 w.2.1 w.2.2.1 w.2.2.2.1 (w.2.2.2.2.1 + 1) w.2.2.2.2.2]) rfl ?_
  refine Z_aload_n 6 rfl rfl rfl ?_
  refine Z_get 7 rfl f_K_22 rfl rfl ?_
  refine Z_iload_n 8 rfl rfl rfl ?_
  refine Z_icmp_gt 9 rfl (tgt := 19) rfl (by omega) (by omega) (fun c15 => ?_) (fun c15 => ?_)
  · refine Z_aload_n 11 rfl rfl rfl ?_
    refine Z_iconst 12 rfl ?_
    refine Z_put 13 rfl f_K_22 rfl (Nat.le_of_ble_eq_true rfl) (fun _ => ⟨rfl, rfl⟩) (fs' := []) (mem' := [oK6 w.1 w.2.1 w.2.2.1 w.2.2.2.1 0 w.2.2.2.2.2]) rfl ?_
    refine Z_aload_n 14 rfl rfl rfl ?_
    refine Z_dup 15 rfl rfl ?_
    refine Z_get 16 rfl f_K_16 rfl rfl ?_
    refine Z_iload_n 17 rfl rfl rfl ?_
    refine Z_iadd 18 rfl ?_
    refine Z_put 19 rfl f_K_16 rfl (Nat.le_of_ble_eq_true rfl) (fun _ => ⟨rfl, rfl⟩) (fs' := []) (mem' := [oK6 w.1 w.2.1 (w.2.2.1 + n) w.2.2.2.1 0 w.2.2.2.2.2]) rfl ?_
    refine Z_aload_n 20 rfl rfl rfl ?_
    refine Z_dup 21 rfl rfl ?_
    refine Z_get 22 rfl f_K_19 rfl rfl ?_
    refine Z_iload_n 23 rfl rfl rfl ?_
    refine Z_iadd 24 rfl ?_
    refine Z_put 25 rfl f_K_19 rfl (Nat.le_of_ble_eq_true rfl) (fun _ => ⟨rfl, rfl⟩) (fs' := []) (mem' := [oK6 w.1 w.2.1 (w.2.2.1 + n) (w.2.2.2.1 + r) 0 w.2.2.2.2.2]) rfl ?_
    refine Z_aload_n 26 rfl rfl rfl ?_
    refine Z_dup 27 rfl rfl ?_
    refine Z_get 28 rfl f_K_13 rfl rfl ?_
    refine Z_iconst 29 rfl ?_
    refine Z_iadd 30 rfl ?_
    refine Z_put 31 rfl f_K_13 rfl (Nat.le_of_ble_eq_true rfl) (fun _ => ⟨rfl, rfl⟩) (fs' := []) (mem' := [oK6 w.1 (w.2.1 + 1) (w.2.2.1 + n) (w.2.2.2.1 + r) 0 w.2.2.2.2.2]) rfl ?_
    refine Z_vret 32 rfl rfl ⟨Nat.le_refl _, Nat.le_refl _⟩ ?_
    exact ⟨rfl, by unfold stp1; rw [if_neg (by omega)] <;> rfl⟩
  · refine Z_vret 10 rfl rfl ⟨Nat.le_refl _, Nat.le_refl _⟩ ?_
    exact ⟨rfl, by unfold stp1; rw [if_pos (by omega)] <;> rfl⟩
/-- the next place of the walk, and the spot there -/
def nx (t : TT) (w : WW) : WW :=
  if w.2.1 < 0 then (w.1, 0, w.2.2.1, w.2.2.2.1, w.2.2.2.2.1, w.2.2.2.2.2)
  else if w.2.1 < t.2.2.2 then stp1 (w.2.2.1 + w.2.2.2.2.1, w.2.1, w.2.2.1, w.2.2.2.1, w.2.2.2.2.1, w.2.2.2.2.2) (t.2.1 w.2.1) (t.2.2.1 w.2.1)
  else if w.2.2.2.2.2 = 1 ∧ w.2.1 ≤ t.2.2.2 then (w.1, w.2.1 + 1, w.2.2.1, w.2.2.2.1, w.2.2.2.2.1, w.2.2.2.2.2)
  else w
def nsp (t : TT) (w : WW) (s : SS) : SS :=
  if w.2.1 < 0 then sd (t.1 (t.2.2.2 - 1)) (t.2.1 (t.2.2.2 - 1)) (t.2.2.1 (t.2.2.2 - 1)) (-t.2.2.1 (t.2.2.2 - 1)) (t.2.1 (t.2.2.2 - 1))
  else if w.2.1 < t.2.2.2 then sd (t.1 w.2.1) (t.2.1 w.2.1) (t.2.2.1 w.2.1) w.2.2.2.1 w.2.2.2.2.1
  else if w.2.2.2.2.2 = 1 ∧ w.2.1 ≤ t.2.2.2 then sd (t.1 0) (t.2.1 0) (t.2.2.1 0) 0 0
  else s
def mo (t : TT) (w : WW) : Prop := w.2.1 < t.2.2.2 ∨ (w.2.2.2.2.2 = 1 ∧ w.2.1 ≤ t.2.2.2)
/-- where a walk may stand, behind so many visits -/
def Jw (t : TT) (w : WW) (i : Int) : Prop :=
  ((w.2.2.2.2.2 = 1 ∧ clo t ∧ 0 < t.2.2.2) ∨ (w.2.2.2.2.2 = 0 ∧ ¬ clo t)) ∧
  ((w.2.1 = -1 ∧ w.2.2.2.2.2 = 1 ∧ w.1 = 0 ∧ w.2.2.1 = 0 ∧ w.2.2.2.1 = 0 ∧ w.2.2.2.2.1 = 0 ∧ i = 0)
  ∨ (0 ≤ w.2.1 ∧ w.2.1 < t.2.2.2 ∧ w.2.2.1 = bg t w.2.1 ∧ w.2.2.2.1 = ah t w.2.1 ∧ 0 ≤ w.2.2.2.2.1 ∧ w.2.2.2.2.1 ≤ t.2.1 w.2.1 ∧ i = w.2.2.2.2.2 + bg t w.2.1 + w.2.2.2.2.1 + w.2.1)
  ∨ (w.2.1 = t.2.2.2 ∧ w.2.2.1 = bg t t.2.2.2 ∧ w.2.2.2.1 = ah t t.2.2.2 ∧ w.2.2.2.2.1 = 0 ∧ w.1 = bg t t.2.2.2 ∧ i = w.2.2.2.2.2 + bg t t.2.2.2 + t.2.2.2)
  ∨ (w.2.1 = t.2.2.2 + 1 ∧ w.2.2.2.2.2 = 1 ∧ i = w.2.2.2.2.2 + bg t t.2.2.2 + t.2.2.2 + 1))
theorem bg_s (t : TT) {k : Int} (h : 0 ≤ k) : bg t (k + 1) = bg t k + t.2.1 k := sI_s _ h
theorem ah_s (t : TT) {k : Int} (h : 0 ≤ k) : ah t (k + 1) = ah t k + t.2.2.1 k := sI_s _ h
theorem bg_0 (t : TT) : bg t 0 = 0 := rfl
theorem ah_0 (t : TT) : ah t 0 = 0 := rfl
theorem bg_mono' {t : TT} (h : TB t) (j : Int) (h0 : 0 ≤ j) : ∀ d : Nat, bg t j ≤ bg t (j + d) := by
  intro d
  induction d with
  | zero => simp
  | succ d ih =>
    have := h.2.2.1 (j + d)
    rw [show j + ((d + 1 : Nat) : Int) = (j + d) + 1 by omega, bg_s t (by omega)]
    omega
theorem bg_mono {t : TT} (h : TB t) {j k : Int} (h0 : 0 ≤ j) (h1 : j ≤ k) : bg t j ≤ bg t k := by
  have := bg_mono' h j h0 (k - j).toNat
  rw [show j + ((k - j).toNat : Int) = k by omega] at this
  exact this
theorem clo_n {t : TT} (h : TV t) (hc : clo t) : 0 < t.2.2.2 := by
  have h1 := h.1.1
  rcases Int.lt_or_le 0 t.2.2.2 with h2 | h2
  · exact h2
  · exfalso
    have e : t.2.2.2 = 0 := by omega
    have := hc.1
    unfold tot at this
    rw [e] at this
    have e2 : sI t.2.1 0 = 0 := rfl
    omega
theorem Jw_0 {t : TT} (h : TV t) : Jw t (wk0 t) 0 := by
  have h1 := h.1.1
  unfold Jw wk0
  by_cases hc : clo t
  · have := clo_n h hc
    rw [bI_t hc]
    refine ⟨Or.inl ⟨rfl, hc, this⟩, Or.inl ⟨rfl, rfl, rfl, rfl, rfl, rfl, rfl⟩⟩
  · rw [bI_f hc]
    refine ⟨Or.inr ⟨rfl, hc⟩, Or.inr ?_⟩
    by_cases h2 : 0 < t.2.2.2
    · have := h.1.2.2.1 0
      refine Or.inl ⟨Int.le_refl _, h2, rfl, rfl, Int.le_refl _, this.1, rfl⟩
    · refine Or.inr (Or.inl ?_)
      have e : t.2.2.2 = 0 := by omega
      rw [e]
      exact ⟨rfl, rfl, rfl, rfl, rfl, rfl⟩
theorem Jw_bd {t : TT} {w : WW} {i : Int} (h : TV t) (hJ : Jw t w i) : 0 ≤ i ∧ i ≤ 374 ∧ -1 ≤ w.2.1 ∧ w.2.1 ≤ t.2.2.2 + 1 := by
  have h1 := h.1.1
  have h2 := h.2.1
  have hc : w.2.2.2.2.2 = 1 ∨ w.2.2.2.2.2 = 0 := hJ.1.imp And.left And.left
  unfold tot at h2
  rcases hJ.2 with a | a | a | a
  · omega
  · have b1 := bg_mono h.1 (show 0 ≤ w.2.1 + 1 by omega) (show w.2.1 + 1 ≤ t.2.2.2 by omega)
    have b2 := bg_mono h.1 (Int.le_refl 0) (show 0 ≤ w.2.1 by omega)
    rw [bg_s t a.1] at b1
    rw [bg_0] at b2
    have b3 : bg t t.2.2.2 ≤ 360 := h2
    omega
  · have b3 : bg t t.2.2.2 ≤ 360 := h2
    have b2 := bg_mono h.1 (Int.le_refl 0) h1.1
    rw [bg_0] at b2
    omega
  · have b3 : bg t t.2.2.2 ≤ 360 := h2
    have b2 := bg_mono h.1 (Int.le_refl 0) h1.1
    rw [bg_0] at b2
    omega
theorem Jw_s {t : TT} {w : WW} {i : Int} (h : TV t) (hJ : Jw t w i) (hm : mo t w) : Jw t (nx t w) (i + 1) := by
  have h1 := h.1.1
  obtain ⟨hc, hJ⟩ := hJ
  unfold mo at hm
  rcases hJ with a | a | a | a
  · unfold nx
    rw [if_pos (by omega)]
    refine ⟨hc, Or.inr (Or.inl ?_)⟩
    have b := h.1.2.2.1 0
    show (0 : Int) ≤ 0 ∧ 0 < t.2.2.2 ∧ w.2.2.1 = bg t 0 ∧ w.2.2.2.1 = ah t 0 ∧ 0 ≤ w.2.2.2.2.1 ∧ w.2.2.2.2.1 ≤ t.2.1 0 ∧ i + 1 = w.2.2.2.2.2 + bg t 0 + w.2.2.2.2.1 + 0
    rw [bg_0, ah_0]
    omega
  · unfold nx stp1
    rw [if_neg (by omega), if_pos (by omega)]
    have b := bg_s t a.1
    have b' := ah_s t a.1
    by_cases c : w.2.2.2.2.1 + 1 ≤ t.2.1 w.2.1
    · rw [if_pos c]
      refine ⟨hc, Or.inr (Or.inl ?_)⟩
      show 0 ≤ w.2.1 ∧ w.2.1 < t.2.2.2 ∧ w.2.2.1 = bg t w.2.1 ∧ w.2.2.2.1 = ah t w.2.1 ∧ 0 ≤ w.2.2.2.2.1 + 1 ∧ w.2.2.2.2.1 + 1 ≤ t.2.1 w.2.1 ∧ i + 1 = w.2.2.2.2.2 + bg t w.2.1 + (w.2.2.2.2.1 + 1) + w.2.1
      omega
    · rw [if_neg c]
      by_cases d : w.2.1 + 1 < t.2.2.2
      · refine ⟨hc, Or.inr (Or.inl ?_)⟩
        have b2 := h.1.2.2.1 (w.2.1 + 1)
        show 0 ≤ w.2.1 + 1 ∧ w.2.1 + 1 < t.2.2.2 ∧ w.2.2.1 + t.2.1 w.2.1 = bg t (w.2.1 + 1) ∧ w.2.2.2.1 + t.2.2.1 w.2.1 = ah t (w.2.1 + 1) ∧ (0 : Int) ≤ 0 ∧ 0 ≤ t.2.1 (w.2.1 + 1) ∧ i + 1 = w.2.2.2.2.2 + bg t (w.2.1 + 1) + 0 + (w.2.1 + 1)
        omega
      · have e : w.2.1 + 1 = t.2.2.2 := by omega
        refine ⟨hc, Or.inr (Or.inr (Or.inl ?_))⟩
        rw [e] at b b'
        show w.2.1 + 1 = t.2.2.2 ∧ w.2.2.1 + t.2.1 w.2.1 = bg t t.2.2.2 ∧ w.2.2.2.1 + t.2.2.1 w.2.1 = ah t t.2.2.2 ∧ (0 : Int) = 0 ∧ w.2.2.1 + w.2.2.2.2.1 = bg t t.2.2.2 ∧ i + 1 = w.2.2.2.2.2 + bg t t.2.2.2 + t.2.2.2
        omega
  · unfold nx
    rw [if_neg (by omega), if_neg (by omega), if_pos (by omega)]
    refine ⟨hc, Or.inr (Or.inr (Or.inr ?_))⟩
    show w.2.1 + 1 = t.2.2.2 + 1 ∧ w.2.2.2.2.2 = 1 ∧ i + 1 = w.2.2.2.2.2 + bg t t.2.2.2 + t.2.2.2 + 1
    omega
  · exfalso
    omega
theorem c_K_goOn (l : Launch) (t : TT) (h : TV t) (s : SS) (w : WW) (i : Int) (hJ : Jw t w i) : Con l M_K_goOn R_K_goOn 0 0 false [.ref 0, .ref 1, .ref 5] (eK w t s) (zAb (mo t w) (fun m => m = eK (nx t w) t (nsp t w s))) := by
  have h1 := h.1.1
  have hb := Jw_bd h hJ
  obtain ⟨hc, hJ⟩ := hJ
  have hb2 : 0 ≤ w.2.1 → w.2.1 < t.2.2.2 → (-4320 ≤ bg t w.2.1 ∧ bg t w.2.1 ≤ 4320) ∧ (-1188 ≤ ah t w.2.1 ∧ ah t w.2.1 ≤ 1188) := fun z z2 => ⟨bg_bd h.1 (by omega), ah_bd h.1 (by omega)⟩
  have hl := fun k => h.1.2.2.1 k
  have hr := fun k => h.1.2.2.2 k
  refine Con.of_Z (by decide) D_K_goOn (Nat.le_of_ble_eq_true rfl) ?_
  refine Z_aload_n 0 rfl rfl rfl ?_
  refine Z_get 1 rfl f_K_13 rfl rfl ?_
  refine Z_if_ge 2 rfl (tgt := 38) rfl (by omega) (fun c4 => ?_) (fun c4 => ?_)
  · refine Z_aload_n 24 rfl rfl rfl ?_
    refine Z_get 25 rfl f_K_13 rfl rfl ?_
    refine Z_aload_n 26 rfl rfl rfl ?_
    refine Z_callVip (M' := M_T_size) 27 [1, 2, 3, 4] rfl l_K_34 C_T_size (c_T_size l t) ⟨by decide, (zEL.c (Or.inl rfl) (zEL.c (Or.inl rfl) (zEL.c (Or.inl rfl) (zEL.c (Or.inl rfl) zEL.n))))⟩ (Or.inl ⟨_, _, _, _, rfl, rfl⟩) rfl rfl rfl (Nat.le_of_ble_eq_true rfl) ⟨rfl, rfl, Nat.le_of_ble_eq_true rfl, Nat.le_of_ble_eq_true rfl⟩ ⟨Nat.zero_le _, Nat.zero_le _⟩ ?_
    refine Z_icmp_ge 28 rfl (tgt := 101) rfl (by omega) (by omega) (fun c46 => ?_) (fun c46 => ?_)
    · refine Z_aload_n 57 rfl rfl rfl ?_
      refine Z_get 58 rfl f_K_25 rfl rfl ?_
      refine Z_if_eq 59 rfl (tgt := 119) rfl (by omega) (fun c105 => ?_) (fun c105 => ?_)
      · refine Z_iconst 65 rfl ?_
        refine Z_zret 66 rfl rfl rfl ⟨Nat.le_refl _, Nat.le_refl _⟩ ?_
        exact ⟨bF (by unfold mo; omega), by unfold nx nsp; rw [if_neg (by omega), if_neg (by omega), if_neg (by omega), if_neg (by omega), if_neg (by omega), if_neg (by omega)]⟩
      · refine Z_aload_n 60 rfl rfl rfl ?_
        refine Z_get 61 rfl f_K_13 rfl rfl ?_
        refine Z_aload_n 62 rfl rfl rfl ?_
        refine Z_callVip (M' := M_T_size) 63 [1, 2, 3, 4] rfl l_K_34 C_T_size (c_T_size l t) ⟨by decide, (zEL.c (Or.inl rfl) (zEL.c (Or.inl rfl) (zEL.c (Or.inl rfl) (zEL.c (Or.inl rfl) zEL.n))))⟩ (Or.inl ⟨_, _, _, _, rfl, rfl⟩) rfl rfl rfl (Nat.le_of_ble_eq_true rfl) ⟨rfl, rfl, Nat.le_of_ble_eq_true rfl, Nat.le_of_ble_eq_true rfl⟩ ⟨Nat.zero_le _, Nat.zero_le _⟩ ?_
        refine Z_icmp_le 64 rfl (tgt := 121) rfl (by omega) (by omega) (fun c116 => ?_) (fun c116 => ?_)
        · refine Z_aload_n 67 rfl rfl rfl ?_
          refine Z_aload_n 68 rfl rfl rfl ?_
          refine Z_iconst 69 rfl ?_
          refine Z_iconst 70 rfl ?_
          refine Z_iconst 71 rfl ?_
          refine Z_callSv (M' := M_K_stand) 72 [1, 2, 3, 4, 5] rfl l_K_45 C_K_stand (c_K_stand l t h.1 s 0 0 0 (by omega) (by omega) (by omega)) ⟨by decide, (zEL.c (Or.inl rfl) (zEL.c (Or.inl rfl) (zEL.c (Or.inl rfl) (zEL.c (Or.inl rfl) (zEL.c (Or.inl rfl) zEL.n)))))⟩ rfl rfl rfl (Nat.le_of_ble_eq_true rfl) ⟨rfl, rfl, Nat.le_of_ble_eq_true rfl, Nat.le_of_ble_eq_true rfl⟩ ⟨Nat.zero_le _, Nat.zero_le _⟩ (fun out hq => ?_)
          obtain rfl := hq
          refine Z_mem (show _ = eK w t (nsp t w s) by unfold nsp; rw [if_neg (by omega), if_neg (by omega), if_pos (by omega)]; rfl) ?_
          refine Z_aload_n 73 rfl rfl rfl ?_
          refine Z_dup 74 rfl rfl ?_
          refine Z_get 75 rfl f_K_13 rfl rfl ?_
          refine Z_iconst 76 rfl ?_
          refine Z_iadd 77 rfl ?_
          refine Z_put 78 rfl f_K_13 rfl (Nat.le_of_ble_eq_true rfl) (fun _ => ⟨rfl, rfl⟩) (fs' := []) (mem' := eK (w.1, w.2.1 + 1, w.2.2.1, w.2.2.2.1, w.2.2.2.2.1, w.2.2.2.2.2) t (nsp t w s)) rfl ?_
          refine Z_iconst 79 rfl ?_
          refine Z_zret 80 rfl rfl rfl ⟨Nat.le_refl _, Nat.le_refl _⟩ ?_
          exact ⟨bT (by unfold mo; omega), by unfold nx; rw [if_neg (by omega), if_neg (by omega), if_pos (by omega)]⟩
        · refine Z_iconst 65 rfl ?_
          refine Z_zret 66 rfl rfl rfl ⟨Nat.le_refl _, Nat.le_refl _⟩ ?_
          exact ⟨bF (by unfold mo; omega), by unfold nx nsp; rw [if_neg (by omega), if_neg (by omega), if_neg (by omega), if_neg (by omega), if_neg (by omega), if_neg (by omega)]⟩
    · refine Z_aload_n 29 rfl rfl rfl ?_
      refine Z_aload_n 30 rfl rfl rfl ?_
      refine Z_get 31 rfl f_K_16 rfl rfl ?_
      refine Z_aload_n 32 rfl rfl rfl ?_
      refine Z_get 33 rfl f_K_22 rfl rfl ?_
      refine Z_iadd 34 rfl ?_
      refine Z_put 35 rfl f_K_7 rfl (Nat.le_of_ble_eq_true rfl) (fun _ => ⟨rfl, rfl⟩) (fs' := []) (mem' := eK (w.2.2.1 + w.2.2.2.2.1, w.2.1, w.2.2.1, w.2.2.2.1, w.2.2.2.2.1, w.2.2.2.2.2) t s) rfl ?_
      refine Z_aload_n 36 rfl rfl rfl ?_
      refine Z_aload_n 37 rfl rfl rfl ?_
      refine Z_aload_n 38 rfl rfl rfl ?_
      refine Z_get 39 rfl f_K_13 rfl rfl ?_
      refine Z_aload_n 40 rfl rfl rfl ?_
      refine Z_get 41 rfl f_K_19 rfl rfl ?_
      refine Z_aload_n 42 rfl rfl rfl ?_
      refine Z_get 43 rfl f_K_22 rfl rfl ?_
      refine Z_callSv (M' := M_K_stand) 44 [1, 2, 3, 4, 5] rfl l_K_45 C_K_stand (c_K_stand l t h.1 s w.2.1 w.2.2.2.1 w.2.2.2.2.1 (by omega) (by omega) (by have := hl w.2.1; omega)) ⟨by decide, (zEL.c (Or.inl rfl) (zEL.c (Or.inl rfl) (zEL.c (Or.inl rfl) (zEL.c (Or.inl rfl) (zEL.c (Or.inl rfl) zEL.n)))))⟩ rfl rfl rfl (Nat.le_of_ble_eq_true rfl) ⟨rfl, rfl, Nat.le_of_ble_eq_true rfl, Nat.le_of_ble_eq_true rfl⟩ ⟨Nat.zero_le _, Nat.zero_le _⟩ (fun out hq => ?_)
      obtain rfl := hq
      refine Z_mem (show _ = eK (w.2.2.1 + w.2.2.2.2.1, w.2.1, w.2.2.1, w.2.2.2.1, w.2.2.2.2.1, w.2.2.2.2.2) t (nsp t w s) by unfold nsp; rw [if_neg (by omega), if_pos (by omega)]; rfl) ?_
      refine Z_aload_n 45 rfl rfl rfl ?_
      refine Z_aload_n 46 rfl rfl rfl ?_
      refine Z_aload_n 47 rfl rfl rfl ?_
      refine Z_get 48 rfl f_K_13 rfl rfl ?_
      refine Z_callVip (M' := M_T_longOf) 49 [1, 2, 3, 4] rfl l_K_42 C_T_longOf (c_T_longOf l t w.2.1 (by omega)) ⟨by decide, (zEL.c (Or.inl rfl) (zEL.c (Or.inl rfl) (zEL.c (Or.inl rfl) (zEL.c (Or.inl rfl) zEL.n))))⟩ (Or.inl ⟨_, _, _, _, rfl, rfl⟩) rfl rfl rfl (Nat.le_of_ble_eq_true rfl) ⟨rfl, rfl, Nat.le_of_ble_eq_true rfl, Nat.le_of_ble_eq_true rfl⟩ ⟨Nat.zero_le _, Nat.zero_le _⟩ ?_
      refine Z_aload_n 50 rfl rfl rfl ?_
      refine Z_aload_n 51 rfl rfl rfl ?_
      refine Z_get 52 rfl f_K_13 rfl rfl ?_
      refine Z_callVip (M' := M_T_riseOf) 53 [1, 2, 3, 4] rfl l_K_38 C_T_riseOf (c_T_riseOf l t w.2.1 (by omega)) ⟨by decide, (zEL.c (Or.inl rfl) (zEL.c (Or.inl rfl) (zEL.c (Or.inl rfl) (zEL.c (Or.inl rfl) zEL.n))))⟩ (Or.inl ⟨_, _, _, _, rfl, rfl⟩) rfl rfl rfl (Nat.le_of_ble_eq_true rfl) ⟨rfl, rfl, Nat.le_of_ble_eq_true rfl, Nat.le_of_ble_eq_true rfl⟩ ⟨Nat.zero_le _, Nat.zero_le _⟩ ?_
      refine Z_callVv (M' := M_K_stepOn) 54 [0] rfl l_K_49 C_K_stepOn (c_K_stepOn l (w.2.2.1 + w.2.2.2.2.1, w.2.1, w.2.2.1, w.2.2.2.1, w.2.2.2.2.1, w.2.2.2.2.2) (t.2.1 w.2.1) (t.2.2.1 w.2.1) (by have := hl w.2.1; show 0 ≤ w.2.2.2.2.1 ∧ w.2.2.2.2.1 ≤ 1000; omega) (by have := hl w.2.1; omega)) ⟨by decide, (zEL.c (Or.inl rfl) zEL.n)⟩ (Or.inl ⟨_, _, _, _, rfl, rfl⟩) rfl rfl rfl (Nat.le_of_ble_eq_true rfl) ⟨rfl, rfl, Nat.le_of_ble_eq_true rfl, Nat.le_of_ble_eq_true rfl⟩ ⟨Nat.zero_le _, Nat.zero_le _⟩ (fun out hq => ?_)
      obtain rfl := hq
      refine Z_mem (show _ = eK (nx t w) t (nsp t w s) by unfold nx; rw [if_neg (by omega), if_pos (by omega)]; rfl) ?_
      refine Z_iconst 55 rfl ?_
      refine Z_zret 56 rfl rfl rfl ⟨Nat.le_refl _, Nat.le_refl _⟩ ?_
      exact ⟨bT (by unfold mo; omega), rfl⟩
  · refine Z_aload_n 3 rfl rfl rfl ?_
    refine Z_callVip (M' := M_T_size) 4 [1, 2, 3, 4] rfl l_K_34 C_T_size (c_T_size l t) ⟨by decide, (zEL.c (Or.inl rfl) (zEL.c (Or.inl rfl) (zEL.c (Or.inl rfl) (zEL.c (Or.inl rfl) zEL.n))))⟩ (Or.inl ⟨_, _, _, _, rfl, rfl⟩) rfl rfl rfl (Nat.le_of_ble_eq_true rfl) ⟨rfl, rfl, Nat.le_of_ble_eq_true rfl, Nat.le_of_ble_eq_true rfl⟩ ⟨Nat.zero_le _, Nat.zero_le _⟩ ?_
    refine Z_iconst 5 rfl ?_
    refine Z_isub 6 rfl ?_
    refine Z_istore_n 7 rfl rfl (Nat.le_of_ble_eq_true rfl) (lv' := [(3, .int _), (0, .ref _), (1, .ref _), (2, .ref _)]) rfl ?_
    refine Z_aload_n 8 rfl rfl rfl ?_
    refine Z_aload_n 9 rfl rfl rfl ?_
    refine Z_iload_n 10 rfl rfl rfl ?_
    refine Z_aload_n 11 rfl rfl rfl ?_
    refine Z_iload_n 12 rfl rfl rfl ?_
    refine Z_callVip (M' := M_T_riseOf) 13 [1, 2, 3, 4] rfl l_K_38 C_T_riseOf (c_T_riseOf l t (t.2.2.2 - 1) (by omega)) ⟨by decide, (zEL.c (Or.inl rfl) (zEL.c (Or.inl rfl) (zEL.c (Or.inl rfl) (zEL.c (Or.inl rfl) zEL.n))))⟩ (Or.inl ⟨_, _, _, _, rfl, rfl⟩) rfl rfl rfl (Nat.le_of_ble_eq_true rfl) ⟨rfl, rfl, Nat.le_of_ble_eq_true rfl, Nat.le_of_ble_eq_true rfl⟩ ⟨Nat.zero_le _, Nat.zero_le _⟩ ?_
    refine Z_ineg 14 rfl ?_
    refine Z_aload_n 15 rfl rfl rfl ?_
    refine Z_iload_n 16 rfl rfl rfl ?_
    refine Z_callVip (M' := M_T_longOf) 17 [1, 2, 3, 4] rfl l_K_42 C_T_longOf (c_T_longOf l t (t.2.2.2 - 1) (by omega)) ⟨by decide, (zEL.c (Or.inl rfl) (zEL.c (Or.inl rfl) (zEL.c (Or.inl rfl) (zEL.c (Or.inl rfl) zEL.n))))⟩ (Or.inl ⟨_, _, _, _, rfl, rfl⟩) rfl rfl rfl (Nat.le_of_ble_eq_true rfl) ⟨rfl, rfl, Nat.le_of_ble_eq_true rfl, Nat.le_of_ble_eq_true rfl⟩ ⟨Nat.zero_le _, Nat.zero_le _⟩ ?_
    refine Z_callSv (M' := M_K_stand) 18 [1, 2, 3, 4, 5] rfl l_K_45 C_K_stand (c_K_stand l t h.1 s (t.2.2.2 - 1) (-t.2.2.1 (t.2.2.2 - 1)) (t.2.1 (t.2.2.2 - 1)) (by omega) (by have := hr (t.2.2.2 - 1); omega) (by have := hl (t.2.2.2 - 1); omega)) ⟨by decide, (zEL.c (Or.inl rfl) (zEL.c (Or.inl rfl) (zEL.c (Or.inl rfl) (zEL.c (Or.inl rfl) (zEL.c (Or.inl rfl) zEL.n)))))⟩ rfl rfl rfl (Nat.le_of_ble_eq_true rfl) ⟨rfl, rfl, Nat.le_of_ble_eq_true rfl, Nat.le_of_ble_eq_true rfl⟩ ⟨Nat.zero_le _, Nat.zero_le _⟩ (fun out hq => ?_)
    obtain rfl := hq
    refine Z_mem (show _ = eK w t (nsp t w s) by unfold nsp; rw [if_pos (by omega)]; rfl) ?_
    refine Z_aload_n 19 rfl rfl rfl ?_
    refine Z_iconst 20 rfl ?_
    refine Z_put 21 rfl f_K_13 rfl (Nat.le_of_ble_eq_true rfl) (fun _ => ⟨rfl, rfl⟩) (fs' := []) (mem' := eK (w.1, 0, w.2.2.1, w.2.2.2.1, w.2.2.2.2.1, w.2.2.2.2.2) t (nsp t w s)) rfl ?_
    refine Z_iconst 22 rfl ?_
    refine Z_zret 23 rfl rfl rfl ⟨Nat.le_refl _, Nat.le_refl _⟩ ?_
    exact ⟨bT (by unfold mo; omega), by unfold nx; rw [if_pos (by omega)]⟩
end
section
/-! Rows: the places of all lists, their sizes -/
def eW (P Zs : Int → Int) : List zE := [zO 3 [.ref 1, .ref 2], aL 120 P, aI 4 Zs]
def ZB (Zs : Int → Int) : Prop := ∀ i, -1 ≤ Zs i ∧ Zs i ≤ 30
def hasPl (Zs : Int → Int) (r i : Int) : Prop := (0 ≤ r ∧ r < 4) ∧ 0 ≤ i ∧ i < Zs r
theorem c_W_mayHave (l : Launch) (P Zs : Int → Int) (r : Int) (hr : inI r) : Con l M_W_mayHave R_W_mayHave 0 0 false [.ref 0, .int (iI r)] (eW P Zs) (zAb (0 ≤ r ∧ r < 4) (fun m => m = eW P Zs)) := by
  refine Con.of_Z (by decide) D_W_mayHave (Nat.le_of_ble_eq_true rfl) ?_
  refine Z_iload_n 0 rfl rfl rfl ?_
  refine Z_if_lt 1 rfl (tgt := 13) rfl (by omega) (fun c1 => ?_) (fun c1 => ?_)
  · refine Z_iconst 7 rfl ?_
    refine Z_zret 8 rfl rfl rfl ⟨Nat.le_refl _, Nat.le_refl _⟩ ?_
    exact ⟨by first | rw [bI_t (by omega)] | rw [bI_f (by omega)], rfl⟩
  · refine Z_iload_n 2 rfl rfl rfl ?_
    refine Z_iconst 3 rfl ?_
    refine Z_icmp_ge 4 rfl (tgt := 13) rfl (by omega) (by omega) (fun c6 => ?_) (fun c6 => ?_)
    · refine Z_iconst 7 rfl ?_
      refine Z_zret 8 rfl rfl rfl ⟨Nat.le_refl _, Nat.le_refl _⟩ ?_
      exact ⟨by first | rw [bI_t (by omega)] | rw [bI_f (by omega)], rfl⟩
    · refine Z_iconst 5 rfl ?_
      refine Z_goto 6 rfl (tgt := 14) rfl ?_
      refine Z_zret 8 rfl rfl rfl ⟨Nat.le_refl _, Nat.le_refl _⟩ ?_
      exact ⟨by first | rw [bI_t (by omega)] | rw [bI_f (by omega)], rfl⟩
theorem c_W_has (l : Launch) (P Zs : Int → Int) (hZ : ZB Zs) (r : Int) (hr : inI r) : Con l M_W_has R_W_has 0 0 false [.ref 0, .int (iI r)] (eW P Zs) (zAb ((0 ≤ r ∧ r < 4) ∧ 0 ≤ Zs r) (fun m => m = eW P Zs)) := by
  have z := hZ r
  refine Con.of_Z (by decide) D_W_has (Nat.le_of_ble_eq_true rfl) ?_
  refine Z_aload_n 0 rfl rfl rfl ?_
  refine Z_iload_n 1 rfl rfl rfl ?_
  refine Z_callVbp (M' := M_W_mayHave) 2 [0, 1, 2] rfl l_W_19 C_W_mayHave (c_W_mayHave l P Zs r hr) ⟨by decide, (zEL.c (Or.inl rfl) (zEL.c (Or.inl rfl) (zEL.c (Or.inl rfl) zEL.n)))⟩ (Or.inl ⟨_, _, _, _, rfl, rfl⟩) rfl rfl rfl (Nat.le_of_ble_eq_true rfl) ⟨rfl, rfl, Nat.le_of_ble_eq_true rfl, Nat.le_of_ble_eq_true rfl⟩ ⟨Nat.zero_le _, Nat.zero_le _⟩ ?_
  refine Z_ifb_eq 3 rfl (tgt := 23) rfl (fun c5 => ?_) (fun c5 => ?_)
  · refine Z_iconst 11 rfl ?_
    refine Z_zret 12 rfl rfl rfl ⟨Nat.le_refl _, Nat.le_refl _⟩ ?_
    exact ⟨by first | rw [bI_t (by omega)] | rw [bI_f (by omega)], rfl⟩
  · refine Z_aload_n 4 rfl rfl rfl ?_
    refine Z_get 5 rfl f_W_15 rfl rfl ?_
    refine Z_iload_n 6 rfl rfl rfl ?_
    refine Z_callSNip (M' := M_C_pick) 7 [2] rfl l_W_23 C_C_pick (pick_in l 4 (by omega) Zs r (by omega)) ⟨by decide, (zEL.c (Or.inr ⟨_, _, rfl, rfl, by decide⟩) zEL.n)⟩ rfl rfl rfl (Nat.le_of_ble_eq_true rfl) ⟨rfl, rfl, Nat.le_of_ble_eq_true rfl, Nat.le_of_ble_eq_true rfl⟩ ⟨Nat.zero_le _, Nat.zero_le _⟩ ?_
    refine Z_if_lt 8 rfl (tgt := 23) rfl (by omega) (fun c16 => ?_) (fun c16 => ?_)
    · refine Z_iconst 11 rfl ?_
      refine Z_zret 12 rfl rfl rfl ⟨Nat.le_refl _, Nat.le_refl _⟩ ?_
      exact ⟨by first | rw [bI_t (by omega)] | rw [bI_f (by omega)], rfl⟩
    · refine Z_iconst 9 rfl ?_
      refine Z_goto 10 rfl (tgt := 24) rfl ?_
      refine Z_zret 12 rfl rfl rfl ⟨Nat.le_refl _, Nat.le_refl _⟩ ?_
      exact ⟨by first | rw [bI_t (by omega)] | rw [bI_f (by omega)], rfl⟩
theorem c_W_hasPlace (l : Launch) (P Zs : Int → Int) (hZ : ZB Zs) (r i : Int) (hr : inI r) (hi : inI i) : Con l M_W_hasPlace R_W_hasPlace 0 0 false [.ref 0, .int (iI r), .int (iI i)] (eW P Zs) (zAb (hasPl Zs r i) (fun m => m = eW P Zs)) := by
  have z := hZ r
  refine Con.of_Z (by decide) D_W_hasPlace (Nat.le_of_ble_eq_true rfl) ?_
  refine Z_aload_n 0 rfl rfl rfl ?_
  refine Z_iload_n 1 rfl rfl rfl ?_
  refine Z_callVbp (M' := M_W_has) 2 [0, 1, 2] rfl l_W_27 C_W_has (c_W_has l P Zs hZ r hr) ⟨by decide, (zEL.c (Or.inl rfl) (zEL.c (Or.inl rfl) (zEL.c (Or.inl rfl) zEL.n)))⟩ (Or.inl ⟨_, _, _, _, rfl, rfl⟩) rfl rfl rfl (Nat.le_of_ble_eq_true rfl) ⟨rfl, rfl, Nat.le_of_ble_eq_true rfl, Nat.le_of_ble_eq_true rfl⟩ ⟨Nat.zero_le _, Nat.zero_le _⟩ ?_
  refine Z_ifb_eq 3 rfl (tgt := 28) rfl (fun c5 => ?_) (fun c5 => ?_)
  · refine Z_iconst 14 rfl ?_
    refine Z_zret 15 rfl rfl rfl ⟨Nat.le_refl _, Nat.le_refl _⟩ ?_
    exact ⟨by unfold hasPl; first | rw [bI_t (by omega)] | rw [bI_f (by omega)], rfl⟩
  · refine Z_iload_n 4 rfl rfl rfl ?_
    refine Z_if_lt 5 rfl (tgt := 28) rfl (by omega) (fun c9 => ?_) (fun c9 => ?_)
    · refine Z_iconst 14 rfl ?_
      refine Z_zret 15 rfl rfl rfl ⟨Nat.le_refl _, Nat.le_refl _⟩ ?_
      exact ⟨by unfold hasPl; first | rw [bI_t (by omega)] | rw [bI_f (by omega)], rfl⟩
    · refine Z_iload_n 6 rfl rfl rfl ?_
      refine Z_aload_n 7 rfl rfl rfl ?_
      refine Z_get 8 rfl f_W_15 rfl rfl ?_
      refine Z_iload_n 9 rfl rfl rfl ?_
      refine Z_callSNip (M' := M_C_pick) 10 [2] rfl l_W_23 C_C_pick (pick_in l 4 (by omega) Zs r (by omega)) ⟨by decide, (zEL.c (Or.inr ⟨_, _, rfl, rfl, by decide⟩) zEL.n)⟩ rfl rfl rfl (Nat.le_of_ble_eq_true rfl) ⟨rfl, rfl, Nat.le_of_ble_eq_true rfl, Nat.le_of_ble_eq_true rfl⟩ ⟨Nat.zero_le _, Nat.zero_le _⟩ ?_
      refine Z_icmp_ge 11 rfl (tgt := 28) rfl (by omega) (by omega) (fun c21 => ?_) (fun c21 => ?_)
      · refine Z_iconst 14 rfl ?_
        refine Z_zret 15 rfl rfl rfl ⟨Nat.le_refl _, Nat.le_refl _⟩ ?_
        exact ⟨by unfold hasPl; first | rw [bI_t (by omega)] | rw [bI_f (by omega)], rfl⟩
      · refine Z_iconst 12 rfl ?_
        refine Z_goto 13 rfl (tgt := 29) rfl ?_
        refine Z_zret 15 rfl rfl rfl ⟨Nat.le_refl _, Nat.le_refl _⟩ ?_
        exact ⟨by unfold hasPl; first | rw [bI_t (by omega)] | rw [bI_f (by omega)], rfl⟩
theorem c_W_hasPlaces (l : Launch) (P Zs : Int → Int) (hZ : ZB Zs) (r i n : Int) (hr : 0 ≤ r ∧ r < 4) (hi : inI i) (hn : 0 ≤ n ∧ n ≤ 30) : Con l M_W_hasPlaces R_W_hasPlaces 0 0 false [.ref 0, .int (iI r), .int (iI i), .int (iI n)] (eW P Zs) (zAb (n = 0 ∨ (0 ≤ i ∧ i ≤ Zs r - n)) (fun m => m = eW P Zs)) := by
  have z := hZ r
  refine Con.of_Z (by decide) D_W_hasPlaces (Nat.le_of_ble_eq_true rfl) ?_
  refine Z_iload_n 0 rfl rfl rfl ?_
  refine Z_if_eq 1 rfl (tgt := 22) rfl (by omega) (fun c1 => ?_) (fun c1 => ?_)
  · refine Z_iconst 12 rfl ?_
    refine Z_goto 13 rfl (tgt := 27) rfl ?_
    refine Z_zret 15 rfl rfl rfl ⟨Nat.le_refl _, Nat.le_refl _⟩ ?_
    exact ⟨by first | rw [bI_t (by omega)] | rw [bI_f (by omega)], rfl⟩
  · refine Z_iload_n 2 rfl rfl rfl ?_
    refine Z_if_lt 3 rfl (tgt := 26) rfl (by omega) (fun c5 => ?_) (fun c5 => ?_)
    · refine Z_iconst 14 rfl ?_
      refine Z_zret 15 rfl rfl rfl ⟨Nat.le_refl _, Nat.le_refl _⟩ ?_
      exact ⟨by first | rw [bI_t (by omega)] | rw [bI_f (by omega)], rfl⟩
    · refine Z_iload_n 4 rfl rfl rfl ?_
      refine Z_aload_n 5 rfl rfl rfl ?_
      refine Z_get 6 rfl f_W_15 rfl rfl ?_
      refine Z_iload_n 7 rfl rfl rfl ?_
      refine Z_callSNip (M' := M_C_pick) 8 [2] rfl l_W_23 C_C_pick (pick_in l 4 (by omega) Zs r (by omega)) ⟨by decide, (zEL.c (Or.inr ⟨_, _, rfl, rfl, by decide⟩) zEL.n)⟩ rfl rfl rfl (Nat.le_of_ble_eq_true rfl) ⟨rfl, rfl, Nat.le_of_ble_eq_true rfl, Nat.le_of_ble_eq_true rfl⟩ ⟨Nat.zero_le _, Nat.zero_le _⟩ ?_
      refine Z_iload_n 9 rfl rfl rfl ?_
      refine Z_isub 10 rfl ?_
      refine Z_icmp_gt 11 rfl (tgt := 26) rfl (by omega) (by omega) (fun c19 => ?_) (fun c19 => ?_)
      · refine Z_iconst 14 rfl ?_
        refine Z_zret 15 rfl rfl rfl ⟨Nat.le_refl _, Nat.le_refl _⟩ ?_
        exact ⟨by first | rw [bI_t (by omega)] | rw [bI_f (by omega)], rfl⟩
      · refine Z_iconst 12 rfl ?_
        refine Z_goto 13 rfl (tgt := 27) rfl ?_
        refine Z_zret 15 rfl rfl rfl ⟨Nat.le_refl _, Nat.le_refl _⟩ ?_
        exact ⟨by first | rw [bI_t (by omega)] | rw [bI_f (by omega)], rfl⟩
def NOv : Int := -9223372036854775808
def rdP (P Zs : Int → Int) (r i : Int) : Int := if (0 ≤ r ∧ r < 4) ∧ 0 ≤ i ∧ i < Zs r then P (r * 30 + i) else NOv
def wrP (P Zs : Int → Int) (r i v : Int) : Int → Int := if (0 ≤ r ∧ r < 4) ∧ 0 ≤ i ∧ i < Zs r then uI P (r * 30 + i) v else P
theorem c_W_read (l : Launch) (P Zs : Int → Int) (hZ : ZB Zs) (r i : Int) (hr : 0 ≤ r ∧ r < 4) (hi : inI i) : Con l M_W_read R_W_read 0 0 false [.ref 0, .int (iI r), .int (iI i)] (eW P Zs) (zAl (rdP P Zs r i) (fun m => m = eW P Zs)) := by
  have z := hZ r
  refine Con.of_Z (by decide) D_W_read (Nat.le_of_ble_eq_true rfl) ?_
  refine Z_iload_n 0 rfl rfl rfl ?_
  refine Z_bipush 1 rfl rfl ?_
  refine Z_imul 2 rfl ?_
  refine Z_iload_n 3 rfl rfl rfl ?_
  refine Z_iadd 4 rfl ?_
  refine Z_istore_n 5 rfl rfl (Nat.le_of_ble_eq_true rfl) (lv' := [(3, .int _), (0, .ref _), (1, .int _), (2, .int _)]) rfl ?_
  refine Z_aload_n 6 rfl rfl rfl ?_
  refine Z_iload_n 7 rfl rfl rfl ?_
  refine Z_iload_n 8 rfl rfl rfl ?_
  refine Z_callVbp (M' := M_W_hasPlace) 9 [0, 1, 2] rfl l_W_38 C_W_hasPlace (c_W_hasPlace l P Zs hZ r i (by omega) hi) ⟨by decide, (zEL.c (Or.inl rfl) (zEL.c (Or.inl rfl) (zEL.c (Or.inl rfl) zEL.n)))⟩ (Or.inl ⟨_, _, _, _, rfl, rfl⟩) rfl rfl rfl (Nat.le_of_ble_eq_true rfl) ⟨rfl, rfl, Nat.le_of_ble_eq_true rfl, Nat.le_of_ble_eq_true rfl⟩ ⟨Nat.zero_le _, Nat.zero_le _⟩ ?_
  refine Z_ifb_eq 10 rfl (tgt := 38) rfl (fun c13 => ?_) (fun c13 => ?_)
  · refine Z_ldc2 23 rfl k_W_42 (c := -9223372036854775808) rfl ?_
    refine Z_lret 24 rfl rfl ⟨Nat.le_refl _, Nat.le_refl _⟩ ?_
    exact ⟨by unfold rdP; first | rw [if_pos (show (0 ≤ r ∧ r < 4) ∧ 0 ≤ i ∧ i < Zs r from c13)] | rw [if_neg (show ¬ ((0 ≤ r ∧ r < 4) ∧ 0 ≤ i ∧ i < Zs r) from c13)]; rfl, rfl⟩
  · refine Z_iload_n 11 rfl rfl rfl ?_
    refine Z_if_lt 12 rfl (tgt := 38) rfl (by unfold hasPl at c13; omega) (fun c17 => ?_) (fun c17 => ?_)
    · exfalso; unfold hasPl at c13; omega
    refine Z_iload_n 13 rfl rfl rfl ?_
    refine Z_aload_n 14 rfl rfl rfl ?_
    refine Z_get 15 rfl f_W_9 rfl rfl ?_
    refine Z_alL 16 rfl rfl ?_
    refine Z_icmp_ge 17 rfl (tgt := 38) rfl (by unfold hasPl at c13; omega) (by omega) (fun c26 => ?_) (fun c26 => ?_)
    · exfalso; unfold hasPl at c13; omega
    refine Z_aload_n 18 rfl rfl rfl ?_
    refine Z_get 19 rfl f_W_9 rfl rfl ?_
    refine Z_iload_n 20 rfl rfl rfl ?_
    refine Z_la 21 rfl rfl (by unfold hasPl at c13; omega) (by decide) ?_
    refine Z_goto 22 rfl (tgt := 41) rfl ?_
    refine Z_lret 24 rfl rfl ⟨Nat.le_refl _, Nat.le_refl _⟩ ?_
    exact ⟨by unfold rdP; first | rw [if_pos (show (0 ≤ r ∧ r < 4) ∧ 0 ≤ i ∧ i < Zs r from c13)] | rw [if_neg (show ¬ ((0 ≤ r ∧ r < 4) ∧ 0 ≤ i ∧ i < Zs r) from c13)]; rfl, rfl⟩
theorem c_W_write (l : Launch) (P Zs : Int → Int) (hZ : ZB Zs) (r i v : Int) (hr : 0 ≤ r ∧ r < 4) (hi : inI i) : Con l M_W_write R_W_write 0 0 false [.ref 0, .int (iI r), .int (iI i), .long (lI v)] (eW P Zs) (zAv (fun m => m = eW (wrP P Zs r i v) Zs)) := by
  have z := hZ r
  refine Con.of_Z (by decide) D_W_write (Nat.le_of_ble_eq_true rfl) ?_
  refine Z_iload_n 0 rfl rfl rfl ?_
  refine Z_bipush 1 rfl rfl ?_
  refine Z_imul 2 rfl ?_
  refine Z_iload_n 3 rfl rfl rfl ?_
  refine Z_iadd 4 rfl ?_
  refine Z_istore 5 rfl (Nat.le_of_ble_eq_true rfl) (lv' := [(5, .int _), (0, .ref _), (1, .int _), (2, .int _), (3, .long _)]) rfl ?_
  refine Z_aload_n 6 rfl rfl rfl ?_
  refine Z_iload_n 7 rfl rfl rfl ?_
  refine Z_iload_n 8 rfl rfl rfl ?_
  refine Z_callVbp (M' := M_W_hasPlace) 9 [0, 1, 2] rfl l_W_38 C_W_hasPlace (c_W_hasPlace l P Zs hZ r i (by omega) hi) ⟨by decide, (zEL.c (Or.inl rfl) (zEL.c (Or.inl rfl) (zEL.c (Or.inl rfl) zEL.n)))⟩ (Or.inl ⟨_, _, _, _, rfl, rfl⟩) rfl rfl rfl (Nat.le_of_ble_eq_true rfl) ⟨rfl, rfl, Nat.le_of_ble_eq_true rfl, Nat.le_of_ble_eq_true rfl⟩ ⟨Nat.zero_le _, Nat.zero_le _⟩ ?_
  refine Z_ifb_eq 10 rfl (tgt := 40) rfl (fun c14 => ?_) (fun c14 => ?_)
  · refine Z_vret 23 rfl rfl ⟨Nat.le_refl _, Nat.le_refl _⟩ ?_
    exact ⟨rfl, by unfold wrP; first | rw [if_pos (show (0 ≤ r ∧ r < 4) ∧ 0 ≤ i ∧ i < Zs r from c14)] | rw [if_neg (show ¬ ((0 ≤ r ∧ r < 4) ∧ 0 ≤ i ∧ i < Zs r) from c14)]⟩
  · refine Z_iload 11 rfl rfl ?_
    refine Z_if_lt 12 rfl (tgt := 40) rfl (by unfold hasPl at c14; omega) (fun c19 => ?_) (fun c19 => ?_)
    · exfalso; unfold hasPl at c14; omega
    refine Z_iload 13 rfl rfl ?_
    refine Z_aload_n 14 rfl rfl rfl ?_
    refine Z_get 15 rfl f_W_9 rfl rfl ?_
    refine Z_alL 16 rfl rfl ?_
    refine Z_icmp_ge 17 rfl (tgt := 40) rfl (by unfold hasPl at c14; omega) (by omega) (fun c29 => ?_) (fun c29 => ?_)
    · exfalso; unfold hasPl at c14; omega
    refine Z_aload_n 18 rfl rfl rfl ?_
    refine Z_get 19 rfl f_W_9 rfl rfl ?_
    refine Z_iload 20 rfl rfl ?_
    refine Z_lload_n 21 rfl rfl rfl ?_
    refine Z_las 22 rfl rfl (by unfold hasPl at c14; omega) (by decide) (mem' := eW (uI P (r * 30 + i) v) Zs) rfl ?_
    refine Z_vret 23 rfl rfl ⟨Nat.le_refl _, Nat.le_refl _⟩ ?_
    exact ⟨rfl, by unfold wrP; first | rw [if_pos (show (0 ≤ r ∧ r < 4) ∧ 0 ≤ i ∧ i < Zs r from c14)] | rw [if_neg (show ¬ ((0 ≤ r ∧ r < 4) ∧ 0 ≤ i ∧ i < Zs r) from c14)]⟩
/-- a row of n noughts -/
def zer (P : Int → Int) (r n : Int) : Int → Int := fun j => if r * 30 ≤ j ∧ j < r * 30 + n then 0 else P j
theorem zer_0 (P : Int → Int) (r : Int) : zer P r 0 = P := by
  funext j
  unfold zer
  rw [if_neg (by omega)]
theorem zer_s (P Zs : Int → Int) (r i : Int) (hr : 0 ≤ r ∧ r < 4) (hi : 0 ≤ i ∧ i < Zs r) : wrP (zer P r i) Zs r i 0 = zer P r (i + 1) := by
  unfold wrP
  rw [if_pos ⟨hr, hi⟩]
  funext j
  unfold uI zer
  by_cases h : j = r * 30 + i
  · rw [if_pos h, if_pos (by omega)]
  · rw [if_neg h]
    by_cases h2 : r * 30 ≤ j ∧ j < r * 30 + i
    · rw [if_pos h2, if_pos (by omega)]
    · rw [if_neg h2, if_neg (by omega)]
theorem ZB_u {Zs : Int → Int} (h : ZB Zs) {r n : Int} (hn : 0 ≤ n ∧ n ≤ 30) : ZB (uI Zs r n) := by
  intro i
  unfold uI
  split
  · omega
  · exact h i
theorem lp_W_make (l : Launch) (P Zs : Int → Int) (hZ : ZB Zs) (r n : Int) (hr : 0 ≤ r ∧ r < 4) (hn : 0 ≤ n ∧ n ≤ 30) (hz : Zs r = n) : ∀ (d : Nat) (i : Int), 0 ≤ i → i ≤ n → n - i < d → Z (l, M_W_make, R_W_make, (0, 0), false, zAv (fun m => m = eW (zer P r n) Zs)) 0 0 (eW (zer P r i) Zs) 11 [(0, .ref 0), (1, .int (iI r)), (2, .int (iI n)), (3, .int (iI i))] [] := by
  intro d
  induction d with
  | zero => intro i h1 h2 h3; omega
  | succ d ih =>
    intro i h1 h2 h3
    refine Z_iload_n 7 rfl rfl rfl ?_
    refine Z_iload_n 8 rfl rfl rfl ?_
    refine Z_icmp_ge 9 rfl (tgt := 35) rfl (by omega) (by omega) (fun c13 => ?_) (fun c13 => ?_)
    · refine Z_vret 20 rfl rfl ⟨Nat.le_refl _, Nat.le_refl _⟩ ?_
      exact ⟨rfl, by rw [show i = n by omega]⟩
    · refine Z_iload_n 10 rfl rfl rfl ?_
      refine Z_bipush 11 rfl rfl ?_
      refine Z_icmp_ge 12 rfl (tgt := 35) rfl (by omega) (by omega) (fun c19 => ?_) (fun c19 => ?_)
      · refine Z_vret 20 rfl rfl ⟨Nat.le_refl _, Nat.le_refl _⟩ ?_
        exact ⟨rfl, by rw [show i = n by omega]⟩
      · refine Z_aload_n 13 rfl rfl rfl ?_
        refine Z_iload_n 14 rfl rfl rfl ?_
        refine Z_iload_n 15 rfl rfl rfl ?_
        refine Z_lconst 16 rfl ?_
        refine Z_callVv (M' := M_W_write) 17 [0, 1, 2] rfl l_W_34 C_W_write (c_W_write l (zer P r i) Zs hZ r i 0 hr (by omega)) ⟨by decide, (zEL.c (Or.inl rfl) (zEL.c (Or.inl rfl) (zEL.c (Or.inl rfl) zEL.n)))⟩ (Or.inl ⟨_, _, _, _, rfl, rfl⟩) rfl rfl rfl (Nat.le_of_ble_eq_true rfl) ⟨rfl, rfl, Nat.le_of_ble_eq_true rfl, Nat.le_of_ble_eq_true rfl⟩ ⟨Nat.zero_le _, Nat.zero_le _⟩ (fun out hq => ?_)
        obtain rfl := hq
        refine Z_mem (show _ = eW (zer P r (i + 1)) Zs by rw [← zer_s P Zs r i hr (by omega)]; rfl) ?_
        refine Z_iinc 18 rfl rfl (Nat.le_of_ble_eq_true rfl) (lv' := [(3, .int _), (0, .ref _), (1, .int _), (2, .int _)]) rfl ?_
        refine Z_goto 19 rfl (tgt := 11) rfl ?_
        refine Z_pick [0, 1, 2, 3] (lv' := [(0, .ref _), (1, .int _), (2, .int _), (3, .int _)]) rfl ?_
        exact ih (i + 1) (by omega) (by omega) (by omega)
theorem c_W_make (l : Launch) (P Zs : Int → Int) (hZ : ZB Zs) (r n : Int) (hr : 0 ≤ r ∧ r < 4) (hn : 0 ≤ n ∧ n ≤ 30) : Con l M_W_make R_W_make 0 0 false [.ref 0, .int (iI r), .int (iI n)] (eW P Zs) (zAv (fun m => m = eW (zer P r n) (uI Zs r n))) := by
  refine Con.of_Z (by decide) D_W_make (Nat.le_of_ble_eq_true rfl) ?_
  refine Z_aload_n 0 rfl rfl rfl ?_
  refine Z_get 1 rfl f_W_15 rfl rfl ?_
  refine Z_iload_n 2 rfl rfl rfl ?_
  refine Z_iload_n 3 rfl rfl rfl ?_
  refine Z_callSNv (M' := M_C_store) 4 [2] rfl l_W_30 C_C_store (c_C_store l 4 (by omega) Zs r n (by omega)) ⟨by decide, (zEL.c (Or.inl rfl) zEL.n)⟩ rfl rfl rfl (Nat.le_of_ble_eq_true rfl) ⟨rfl, rfl, Nat.le_of_ble_eq_true rfl, Nat.le_of_ble_eq_true rfl⟩ ⟨Nat.zero_le _, Nat.zero_le _⟩ (fun out hq => ?_)
  obtain rfl := hq
  refine Z_mem (show _ = eW P (uI Zs r n) by rw [stI_in (by omega)]; rfl) ?_
  refine Z_iconst 5 rfl ?_
  refine Z_istore_n 6 rfl rfl (Nat.le_of_ble_eq_true rfl) (lv' := [(3, .int _), (0, .ref _), (1, .int _), (2, .int _)]) rfl ?_
  refine Z_pick [0, 1, 2, 3] (lv' := [(0, .ref _), (1, .int _), (2, .int _), (3, .int _)]) rfl ?_
  have h9 := lp_W_make l P (uI Zs r n) (ZB_u hZ hn) r n hr hn (uI_s Zs r n) 31 0 (by omega) (by omega) (by omega)
  rw [zer_0] at h9
  exact h9
end
section
/-! CamPieces: the whole object; what stands at an angle, seen from a side -/
abbrev RJ : Type := TT × Int × Int × Int × Int × Int
abbrev PS : Type := TT × (Int → Int) × TT × (Int → Int) × Int × Int × (Int → Int) × Int × (Int → Int) × (Int → Int)
abbrev PS.t (p : PS) : TT := p.1
abbrev PS.s (p : PS) : Int → Int := p.2.1
abbrev PS.pt (p : PS) : TT := p.2.2.1
abbrev PS.ps (p : PS) : Int → Int := p.2.2.2.1
abbrev PS.ip (p : PS) : Int := p.2.2.2.2.1
abbrev PS.lc (p : PS) : Int := p.2.2.2.2.2.1
abbrev PS.tb (p : PS) : Int → Int := p.2.2.2.2.2.2.1
abbrev PS.ts (p : PS) : Int := p.2.2.2.2.2.2.2.1
abbrev PS.rp (p : PS) : Int → Int := p.2.2.2.2.2.2.2.2.1
abbrev PS.rz (p : PS) : Int → Int := p.2.2.2.2.2.2.2.2.2
def leF (i : Int) : Int := if i = 0 then 1 else if i = 1 then 1 else if i = 5 then 1 else 0
def moF (i : Int) : Int := if i = 0 then 999 else if i = 1 then 20 else if i = 2 then 99 else if i = 3 then 9999 else if i = 4 then 30 else 1000
def fiF (i : Int) : Int := if i = 0 then 100 else if i = 1 then 1 else if i = 2 then 1 else if i = 3 then 10 else if i = 4 then 1 else 100
def wdL : List (List Int) := [[100, 119, 101, 108, 108], [108, 105, 110, 101], [115, 116, 97, 114, 116], [115, 116, 111, 112], [99, 117, 98, 105, 99], [113, 117, 105, 110, 116, 105, 99]]
def stB (k : Nat) (j : Int) : Int := (wdL.getD k []).getD j.toNat 0
def eC (p : PS) (rj : RJ) (s : SS) (w : WW) (g : RR) (q q2 : Int × Int) (sm co : Int → Int) : List zE := [
  zO 7 [.ref 1, .ref 5, .ref 6, .ref 10, .int (iI p.ip), .ref 11, .int (iI p.lc), .ref 17, .ref 20, .ref 21, .ref 22, .ref 23, .ref 24, .ref 25, .ref 26],
  zO 5 [.ref 2, .ref 3, .ref 4, .int (iI p.t.2.2.2)], aI 12 p.t.1, aI 12 p.t.2.1, aI 12 p.t.2.2.1,
  aI 6 p.s,
  zO 5 [.ref 7, .ref 8, .ref 9, .int (iI p.pt.2.2.2)], aI 12 p.pt.1, aI 12 p.pt.2.1, aI 12 p.pt.2.2.1,
  aI 6 p.ps,
  zO 2 [.ref 12, .int (iI p.ts), .ref 13, .int (iI rj.2.1), .int (iI rj.2.2.1), .int (iI rj.2.2.2.1), .int (iI rj.2.2.2.2.1), .int (iI rj.2.2.2.2.2)], aI 120 p.tb,
  zO 5 [.ref 14, .ref 15, .ref 16, .int (iI rj.1.2.2.2)], aI 12 rj.1.1, aI 12 rj.1.2.1, aI 12 rj.1.2.2.1,
  zO 3 [.ref 18, .ref 19], aL 120 p.rp, aI 4 p.rz,
  oS s, oK w, zO 0 [.long (lI g.1), .long (lI g.2.1), .int (iI g.2.2)], zO 1 [.long (lI q.1), .long (lI q.2)], zO 1 [.long (lI q2.1), .long (lI q2.2)],
  aL 361 sm, aI 12 co,
  zT [("CamPieces", "LEAST_SETTINGS", "[I", .ref 28), ("CamPieces", "MOST_SETTINGS", "[I", .ref 29), ("CamPieces", "FIRST_SETTINGS", "[I", .ref 30), ("java/lang/String", "COMPACT_STRINGS", "Z", .int (iI 1))],
  aR 6 leF, aR 6 moF, aR 6 fiF,
  zS 0 37, zS 1 38, zS 2 39, zS 3 40, zS 4 41, zS 5 42,
  aB 5 (stB 0), aB 4 (stB 1), aB 5 (stB 2), aB 4 (stB 3), aB 5 (stB 4), aB 7 (stB 5), zU]

def isC : List Nat := [0, 1, 2, 3, 4, 5, 6, 7, 8, 9, 10, 11, 12, 13, 14, 15, 16, 17, 18, 19, 20, 21, 22, 23, 24, 25, 26, 27, 28, 29, 30, 31, 32, 33, 34, 35, 36, 37, 38, 39, 40, 41, 42, 43]
theorem emC (p : PS) (rj : RJ) (s : SS) (w : WW) (g : RR) (q q2 : Int × Int) (sm co : Int → Int) : zEmb isC (eC p rj s w g q q2 sm co) (eC p rj s w g q q2 sm co) := ⟨by decide +kernel, (zEL.c (Or.inl rfl) (zEL.c (Or.inl rfl) (zEL.c (Or.inl rfl) (zEL.c (Or.inl rfl) (zEL.c (Or.inl rfl) (zEL.c (Or.inl rfl) (zEL.c (Or.inl rfl) (zEL.c (Or.inl rfl) (zEL.c (Or.inl rfl) (zEL.c (Or.inl rfl) (zEL.c (Or.inl rfl) (zEL.c (Or.inl rfl) (zEL.c (Or.inl rfl) (zEL.c (Or.inl rfl) (zEL.c (Or.inl rfl) (zEL.c (Or.inl rfl) (zEL.c (Or.inl rfl) (zEL.c (Or.inl rfl) (zEL.c (Or.inl rfl) (zEL.c (Or.inl rfl) (zEL.c (Or.inl rfl) (zEL.c (Or.inl rfl) (zEL.c (Or.inl rfl) (zEL.c (Or.inl rfl) (zEL.c (Or.inl rfl) (zEL.c (Or.inl rfl) (zEL.c (Or.inl rfl) (zEL.c (Or.inl rfl) (zEL.c (Or.inl rfl) (zEL.c (Or.inl rfl) (zEL.c (Or.inl rfl) (zEL.c (Or.inl rfl) (zEL.c (Or.inl rfl) (zEL.c (Or.inl rfl) (zEL.c (Or.inl rfl) (zEL.c (Or.inl rfl) (zEL.c (Or.inl rfl) (zEL.c (Or.inl rfl) (zEL.c (Or.inl rfl) (zEL.c (Or.inl rfl) (zEL.c (Or.inl rfl) (zEL.c (Or.inl rfl) (zEL.c (Or.inl rfl) (zEL.c (Or.inl rfl) zEL.n))))))))))))))))))))))))))))))))))))))))))))⟩
/-- a callee that has the caller's whole world gives it back whole -/
def zSame (f : Nat → Nat) : List zE → List zE → Prop
  | e :: out, m :: mem => (renE f e = e ∧ (zrw e = false → m = e)) ∧ zSame f out mem
  | [], [] => True
  | _, _ => False
theorem zSame_at {f : Nat → Nat} : ∀ {out mem : List zE}, zSame f out mem → out.length = mem.length ∧ ∀ (k : Nat) (e : zE), out[k]? = some e → renE f e = e ∧ (zrw e = false → mem[k]? = some e) := by
  intro out
  induction out with
  | nil =>
    intro mem h
    cases mem with
    | nil => exact ⟨rfl, fun k e h => by simp at h⟩
    | cons m mem => exact h.elim
  | cons e out ih =>
    intro mem h
    cases mem with
    | nil => exact h.elim
    | cons m mem =>
      obtain ⟨h1, h2⟩ := ih h.2
      refine ⟨by simp [h1], fun k x hk => ?_⟩
      cases k with
      | zero =>
        simp at hk
        subst hk
        exact ⟨h.1.1, fun z => by simp [h.1.2 z]⟩
      | succ k =>
        simp at hk
        simpa using h2 k x hk
theorem mg_all {is : List Nat} {out mem : List zE} (hi : ∀ j, j < is.length → is[j]? = some j) (hl : is.length = out.length) (hnd : is.Nodup) (h : zSame (zr is) out mem) : zMg (zr is) is out mem = out := by
  obtain ⟨h1, h2⟩ := zSame_at h
  refine List.ext_getElem? (fun k => ?_)
  have hlen := zMg_len (zr is) is out mem
  by_cases hk : k < out.length
  · have e1 : (zMg (zr is) is out mem)[k]? = some ((zMg (zr is) is out mem)[k]'(by omega)) := List.getElem?_eq_getElem _
    have e2 : out[k]? = some (out[k]'hk) := List.getElem?_eq_getElem _
    rw [e1, e2]
    congr 1
    rcases zMg_at hnd e1 with ⟨j, e, g1, g2, g3, g4⟩ | ⟨g1, g2⟩
    · have hj := (List.getElem?_eq_some_iff.mp g1).1
      have hjk : j = k := Option.some.inj ((hi j hj).symm.trans g1)
      rw [hjk] at g2
      rw [g4, (h2 k e g2).1]
      exact Option.some.inj (g2.symm.trans e2)
    · have := g2 k _ (hi k (by omega)) e2
      exact Option.some.inj (g1.symm.trans ((h2 k _ e2).2 this))
  · rw [List.getElem?_eq_none (by omega), List.getElem?_eq_none (by omega)]
theorem isC_at : ∀ j, j < isC.length → isC[j]? = some j := by decide +kernel
theorem isC_nd : isC.Nodup := by decide +kernel
theorem mgC (p p' : PS) (rj rj' : RJ) (s s' : SS) (w w' : WW) (g g' : RR) (q q' q2 q2' : Int × Int) (sm sm' co co' : Int → Int) : zMg (zr isC) isC (eC p' rj' s' w' g' q' q2' sm' co') (eC p rj s w g q q2 sm co) = eC p' rj' s' w' g' q' q2' sm' co' :=
  mg_all isC_at rfl isC_nd ⟨⟨rfl, fun z => by cases z⟩, ⟨⟨rfl, fun z => by cases z⟩, ⟨⟨rfl, fun z => by cases z⟩, ⟨⟨rfl, fun z => by cases z⟩, ⟨⟨rfl, fun z => by cases z⟩, ⟨⟨rfl, fun z => by cases z⟩, ⟨⟨rfl, fun z => by cases z⟩, ⟨⟨rfl, fun z => by cases z⟩, ⟨⟨rfl, fun z => by cases z⟩, ⟨⟨rfl, fun z => by cases z⟩, ⟨⟨rfl, fun z => by cases z⟩, ⟨⟨rfl, fun z => by cases z⟩, ⟨⟨rfl, fun z => by cases z⟩, ⟨⟨rfl, fun z => by cases z⟩, ⟨⟨rfl, fun z => by cases z⟩, ⟨⟨rfl, fun z => by cases z⟩, ⟨⟨rfl, fun z => by cases z⟩, ⟨⟨rfl, fun z => by cases z⟩, ⟨⟨rfl, fun z => by cases z⟩, ⟨⟨rfl, fun z => by cases z⟩, ⟨⟨rfl, fun z => by cases z⟩, ⟨⟨rfl, fun z => by cases z⟩, ⟨⟨rfl, fun z => by cases z⟩, ⟨⟨rfl, fun z => by cases z⟩, ⟨⟨rfl, fun z => by cases z⟩, ⟨⟨rfl, fun z => by cases z⟩, ⟨⟨rfl, fun z => by cases z⟩, ⟨⟨rfl, fun _ => rfl⟩, ⟨⟨rfl, fun _ => rfl⟩, ⟨⟨rfl, fun _ => rfl⟩, ⟨⟨rfl, fun _ => rfl⟩, ⟨⟨rfl, fun _ => rfl⟩, ⟨⟨rfl, fun _ => rfl⟩, ⟨⟨rfl, fun _ => rfl⟩, ⟨⟨rfl, fun _ => rfl⟩, ⟨⟨rfl, fun _ => rfl⟩, ⟨⟨rfl, fun _ => rfl⟩, ⟨⟨rfl, fun _ => rfl⟩, ⟨⟨rfl, fun _ => rfl⟩, ⟨⟨rfl, fun _ => rfl⟩, ⟨⟨rfl, fun _ => rfl⟩, ⟨⟨rfl, fun _ => rfl⟩, ⟨⟨rfl, fun _ => rfl⟩, ⟨⟨rfl, fun _ => rfl⟩, trivial⟩⟩⟩⟩⟩⟩⟩⟩⟩⟩⟩⟩⟩⟩⟩⟩⟩⟩⟩⟩⟩⟩⟩⟩⟩⟩⟩⟩⟩⟩⟩⟩⟩⟩⟩⟩⟩⟩⟩⟩⟩⟩⟩⟩
def SB (s : Int → Int) : Prop := (1 ≤ s 0 ∧ s 0 ≤ 999) ∧ (1 ≤ s 1 ∧ s 1 ≤ 20) ∧ (0 ≤ s 2 ∧ s 2 ≤ 99) ∧ (0 ≤ s 3 ∧ s 3 ≤ 9999) ∧ (0 ≤ s 4 ∧ s 4 ≤ 30) ∧ (1 ≤ s 5 ∧ s 5 ≤ 1000)
theorem SB_i {s : Int → Int} (h : SB s) {i : Int} (hi : 0 ≤ i ∧ i < 6) : 0 ≤ s i ∧ s i ≤ 9999 := by
  unfold SB at h
  rcases (show i = 0 ∨ i = 1 ∨ i = 2 ∨ i = 3 ∨ i = 4 ∨ i = 5 by omega) with e | e | e | e | e | e <;> subst e <;> omega
def PV (p : PS) : Prop := TV p.t ∧ SB p.s ∧ TV p.pt ∧ (p.ip = 0 ∨ (p.ip = 1 ∧ SB p.ps)) ∧ (-5 ≤ p.lc ∧ p.lc ≤ 7) ∧ (∀ i, 0 ≤ p.tb i ∧ p.tb i ≤ 127) ∧ (0 ≤ p.ts ∧ p.ts ≤ 120) ∧ (∀ i, inL (p.rp i)) ∧ ZB p.rz
/-- what stands at an angle as seen from a side -/
def At (t : TT) (a sd k u : Int) : Prop :=
  (0 ≤ k ∧ k < t.2.2.2 ∧ a = bg t k + u ∧ ((sd = 0 ∧ 0 < u ∧ u ≤ t.2.1 k) ∨ (sd = 1 ∧ 0 ≤ u ∧ u < t.2.1 k)))
  ∨ (clo t ∧ 0 < t.2.2.2 ∧ ((sd = 0 ∧ a = 0 ∧ k = t.2.2.2 - 1 ∧ u = t.2.1 (t.2.2.2 - 1)) ∨ (sd = 1 ∧ a = tot t ∧ k = 0 ∧ u = 0)))
theorem At_in {t : TT} (h : TV t) {a sd k u : Int} (hA : At t a sd k u) : (0 ≤ k ∧ k < t.2.2.2 ∧ k < 12) ∧ (0 ≤ u ∧ u ≤ t.2.1 k) ∧ (0 ≤ a ∧ a ≤ tot t) ∧ (sd = 0 ∨ sd = 1) ∧ (a = 0 → sd = 0 → clo t) ∧ (a = tot t → sd = 1 → clo t) := by
  have h1 := h.1.1
  rcases hA with ⟨a1, a2, a3, a4⟩ | ⟨a1, a2, a3⟩
  · have b0 := bg_mono h.1 (Int.le_refl 0) a1
    have b1 := bg_mono h.1 (show 0 ≤ k + 1 by omega) (show k + 1 ≤ t.2.2.2 by omega)
    rw [bg_s t a1] at b1
    rw [bg_0] at b0
    have e : tot t = bg t t.2.2.2 := rfl
    refine ⟨⟨a1, a2, by omega⟩, by omega, by omega, by omega, fun x y => by omega, fun x y => by omega⟩
  · have b0 := bg_mono h.1 (Int.le_refl 0) h1.1
    rw [bg_0] at b0
    have e : tot t = bg t t.2.2.2 := rfl
    have l0 := h.1.2.2.1 0
    have l1 := h.1.2.2.1 (t.2.2.2 - 1)
    rcases a3 with ⟨c1, c2, c3, c4⟩ | ⟨c1, c2, c3, c4⟩
    · subst c3
      exact ⟨by omega, by omega, by omega, by omega, fun _ _ => a1, fun _ _ => a1⟩
    · subst c3
      exact ⟨by omega, by omega, by omega, by omega, fun _ _ => a1, fun _ _ => a1⟩
theorem At_un {t : TT} (h : TV t) {a sd k u k' u' : Int} (hA : At t a sd k u) (hB : At t a sd k' u') : k = k' ∧ u = u' := by
  have lt : ∀ {k k' u u' : Int}, 0 ≤ k → k < k' → k' < t.2.2.2 → a = bg t k + u → a = bg t k' + u' → ((sd = 0 ∧ 0 < u ∧ u ≤ t.2.1 k) ∨ (sd = 1 ∧ 0 ≤ u ∧ u < t.2.1 k)) → ((sd = 0 ∧ 0 < u' ∧ u' ≤ t.2.1 k') ∨ (sd = 1 ∧ 0 ≤ u' ∧ u' < t.2.1 k')) → False := by
    intro k k' u u' h1 h2 h3 h4 h5 h6 h7
    have b1 := bg_mono h.1 (show 0 ≤ k + 1 by omega) (show k + 1 ≤ k' by omega)
    rw [bg_s t h1] at b1
    omega
  have mx : ∀ {k u k' u' : Int}, 0 ≤ k → k < t.2.2.2 → a = bg t k + u → ((sd = 0 ∧ 0 < u ∧ u ≤ t.2.1 k) ∨ (sd = 1 ∧ 0 ≤ u ∧ u < t.2.1 k)) → ((sd = 0 ∧ a = 0 ∧ k' = t.2.2.2 - 1 ∧ u' = t.2.1 (t.2.2.2 - 1)) ∨ (sd = 1 ∧ a = tot t ∧ k' = 0 ∧ u' = 0)) → False := by
    intro k u k' u' h1 h2 h3 h4 h5
    have b0 := bg_mono h.1 (Int.le_refl 0) h1
    have b1 := bg_mono h.1 (show 0 ≤ k + 1 by omega) (show k + 1 ≤ t.2.2.2 by omega)
    rw [bg_s t h1] at b1
    rw [bg_0] at b0
    have e : tot t = bg t t.2.2.2 := rfl
    omega
  rcases hA with ⟨a1, a2, a3, a4⟩ | ⟨a1, a2, a3⟩ <;> rcases hB with ⟨b1, b2, b3, b4⟩ | ⟨b1, b2, b3⟩
  · rcases Int.lt_trichotomy k k' with c | c | c
    · exact (lt a1 c b2 a3 b3 a4 b4).elim
    · subst c; exact ⟨rfl, by omega⟩
    · exact (lt b1 c a2 b3 a3 b4 a4).elim
  · exact (mx a1 a2 a3 a4 b3).elim
  · exact (mx b1 b2 b3 b4 a3).elim
  · omega
section C1
variable (l : Launch) (p : PS) (rj : RJ) (s : SS) (w : WW) (g : RR) (q q2 : Int × Int) (sm co : Int → Int)
theorem c_C_setting (h : PV p) (i : Int) (hi : 0 ≤ i ∧ i < 6) : Con l M_C_setting R_C_setting 0 0 false [.ref 0, .int (iI i)] (eC p rj s w g q q2 sm co) (zAl (p.s i) (fun m => m = eC p rj s w g q q2 sm co)) := by
  have hs := SB_i h.2.1 hi
  refine Con.of_Z (by decide) D_C_setting (Nat.le_of_ble_eq_true rfl) ?_
  refine Z_aload_n 0 rfl rfl rfl ?_
  refine Z_get 1 rfl f_C_18 rfl rfl ?_
  refine Z_iload_n 2 rfl rfl rfl ?_
  refine Z_callSip (M' := M_C_pick) 3 [5] rfl l_C_148 C_C_pick (pick_in l 6 (by omega) p.s i (by omega)) ⟨by decide, (zEL.c (Or.inr ⟨_, _, rfl, rfl, by decide⟩) zEL.n)⟩ rfl rfl rfl (Nat.le_of_ble_eq_true rfl) ⟨rfl, rfl, Nat.le_of_ble_eq_true rfl, Nat.le_of_ble_eq_true rfl⟩ ⟨Nat.zero_le _, Nat.zero_le _⟩ ?_
  refine Z_i2l 4 rfl (by omega) ?_
  refine Z_lret 5 rfl rfl ⟨Nat.le_refl _, Nat.le_refl _⟩ ?_
  exact ⟨rfl, rfl⟩
theorem c_C_standIn (h : PV p) (k u : Int) (hk : 0 ≤ k ∧ k < p.t.2.2.2) (hu : inI u) : Con l M_C_standIn R_C_standIn 0 0 false [.ref 0, .int (iI k), .int (iI u)] (eC p rj s w g q q2 sm co) (zAb True (fun m => m = eC p rj (pl p.t k u) w g q q2 sm co)) := by
  have h1 := h.1.1.1
  have b1 := h.1.1.2.1 k
  have b2 := h.1.1.2.2.1 k
  have b3 := h.1.1.2.2.2 k
  have b4 : inI (ah p.t k) := by have := ah_bd h.1.1 (show k ≤ 12 by omega); omega
  refine Con.of_Z (by decide) D_C_standIn (Nat.le_of_ble_eq_true rfl) ?_
  refine Z_aload_n 0 rfl rfl rfl ?_
  refine Z_get 1 rfl f_C_53 rfl rfl ?_
  refine Z_aload_n 2 rfl rfl rfl ?_
  refine Z_get 3 rfl f_C_14 rfl rfl ?_
  refine Z_iload_n 4 rfl rfl rfl ?_
  refine Z_callVip (M' := M_T_kindOf) 5 [1, 2, 3, 4] rfl l_C_121 C_T_kindOf (c_T_kindOf l p.t k (by omega)) ⟨by decide, (zEL.c (Or.inl rfl) (zEL.c (Or.inl rfl) (zEL.c (Or.inl rfl) (zEL.c (Or.inl rfl) zEL.n))))⟩ (Or.inl ⟨_, _, _, _, rfl, rfl⟩) rfl rfl rfl (Nat.le_of_ble_eq_true rfl) ⟨rfl, rfl, Nat.le_of_ble_eq_true rfl, Nat.le_of_ble_eq_true rfl⟩ ⟨Nat.zero_le _, Nat.zero_le _⟩ ?_
  refine Z_aload_n 6 rfl rfl rfl ?_
  refine Z_get 7 rfl f_C_14 rfl rfl ?_
  refine Z_iload_n 8 rfl rfl rfl ?_
  refine Z_callVip (M' := M_T_longOf) 9 [1, 2, 3, 4] rfl l_C_125 C_T_longOf (c_T_longOf l p.t k (by omega)) ⟨by decide, (zEL.c (Or.inl rfl) (zEL.c (Or.inl rfl) (zEL.c (Or.inl rfl) (zEL.c (Or.inl rfl) zEL.n))))⟩ (Or.inl ⟨_, _, _, _, rfl, rfl⟩) rfl rfl rfl (Nat.le_of_ble_eq_true rfl) ⟨rfl, rfl, Nat.le_of_ble_eq_true rfl, Nat.le_of_ble_eq_true rfl⟩ ⟨Nat.zero_le _, Nat.zero_le _⟩ ?_
  refine Z_i2l 10 rfl (by omega) ?_
  refine Z_aload_n 11 rfl rfl rfl ?_
  refine Z_get 12 rfl f_C_14 rfl rfl ?_
  refine Z_iload_n 13 rfl rfl rfl ?_
  refine Z_callVip (M' := M_T_riseOf) 14 [1, 2, 3, 4] rfl l_C_128 C_T_riseOf (c_T_riseOf l p.t k (by omega)) ⟨by decide, (zEL.c (Or.inl rfl) (zEL.c (Or.inl rfl) (zEL.c (Or.inl rfl) (zEL.c (Or.inl rfl) zEL.n))))⟩ (Or.inl ⟨_, _, _, _, rfl, rfl⟩) rfl rfl rfl (Nat.le_of_ble_eq_true rfl) ⟨rfl, rfl, Nat.le_of_ble_eq_true rfl, Nat.le_of_ble_eq_true rfl⟩ ⟨Nat.zero_le _, Nat.zero_le _⟩ ?_
  refine Z_i2l 15 rfl (by omega) ?_
  refine Z_aload_n 16 rfl rfl rfl ?_
  refine Z_get 17 rfl f_C_14 rfl rfl ?_
  refine Z_iload_n 18 rfl rfl rfl ?_
  refine Z_callVip (M' := M_T_liftOf) 19 [1, 2, 3, 4] rfl l_C_142 C_T_liftOf (c_T_liftOf l p.t h.1.1 k k (by omega) (by omega)) ⟨by decide, (zEL.c (Or.inl rfl) (zEL.c (Or.inl rfl) (zEL.c (Or.inl rfl) (zEL.c (Or.inl rfl) zEL.n))))⟩ (Or.inl ⟨_, _, _, _, rfl, rfl⟩) rfl rfl rfl (Nat.le_of_ble_eq_true rfl) ⟨rfl, rfl, Nat.le_of_ble_eq_true rfl, Nat.le_of_ble_eq_true rfl⟩ ⟨Nat.zero_le _, Nat.zero_le _⟩ ?_
  refine Z_i2l 20 rfl b4 ?_
  refine Z_iload_n 21 rfl rfl rfl ?_
  refine Z_i2l 22 rfl (by omega) ?_
  refine Z_callVv (M' := M_S_stand) 23 [20] rfl l_C_365 C_S_stand (c_S_stand l s (p.t.1 k) (p.t.2.1 k) (p.t.2.2.1 k) (ah p.t k) u (by omega)) ⟨by decide, (zEL.c (Or.inl rfl) zEL.n)⟩ (Or.inl ⟨_, _, _, _, rfl, rfl⟩) rfl rfl rfl (Nat.le_of_ble_eq_true rfl) ⟨rfl, rfl, Nat.le_of_ble_eq_true rfl, Nat.le_of_ble_eq_true rfl⟩ ⟨Nat.zero_le _, Nat.zero_le _⟩ (fun out hq => ?_)
  obtain rfl := hq
  refine Z_mem (show _ = eC p rj (pl p.t k u) w g q q2 sm co from rfl) ?_
  refine Z_iconst 24 rfl ?_
  refine Z_zret 25 rfl rfl rfl ⟨Nat.le_refl _, Nat.le_refl _⟩ ?_
  exact ⟨bT trivial, rfl⟩
def PAt (a sd : Int) : List zE → Prop := fun m => ∃ s', m = eC p rj s' w g q q2 sm co ∧ ∀ k u, At p.t a sd k u → s' = pl p.t k u
theorem lp_C_standAt (h : PV p) (a sd : Int) (hsd : sd = 0 ∨ sd = 1) (ha : 0 ≤ a ∧ a ≤ tot p.t) (h0 : a = 0 → sd = 1) (h9 : a = tot p.t → sd = 0) : ∀ (d : Nat) (k : Int), 0 ≤ k → k ≤ p.t.2.2.2 → p.t.2.2.2 - k < d → (sd = 0 → bg p.t k < a) → (sd = 1 → bg p.t k ≤ a) → Z (l, M_C_standAt, R_C_standAt, (0, 0), false, zAb (∃ k u, At p.t a sd k u) (PAt p rj w g q q2 sm co a sd)) 0 0 (eC p rj s w g q q2 sm co) 128 [(0, .ref 0), (1, .int (iI a)), (2, .int (iI sd)), (3, .int (iI p.t.2.2.2)), (4, .int (iI (tot p.t))), (5, .int (iI (bg p.t k))), (6, .int (iI k))] [] := by
  have h1 := h.1.1.1
  have ht := tot_bd h.1.1
  intro d
  induction d with
  | zero => intro k h2 h3 h4; omega
  | succ d ih =>
    intro k h2 h3 h4 h5 h6
    have e := bg_s p.t h2
    have b := bg_bd h.1.1 (show k ≤ 12 by omega)
    have b2 := h.1.1.2.2.1 k
    refine Z_iload 69 rfl rfl ?_
    refine Z_iload_n 70 rfl rfl rfl ?_
    refine Z_icmp_ge 71 rfl (tgt := 221) rfl (by omega) (by omega) (fun c131 => ?_) (fun c131 => ?_)
    · exfalso; have e1 : k = p.t.2.2.2 := by omega
      rw [e1] at h5 h6
      have e2 : tot p.t = bg p.t p.t.2.2.2 := rfl
      omega
    refine Z_iload_n 72 rfl rfl rfl ?_
    refine Z_iload 73 rfl rfl ?_
    refine Z_isub 74 rfl ?_
    refine Z_istore 75 rfl (Nat.le_of_ble_eq_true rfl) (lv' := [(7, .int _), (0, .ref _), (1, .int _), (2, .int _), (3, .int _), (4, .int _), (5, .int _), (6, .int _)]) rfl ?_
    refine Z_aload_n 76 rfl rfl rfl ?_
    refine Z_get 77 rfl f_C_14 rfl rfl ?_
    refine Z_iload 78 rfl rfl ?_
    refine Z_callVip (M' := M_T_longOf) 79 [1, 2, 3, 4] rfl l_C_125 C_T_longOf (c_T_longOf l p.t k (by omega)) ⟨by decide, (zEL.c (Or.inl rfl) (zEL.c (Or.inl rfl) (zEL.c (Or.inl rfl) (zEL.c (Or.inl rfl) zEL.n))))⟩ (Or.inl ⟨_, _, _, _, rfl, rfl⟩) rfl rfl rfl (Nat.le_of_ble_eq_true rfl) ⟨rfl, rfl, Nat.le_of_ble_eq_true rfl, Nat.le_of_ble_eq_true rfl⟩ ⟨Nat.zero_le _, Nat.zero_le _⟩ ?_
    refine Z_istore 80 rfl (Nat.le_of_ble_eq_true rfl) (lv' := [(8, .int _), (7, .int _), (0, .ref _), (1, .int _), (2, .int _), (3, .int _), (4, .int _), (5, .int _), (6, .int _)]) rfl ?_
    refine Z_iload_n 81 rfl rfl rfl ?_
    refine Z_if_ne 82 rfl (tgt := 175) rfl (by omega) (fun c152 => ?_) (fun c152 => ?_)
    · refine Z_iload 92 rfl rfl ?_
      refine Z_if_lt 93 rfl (tgt := 191) rfl (by omega) (fun c177 => ?_) (fun c177 => ?_)
      · refine Z_iconst 99 rfl ?_
        refine Z_istore 100 rfl (Nat.le_of_ble_eq_true rfl) (lv' := [(9, .int _), (8, .int _), (7, .int _), (0, .ref _), (1, .int _), (2, .int _), (3, .int _), (4, .int _), (5, .int _), (6, .int _)]) rfl ?_
        refine Z_iload 101 rfl rfl ?_
        refine Z_if_eq 102 rfl (tgt := 208) rfl (by omega) (fun c196 => ?_) (fun c196 => ?_)
        · refine Z_iload 108 rfl rfl ?_
          refine Z_iload 109 rfl rfl ?_
          refine Z_iadd 110 rfl ?_
          refine Z_ci e.symm ?_
          refine Z_istore 111 rfl (Nat.le_of_ble_eq_true rfl) (lv' := [(5, .int _), (9, .int _), (8, .int _), (7, .int _), (0, .ref _), (1, .int _), (2, .int _), (3, .int _), (4, .int _), (6, .int _)]) rfl ?_
          refine Z_iinc 112 rfl rfl (Nat.le_of_ble_eq_true rfl) (lv' := [(6, .int _), (5, .int _), (9, .int _), (8, .int _), (7, .int _), (0, .ref _), (1, .int _), (2, .int _), (3, .int _), (4, .int _)]) rfl ?_
          refine Z_goto 113 rfl (tgt := 128) rfl ?_
          refine Z_pick [0, 1, 2, 3, 4, 5, 6] (lv' := [(0, .ref _), (1, .int _), (2, .int _), (3, .int _), (4, .int _), (5, .int _), (6, .int _)]) rfl ?_
          exact ih (k + 1) (by omega) (by omega) (by omega) (by omega) (by omega)
        · refine Z_aload_n 103 rfl rfl rfl ?_
          refine Z_iload 104 rfl rfl ?_
          refine Z_iload 105 rfl rfl ?_
          refine Z_callVb (M' := M_C_standIn) 106 isC rfl l_C_362 C_C_standIn (c_C_standIn l p rj s w g q q2 sm co h k (a - bg p.t k) (by omega) (by omega)) (emC ..) (Or.inl ⟨_, _, _, _, rfl, rfl⟩) rfl rfl rfl (Nat.le_of_ble_eq_true rfl) ⟨rfl, rfl, Nat.le_of_ble_eq_true rfl, Nat.le_of_ble_eq_true rfl⟩ ⟨Nat.zero_le _, Nat.zero_le _⟩ (fun out hq => ?_)
          obtain rfl := hq
          refine Z_mem (mgC ..) ?_
          refine Z_zret 107 rfl rfl (bI_nar _) ⟨Nat.le_refl _, Nat.le_refl _⟩ ?_
          first
            | (exfalso; omega)
            | (have hA : At p.t a sd k (a - bg p.t k) := Or.inl ⟨h2, by omega, by omega, by omega⟩
               exact ⟨by rw [bI_t trivial, bI_t ⟨_, _, hA⟩], _, rfl, fun k' u' hB => by obtain ⟨rfl, rfl⟩ := At_un h.1 hA hB; rfl⟩)
      · refine Z_iload 94 rfl rfl ?_
        refine Z_iload 95 rfl rfl ?_
        refine Z_icmp_ge 96 rfl (tgt := 191) rfl (by omega) (by omega) (fun c184 => ?_) (fun c184 => ?_)
        · refine Z_iconst 99 rfl ?_
          refine Z_istore 100 rfl (Nat.le_of_ble_eq_true rfl) (lv' := [(9, .int _), (8, .int _), (7, .int _), (0, .ref _), (1, .int _), (2, .int _), (3, .int _), (4, .int _), (5, .int _), (6, .int _)]) rfl ?_
          refine Z_iload 101 rfl rfl ?_
          refine Z_if_eq 102 rfl (tgt := 208) rfl (by omega) (fun c196 => ?_) (fun c196 => ?_)
          · refine Z_iload 108 rfl rfl ?_
            refine Z_iload 109 rfl rfl ?_
            refine Z_iadd 110 rfl ?_
            refine Z_ci e.symm ?_
            refine Z_istore 111 rfl (Nat.le_of_ble_eq_true rfl) (lv' := [(5, .int _), (9, .int _), (8, .int _), (7, .int _), (0, .ref _), (1, .int _), (2, .int _), (3, .int _), (4, .int _), (6, .int _)]) rfl ?_
            refine Z_iinc 112 rfl rfl (Nat.le_of_ble_eq_true rfl) (lv' := [(6, .int _), (5, .int _), (9, .int _), (8, .int _), (7, .int _), (0, .ref _), (1, .int _), (2, .int _), (3, .int _), (4, .int _)]) rfl ?_
            refine Z_goto 113 rfl (tgt := 128) rfl ?_
            refine Z_pick [0, 1, 2, 3, 4, 5, 6] (lv' := [(0, .ref _), (1, .int _), (2, .int _), (3, .int _), (4, .int _), (5, .int _), (6, .int _)]) rfl ?_
            exact ih (k + 1) (by omega) (by omega) (by omega) (by omega) (by omega)
          · refine Z_aload_n 103 rfl rfl rfl ?_
            refine Z_iload 104 rfl rfl ?_
            refine Z_iload 105 rfl rfl ?_
            refine Z_callVb (M' := M_C_standIn) 106 isC rfl l_C_362 C_C_standIn (c_C_standIn l p rj s w g q q2 sm co h k (a - bg p.t k) (by omega) (by omega)) (emC ..) (Or.inl ⟨_, _, _, _, rfl, rfl⟩) rfl rfl rfl (Nat.le_of_ble_eq_true rfl) ⟨rfl, rfl, Nat.le_of_ble_eq_true rfl, Nat.le_of_ble_eq_true rfl⟩ ⟨Nat.zero_le _, Nat.zero_le _⟩ (fun out hq => ?_)
            obtain rfl := hq
            refine Z_mem (mgC ..) ?_
            refine Z_zret 107 rfl rfl (bI_nar _) ⟨Nat.le_refl _, Nat.le_refl _⟩ ?_
            first
              | (exfalso; omega)
              | (have hA : At p.t a sd k (a - bg p.t k) := Or.inl ⟨h2, by omega, by omega, by omega⟩
                 exact ⟨by rw [bI_t trivial, bI_t ⟨_, _, hA⟩], _, rfl, fun k' u' hB => by obtain ⟨rfl, rfl⟩ := At_un h.1 hA hB; rfl⟩)
        · refine Z_iconst 97 rfl ?_
          refine Z_goto 98 rfl (tgt := 192) rfl ?_
          refine Z_istore 100 rfl (Nat.le_of_ble_eq_true rfl) (lv' := [(9, .int _), (8, .int _), (7, .int _), (0, .ref _), (1, .int _), (2, .int _), (3, .int _), (4, .int _), (5, .int _), (6, .int _)]) rfl ?_
          refine Z_iload 101 rfl rfl ?_
          refine Z_if_eq 102 rfl (tgt := 208) rfl (by omega) (fun c196 => ?_) (fun c196 => ?_)
          · refine Z_iload 108 rfl rfl ?_
            refine Z_iload 109 rfl rfl ?_
            refine Z_iadd 110 rfl ?_
            refine Z_ci e.symm ?_
            refine Z_istore 111 rfl (Nat.le_of_ble_eq_true rfl) (lv' := [(5, .int _), (9, .int _), (8, .int _), (7, .int _), (0, .ref _), (1, .int _), (2, .int _), (3, .int _), (4, .int _), (6, .int _)]) rfl ?_
            refine Z_iinc 112 rfl rfl (Nat.le_of_ble_eq_true rfl) (lv' := [(6, .int _), (5, .int _), (9, .int _), (8, .int _), (7, .int _), (0, .ref _), (1, .int _), (2, .int _), (3, .int _), (4, .int _)]) rfl ?_
            refine Z_goto 113 rfl (tgt := 128) rfl ?_
            refine Z_pick [0, 1, 2, 3, 4, 5, 6] (lv' := [(0, .ref _), (1, .int _), (2, .int _), (3, .int _), (4, .int _), (5, .int _), (6, .int _)]) rfl ?_
            exact ih (k + 1) (by omega) (by omega) (by omega) (by omega) (by omega)
          · refine Z_aload_n 103 rfl rfl rfl ?_
            refine Z_iload 104 rfl rfl ?_
            refine Z_iload 105 rfl rfl ?_
            refine Z_callVb (M' := M_C_standIn) 106 isC rfl l_C_362 C_C_standIn (c_C_standIn l p rj s w g q q2 sm co h k (a - bg p.t k) (by omega) (by omega)) (emC ..) (Or.inl ⟨_, _, _, _, rfl, rfl⟩) rfl rfl rfl (Nat.le_of_ble_eq_true rfl) ⟨rfl, rfl, Nat.le_of_ble_eq_true rfl, Nat.le_of_ble_eq_true rfl⟩ ⟨Nat.zero_le _, Nat.zero_le _⟩ (fun out hq => ?_)
            obtain rfl := hq
            refine Z_mem (mgC ..) ?_
            refine Z_zret 107 rfl rfl (bI_nar _) ⟨Nat.le_refl _, Nat.le_refl _⟩ ?_
            first
              | (exfalso; omega)
              | (have hA : At p.t a sd k (a - bg p.t k) := Or.inl ⟨h2, by omega, by omega, by omega⟩
                 exact ⟨by rw [bI_t trivial, bI_t ⟨_, _, hA⟩], _, rfl, fun k' u' hB => by obtain ⟨rfl, rfl⟩ := At_un h.1 hA hB; rfl⟩)
    · refine Z_iload 83 rfl rfl ?_
      refine Z_if_le 84 rfl (tgt := 171) rfl (by omega) (fun c157 => ?_) (fun c157 => ?_)
      · refine Z_iconst 90 rfl ?_
        refine Z_goto 91 rfl (tgt := 192) rfl ?_
        refine Z_istore 100 rfl (Nat.le_of_ble_eq_true rfl) (lv' := [(9, .int _), (8, .int _), (7, .int _), (0, .ref _), (1, .int _), (2, .int _), (3, .int _), (4, .int _), (5, .int _), (6, .int _)]) rfl ?_
        refine Z_iload 101 rfl rfl ?_
        refine Z_if_eq 102 rfl (tgt := 208) rfl (by omega) (fun c196 => ?_) (fun c196 => ?_)
        · refine Z_iload 108 rfl rfl ?_
          refine Z_iload 109 rfl rfl ?_
          refine Z_iadd 110 rfl ?_
          refine Z_ci e.symm ?_
          refine Z_istore 111 rfl (Nat.le_of_ble_eq_true rfl) (lv' := [(5, .int _), (9, .int _), (8, .int _), (7, .int _), (0, .ref _), (1, .int _), (2, .int _), (3, .int _), (4, .int _), (6, .int _)]) rfl ?_
          refine Z_iinc 112 rfl rfl (Nat.le_of_ble_eq_true rfl) (lv' := [(6, .int _), (5, .int _), (9, .int _), (8, .int _), (7, .int _), (0, .ref _), (1, .int _), (2, .int _), (3, .int _), (4, .int _)]) rfl ?_
          refine Z_goto 113 rfl (tgt := 128) rfl ?_
          refine Z_pick [0, 1, 2, 3, 4, 5, 6] (lv' := [(0, .ref _), (1, .int _), (2, .int _), (3, .int _), (4, .int _), (5, .int _), (6, .int _)]) rfl ?_
          exact ih (k + 1) (by omega) (by omega) (by omega) (by omega) (by omega)
        · refine Z_aload_n 103 rfl rfl rfl ?_
          refine Z_iload 104 rfl rfl ?_
          refine Z_iload 105 rfl rfl ?_
          refine Z_callVb (M' := M_C_standIn) 106 isC rfl l_C_362 C_C_standIn (c_C_standIn l p rj s w g q q2 sm co h k (a - bg p.t k) (by omega) (by omega)) (emC ..) (Or.inl ⟨_, _, _, _, rfl, rfl⟩) rfl rfl rfl (Nat.le_of_ble_eq_true rfl) ⟨rfl, rfl, Nat.le_of_ble_eq_true rfl, Nat.le_of_ble_eq_true rfl⟩ ⟨Nat.zero_le _, Nat.zero_le _⟩ (fun out hq => ?_)
          obtain rfl := hq
          refine Z_mem (mgC ..) ?_
          refine Z_zret 107 rfl rfl (bI_nar _) ⟨Nat.le_refl _, Nat.le_refl _⟩ ?_
          first
            | (exfalso; omega)
            | (have hA : At p.t a sd k (a - bg p.t k) := Or.inl ⟨h2, by omega, by omega, by omega⟩
               exact ⟨by rw [bI_t trivial, bI_t ⟨_, _, hA⟩], _, rfl, fun k' u' hB => by obtain ⟨rfl, rfl⟩ := At_un h.1 hA hB; rfl⟩)
      · refine Z_iload 85 rfl rfl ?_
        refine Z_iload 86 rfl rfl ?_
        refine Z_icmp_gt 87 rfl (tgt := 171) rfl (by omega) (by omega) (fun c164 => ?_) (fun c164 => ?_)
        · refine Z_iconst 90 rfl ?_
          refine Z_goto 91 rfl (tgt := 192) rfl ?_
          refine Z_istore 100 rfl (Nat.le_of_ble_eq_true rfl) (lv' := [(9, .int _), (8, .int _), (7, .int _), (0, .ref _), (1, .int _), (2, .int _), (3, .int _), (4, .int _), (5, .int _), (6, .int _)]) rfl ?_
          refine Z_iload 101 rfl rfl ?_
          refine Z_if_eq 102 rfl (tgt := 208) rfl (by omega) (fun c196 => ?_) (fun c196 => ?_)
          · refine Z_iload 108 rfl rfl ?_
            refine Z_iload 109 rfl rfl ?_
            refine Z_iadd 110 rfl ?_
            refine Z_ci e.symm ?_
            refine Z_istore 111 rfl (Nat.le_of_ble_eq_true rfl) (lv' := [(5, .int _), (9, .int _), (8, .int _), (7, .int _), (0, .ref _), (1, .int _), (2, .int _), (3, .int _), (4, .int _), (6, .int _)]) rfl ?_
            refine Z_iinc 112 rfl rfl (Nat.le_of_ble_eq_true rfl) (lv' := [(6, .int _), (5, .int _), (9, .int _), (8, .int _), (7, .int _), (0, .ref _), (1, .int _), (2, .int _), (3, .int _), (4, .int _)]) rfl ?_
            refine Z_goto 113 rfl (tgt := 128) rfl ?_
            refine Z_pick [0, 1, 2, 3, 4, 5, 6] (lv' := [(0, .ref _), (1, .int _), (2, .int _), (3, .int _), (4, .int _), (5, .int _), (6, .int _)]) rfl ?_
            exact ih (k + 1) (by omega) (by omega) (by omega) (by omega) (by omega)
          · refine Z_aload_n 103 rfl rfl rfl ?_
            refine Z_iload 104 rfl rfl ?_
            refine Z_iload 105 rfl rfl ?_
            refine Z_callVb (M' := M_C_standIn) 106 isC rfl l_C_362 C_C_standIn (c_C_standIn l p rj s w g q q2 sm co h k (a - bg p.t k) (by omega) (by omega)) (emC ..) (Or.inl ⟨_, _, _, _, rfl, rfl⟩) rfl rfl rfl (Nat.le_of_ble_eq_true rfl) ⟨rfl, rfl, Nat.le_of_ble_eq_true rfl, Nat.le_of_ble_eq_true rfl⟩ ⟨Nat.zero_le _, Nat.zero_le _⟩ (fun out hq => ?_)
            obtain rfl := hq
            refine Z_mem (mgC ..) ?_
            refine Z_zret 107 rfl rfl (bI_nar _) ⟨Nat.le_refl _, Nat.le_refl _⟩ ?_
            first
              | (exfalso; omega)
              | (have hA : At p.t a sd k (a - bg p.t k) := Or.inl ⟨h2, by omega, by omega, by omega⟩
                 exact ⟨by rw [bI_t trivial, bI_t ⟨_, _, hA⟩], _, rfl, fun k' u' hB => by obtain ⟨rfl, rfl⟩ := At_un h.1 hA hB; rfl⟩)
        · refine Z_iconst 88 rfl ?_
          refine Z_goto 89 rfl (tgt := 192) rfl ?_
          refine Z_istore 100 rfl (Nat.le_of_ble_eq_true rfl) (lv' := [(9, .int _), (8, .int _), (7, .int _), (0, .ref _), (1, .int _), (2, .int _), (3, .int _), (4, .int _), (5, .int _), (6, .int _)]) rfl ?_
          refine Z_iload 101 rfl rfl ?_
          refine Z_if_eq 102 rfl (tgt := 208) rfl (by omega) (fun c196 => ?_) (fun c196 => ?_)
          · refine Z_iload 108 rfl rfl ?_
            refine Z_iload 109 rfl rfl ?_
            refine Z_iadd 110 rfl ?_
            refine Z_ci e.symm ?_
            refine Z_istore 111 rfl (Nat.le_of_ble_eq_true rfl) (lv' := [(5, .int _), (9, .int _), (8, .int _), (7, .int _), (0, .ref _), (1, .int _), (2, .int _), (3, .int _), (4, .int _), (6, .int _)]) rfl ?_
            refine Z_iinc 112 rfl rfl (Nat.le_of_ble_eq_true rfl) (lv' := [(6, .int _), (5, .int _), (9, .int _), (8, .int _), (7, .int _), (0, .ref _), (1, .int _), (2, .int _), (3, .int _), (4, .int _)]) rfl ?_
            refine Z_goto 113 rfl (tgt := 128) rfl ?_
            refine Z_pick [0, 1, 2, 3, 4, 5, 6] (lv' := [(0, .ref _), (1, .int _), (2, .int _), (3, .int _), (4, .int _), (5, .int _), (6, .int _)]) rfl ?_
            exact ih (k + 1) (by omega) (by omega) (by omega) (by omega) (by omega)
          · refine Z_aload_n 103 rfl rfl rfl ?_
            refine Z_iload 104 rfl rfl ?_
            refine Z_iload 105 rfl rfl ?_
            refine Z_callVb (M' := M_C_standIn) 106 isC rfl l_C_362 C_C_standIn (c_C_standIn l p rj s w g q q2 sm co h k (a - bg p.t k) (by omega) (by omega)) (emC ..) (Or.inl ⟨_, _, _, _, rfl, rfl⟩) rfl rfl rfl (Nat.le_of_ble_eq_true rfl) ⟨rfl, rfl, Nat.le_of_ble_eq_true rfl, Nat.le_of_ble_eq_true rfl⟩ ⟨Nat.zero_le _, Nat.zero_le _⟩ (fun out hq => ?_)
            obtain rfl := hq
            refine Z_mem (mgC ..) ?_
            refine Z_zret 107 rfl rfl (bI_nar _) ⟨Nat.le_refl _, Nat.le_refl _⟩ ?_
            first
              | (exfalso; omega)
              | (have hA : At p.t a sd k (a - bg p.t k) := Or.inl ⟨h2, by omega, by omega, by omega⟩
                 exact ⟨by rw [bI_t trivial, bI_t ⟨_, _, hA⟩], _, rfl, fun k' u' hB => by obtain ⟨rfl, rfl⟩ := At_un h.1 hA hB; rfl⟩)
theorem c_C_standAt (h : PV p) (a sd : Int) (ha : inI a) (hs : inI sd) : Con l M_C_standAt R_C_standAt 0 0 false [.ref 0, .int (iI a), .int (iI sd)] (eC p rj s w g q q2 sm co) (zAb (∃ k u, At p.t a sd k u) (PAt p rj w g q q2 sm co a sd)) := by
  have h1 := h.1.1.1
  have ht := tot_bd h.1.1
  have e0 := bg_0 p.t
  have hl := fun k => h.1.1.2.2.1 k
  refine Con.of_Z (by decide) D_C_standAt (Nat.le_of_ble_eq_true rfl) ?_
  refine Z_aload_n 0 rfl rfl rfl ?_
  refine Z_get 1 rfl f_C_14 rfl rfl ?_
  refine Z_callVip (M' := M_T_size) 2 [1, 2, 3, 4] rfl l_C_111 C_T_size (c_T_size l p.t) ⟨by decide, (zEL.c (Or.inl rfl) (zEL.c (Or.inl rfl) (zEL.c (Or.inl rfl) (zEL.c (Or.inl rfl) zEL.n))))⟩ (Or.inl ⟨_, _, _, _, rfl, rfl⟩) rfl rfl rfl (Nat.le_of_ble_eq_true rfl) ⟨rfl, rfl, Nat.le_of_ble_eq_true rfl, Nat.le_of_ble_eq_true rfl⟩ ⟨Nat.zero_le _, Nat.zero_le _⟩ ?_
  refine Z_istore_n 3 rfl rfl (Nat.le_of_ble_eq_true rfl) (lv' := [(3, .int _), (0, .ref _), (1, .int _), (2, .int _)]) rfl ?_
  refine Z_aload_n 4 rfl rfl rfl ?_
  refine Z_get 5 rfl f_C_14 rfl rfl ?_
  refine Z_callVip (M' := M_T_total) 6 [1, 2, 3, 4] rfl l_C_103 C_T_total (c_T_total l p.t h.1.1) ⟨by decide, (zEL.c (Or.inl rfl) (zEL.c (Or.inl rfl) (zEL.c (Or.inl rfl) (zEL.c (Or.inl rfl) zEL.n))))⟩ (Or.inl ⟨_, _, _, _, rfl, rfl⟩) rfl rfl rfl (Nat.le_of_ble_eq_true rfl) ⟨rfl, rfl, Nat.le_of_ble_eq_true rfl, Nat.le_of_ble_eq_true rfl⟩ ⟨Nat.zero_le _, Nat.zero_le _⟩ ?_
  refine Z_istore 7 rfl (Nat.le_of_ble_eq_true rfl) (lv' := [(4, .int _), (3, .int _), (0, .ref _), (1, .int _), (2, .int _)]) rfl ?_
  refine Z_iload_n 8 rfl rfl rfl ?_
  refine Z_if_eq 9 rfl (tgt := 40) rfl (by omega) (fun c18 => ?_) (fun c18 => ?_)
  · refine Z_iconst 20 rfl ?_
    refine Z_zret 21 rfl rfl rfl ⟨Nat.le_refl _, Nat.le_refl _⟩ ?_
    exact ⟨bF (fun ⟨k, u, hA⟩ => by have := At_in h.1 hA; omega), s, rfl, fun k u hA => by have := At_in h.1 hA; exfalso; omega⟩
  · refine Z_iload_n 10 rfl rfl rfl ?_
    refine Z_if_lt 11 rfl (tgt := 40) rfl (by omega) (fun c22 => ?_) (fun c22 => ?_)
    · refine Z_iconst 20 rfl ?_
      refine Z_zret 21 rfl rfl rfl ⟨Nat.le_refl _, Nat.le_refl _⟩ ?_
      exact ⟨bF (fun ⟨k, u, hA⟩ => by have := At_in h.1 hA; omega), s, rfl, fun k u hA => by have := At_in h.1 hA; exfalso; omega⟩
    · refine Z_iload_n 12 rfl rfl rfl ?_
      refine Z_iload 13 rfl rfl ?_
      refine Z_icmp_gt 14 rfl (tgt := 40) rfl (by omega) (by omega) (fun c28 => ?_) (fun c28 => ?_)
      · refine Z_iconst 20 rfl ?_
        refine Z_zret 21 rfl rfl rfl ⟨Nat.le_refl _, Nat.le_refl _⟩ ?_
        exact ⟨bF (fun ⟨k, u, hA⟩ => by have := At_in h.1 hA; omega), s, rfl, fun k u hA => by have := At_in h.1 hA; exfalso; omega⟩
      · refine Z_iload_n 15 rfl rfl rfl ?_
        refine Z_if_lt 16 rfl (tgt := 40) rfl (by omega) (fun c32 => ?_) (fun c32 => ?_)
        · refine Z_iconst 20 rfl ?_
          refine Z_zret 21 rfl rfl rfl ⟨Nat.le_refl _, Nat.le_refl _⟩ ?_
          exact ⟨bF (fun ⟨k, u, hA⟩ => by have := At_in h.1 hA; omega), s, rfl, fun k u hA => by have := At_in h.1 hA; exfalso; omega⟩
        · refine Z_iload_n 17 rfl rfl rfl ?_
          refine Z_iconst 18 rfl ?_
          refine Z_icmp_le 19 rfl (tgt := 42) rfl (by omega) (by omega) (fun c37 => ?_) (fun c37 => ?_)
          · refine Z_iload_n 22 rfl rfl rfl ?_
            refine Z_if_ne 23 rfl (tgt := 86) rfl (by omega) (fun c43 => ?_) (fun c43 => ?_)
            · refine Z_iload_n 46 rfl rfl rfl ?_
              refine Z_iload 47 rfl rfl ?_
              refine Z_icmp_ne 48 rfl (tgt := 122) rfl (by omega) (by omega) (fun c89 => ?_) (fun c89 => ?_)
              · refine Z_iconst 65 rfl ?_
                refine Z_istore 66 rfl (Nat.le_of_ble_eq_true rfl) (lv' := [(5, .int _), (4, .int _), (3, .int _), (0, .ref _), (1, .int _), (2, .int _)]) rfl ?_
                refine Z_iconst 67 rfl ?_
                refine Z_istore 68 rfl (Nat.le_of_ble_eq_true rfl) (lv' := [(6, .int _), (5, .int _), (4, .int _), (3, .int _), (0, .ref _), (1, .int _), (2, .int _)]) rfl ?_
                refine Z_pick [0, 1, 2, 3, 4, 5, 6] (lv' := [(0, .ref _), (1, .int _), (2, .int _), (3, .int _), (4, .int _), (5, .int _), (6, .int _)]) rfl ?_
                exact lp_C_standAt l p rj s w g q q2 sm co h a sd (by omega) (by omega) (by omega) (by omega) 14 0 (by omega) (by omega) (by omega) (by omega) (by omega)
              · refine Z_iload_n 49 rfl rfl rfl ?_
                refine Z_iconst 50 rfl ?_
                refine Z_icmp_ne 51 rfl (tgt := 122) rfl (by omega) (by omega) (fun c94 => ?_) (fun c94 => ?_)
                · refine Z_iconst 65 rfl ?_
                  refine Z_istore 66 rfl (Nat.le_of_ble_eq_true rfl) (lv' := [(5, .int _), (4, .int _), (3, .int _), (0, .ref _), (1, .int _), (2, .int _)]) rfl ?_
                  refine Z_iconst 67 rfl ?_
                  refine Z_istore 68 rfl (Nat.le_of_ble_eq_true rfl) (lv' := [(6, .int _), (5, .int _), (4, .int _), (3, .int _), (0, .ref _), (1, .int _), (2, .int _)]) rfl ?_
                  refine Z_pick [0, 1, 2, 3, 4, 5, 6] (lv' := [(0, .ref _), (1, .int _), (2, .int _), (3, .int _), (4, .int _), (5, .int _), (6, .int _)]) rfl ?_
                  exact lp_C_standAt l p rj s w g q q2 sm co h a sd (by omega) (by omega) (by omega) (by omega) 14 0 (by omega) (by omega) (by omega) (by omega) (by omega)
                · refine Z_aload_n 52 rfl rfl rfl ?_
                  refine Z_get 53 rfl f_C_14 rfl rfl ?_
                  refine Z_callVbp (M' := M_T_isClosed) 54 [1, 2, 3, 4] rfl l_C_159 C_T_isClosed (c_T_isClosed l p.t h.1.1) ⟨by decide, (zEL.c (Or.inl rfl) (zEL.c (Or.inl rfl) (zEL.c (Or.inl rfl) (zEL.c (Or.inl rfl) zEL.n))))⟩ (Or.inl ⟨_, _, _, _, rfl, rfl⟩) rfl rfl rfl (Nat.le_of_ble_eq_true rfl) ⟨rfl, rfl, Nat.le_of_ble_eq_true rfl, Nat.le_of_ble_eq_true rfl⟩ ⟨Nat.zero_le _, Nat.zero_le _⟩ ?_
                  refine Z_ifb_eq 55 rfl (tgt := 120) rfl (fun c104 => ?_) (fun c104 => ?_)
                  · refine Z_iconst 63 rfl ?_
                    refine Z_zret 64 rfl rfl rfl ⟨Nat.le_refl _, Nat.le_refl _⟩ ?_
                    first
                      | exact ⟨bF (fun ⟨k, u, hA⟩ => c104 ((At_in h.1 hA).2.2.2.2.2 c89 c94)), s, rfl, fun k u hA => absurd ((At_in h.1 hA).2.2.2.2.2 c89 c94) c104⟩
                      | (have hA : At p.t a sd 0 0 := Or.inr ⟨c104, by omega, Or.inr ⟨by omega, by omega, rfl, rfl⟩⟩
                         exact ⟨bT ⟨_, _, hA⟩, _, rfl, fun k' u' hB => by obtain ⟨rfl, rfl⟩ := At_un h.1 hA hB; rfl⟩)
                  · refine Z_aload_n 56 rfl rfl rfl ?_
                    refine Z_iconst 57 rfl ?_
                    refine Z_iconst 58 rfl ?_
                    refine Z_callVb (M' := M_C_standIn) 59 isC rfl l_C_362 C_C_standIn (c_C_standIn l p rj s w g q q2 sm co h 0 0 (by omega) (by omega)) (emC ..) (Or.inl ⟨_, _, _, _, rfl, rfl⟩) rfl rfl rfl (Nat.le_of_ble_eq_true rfl) ⟨rfl, rfl, Nat.le_of_ble_eq_true rfl, Nat.le_of_ble_eq_true rfl⟩ ⟨Nat.zero_le _, Nat.zero_le _⟩ (fun out hq => ?_)
                    obtain rfl := hq
                    refine Z_mem (mgC ..) ?_
                    refine Z_ifb_eq 60 rfl (tgt := 120) rfl (fun c113 => ?_) (fun c113 => ?_)
                    · exact absurd trivial (by assumption)
                    refine Z_iconst 61 rfl ?_
                    refine Z_goto 62 rfl (tgt := 121) rfl ?_
                    refine Z_zret 64 rfl rfl rfl ⟨Nat.le_refl _, Nat.le_refl _⟩ ?_
                    first
                      | exact ⟨bF (fun ⟨k, u, hA⟩ => c104 ((At_in h.1 hA).2.2.2.2.2 c89 c94)), s, rfl, fun k u hA => absurd ((At_in h.1 hA).2.2.2.2.2 c89 c94) c104⟩
                      | (have hA : At p.t a sd 0 0 := Or.inr ⟨c104, by omega, Or.inr ⟨by omega, by omega, rfl, rfl⟩⟩
                         exact ⟨bT ⟨_, _, hA⟩, _, rfl, fun k' u' hB => by obtain ⟨rfl, rfl⟩ := At_un h.1 hA hB; rfl⟩)
            · refine Z_iload_n 24 rfl rfl rfl ?_
              refine Z_if_ne 25 rfl (tgt := 86) rfl (by omega) (fun c47 => ?_) (fun c47 => ?_)
              · refine Z_iload_n 46 rfl rfl rfl ?_
                refine Z_iload 47 rfl rfl ?_
                refine Z_icmp_ne 48 rfl (tgt := 122) rfl (by omega) (by omega) (fun c89 => ?_) (fun c89 => ?_)
                · refine Z_iconst 65 rfl ?_
                  refine Z_istore 66 rfl (Nat.le_of_ble_eq_true rfl) (lv' := [(5, .int _), (4, .int _), (3, .int _), (0, .ref _), (1, .int _), (2, .int _)]) rfl ?_
                  refine Z_iconst 67 rfl ?_
                  refine Z_istore 68 rfl (Nat.le_of_ble_eq_true rfl) (lv' := [(6, .int _), (5, .int _), (4, .int _), (3, .int _), (0, .ref _), (1, .int _), (2, .int _)]) rfl ?_
                  refine Z_pick [0, 1, 2, 3, 4, 5, 6] (lv' := [(0, .ref _), (1, .int _), (2, .int _), (3, .int _), (4, .int _), (5, .int _), (6, .int _)]) rfl ?_
                  exact lp_C_standAt l p rj s w g q q2 sm co h a sd (by omega) (by omega) (by omega) (by omega) 14 0 (by omega) (by omega) (by omega) (by omega) (by omega)
                · refine Z_iload_n 49 rfl rfl rfl ?_
                  refine Z_iconst 50 rfl ?_
                  refine Z_icmp_ne 51 rfl (tgt := 122) rfl (by omega) (by omega) (fun c94 => ?_) (fun c94 => ?_)
                  · refine Z_iconst 65 rfl ?_
                    refine Z_istore 66 rfl (Nat.le_of_ble_eq_true rfl) (lv' := [(5, .int _), (4, .int _), (3, .int _), (0, .ref _), (1, .int _), (2, .int _)]) rfl ?_
                    refine Z_iconst 67 rfl ?_
                    refine Z_istore 68 rfl (Nat.le_of_ble_eq_true rfl) (lv' := [(6, .int _), (5, .int _), (4, .int _), (3, .int _), (0, .ref _), (1, .int _), (2, .int _)]) rfl ?_
                    refine Z_pick [0, 1, 2, 3, 4, 5, 6] (lv' := [(0, .ref _), (1, .int _), (2, .int _), (3, .int _), (4, .int _), (5, .int _), (6, .int _)]) rfl ?_
                    exact lp_C_standAt l p rj s w g q q2 sm co h a sd (by omega) (by omega) (by omega) (by omega) 14 0 (by omega) (by omega) (by omega) (by omega) (by omega)
                  · refine Z_aload_n 52 rfl rfl rfl ?_
                    refine Z_get 53 rfl f_C_14 rfl rfl ?_
                    refine Z_callVbp (M' := M_T_isClosed) 54 [1, 2, 3, 4] rfl l_C_159 C_T_isClosed (c_T_isClosed l p.t h.1.1) ⟨by decide, (zEL.c (Or.inl rfl) (zEL.c (Or.inl rfl) (zEL.c (Or.inl rfl) (zEL.c (Or.inl rfl) zEL.n))))⟩ (Or.inl ⟨_, _, _, _, rfl, rfl⟩) rfl rfl rfl (Nat.le_of_ble_eq_true rfl) ⟨rfl, rfl, Nat.le_of_ble_eq_true rfl, Nat.le_of_ble_eq_true rfl⟩ ⟨Nat.zero_le _, Nat.zero_le _⟩ ?_
                    refine Z_ifb_eq 55 rfl (tgt := 120) rfl (fun c104 => ?_) (fun c104 => ?_)
                    · refine Z_iconst 63 rfl ?_
                      refine Z_zret 64 rfl rfl rfl ⟨Nat.le_refl _, Nat.le_refl _⟩ ?_
                      first
                        | exact ⟨bF (fun ⟨k, u, hA⟩ => c104 ((At_in h.1 hA).2.2.2.2.2 c89 c94)), s, rfl, fun k u hA => absurd ((At_in h.1 hA).2.2.2.2.2 c89 c94) c104⟩
                        | (have hA : At p.t a sd 0 0 := Or.inr ⟨c104, by omega, Or.inr ⟨by omega, by omega, rfl, rfl⟩⟩
                           exact ⟨bT ⟨_, _, hA⟩, _, rfl, fun k' u' hB => by obtain ⟨rfl, rfl⟩ := At_un h.1 hA hB; rfl⟩)
                    · refine Z_aload_n 56 rfl rfl rfl ?_
                      refine Z_iconst 57 rfl ?_
                      refine Z_iconst 58 rfl ?_
                      refine Z_callVb (M' := M_C_standIn) 59 isC rfl l_C_362 C_C_standIn (c_C_standIn l p rj s w g q q2 sm co h 0 0 (by omega) (by omega)) (emC ..) (Or.inl ⟨_, _, _, _, rfl, rfl⟩) rfl rfl rfl (Nat.le_of_ble_eq_true rfl) ⟨rfl, rfl, Nat.le_of_ble_eq_true rfl, Nat.le_of_ble_eq_true rfl⟩ ⟨Nat.zero_le _, Nat.zero_le _⟩ (fun out hq => ?_)
                      obtain rfl := hq
                      refine Z_mem (mgC ..) ?_
                      refine Z_ifb_eq 60 rfl (tgt := 120) rfl (fun c113 => ?_) (fun c113 => ?_)
                      · exact absurd trivial (by assumption)
                      refine Z_iconst 61 rfl ?_
                      refine Z_goto 62 rfl (tgt := 121) rfl ?_
                      refine Z_zret 64 rfl rfl rfl ⟨Nat.le_refl _, Nat.le_refl _⟩ ?_
                      first
                        | exact ⟨bF (fun ⟨k, u, hA⟩ => c104 ((At_in h.1 hA).2.2.2.2.2 c89 c94)), s, rfl, fun k u hA => absurd ((At_in h.1 hA).2.2.2.2.2 c89 c94) c104⟩
                        | (have hA : At p.t a sd 0 0 := Or.inr ⟨c104, by omega, Or.inr ⟨by omega, by omega, rfl, rfl⟩⟩
                           exact ⟨bT ⟨_, _, hA⟩, _, rfl, fun k' u' hB => by obtain ⟨rfl, rfl⟩ := At_un h.1 hA hB; rfl⟩)
              · refine Z_aload_n 26 rfl rfl rfl ?_
                refine Z_get 27 rfl f_C_14 rfl rfl ?_
                refine Z_callVbp (M' := M_T_isClosed) 28 [1, 2, 3, 4] rfl l_C_159 C_T_isClosed (c_T_isClosed l p.t h.1.1) ⟨by decide, (zEL.c (Or.inl rfl) (zEL.c (Or.inl rfl) (zEL.c (Or.inl rfl) (zEL.c (Or.inl rfl) zEL.n))))⟩ (Or.inl ⟨_, _, _, _, rfl, rfl⟩) rfl rfl rfl (Nat.le_of_ble_eq_true rfl) ⟨rfl, rfl, Nat.le_of_ble_eq_true rfl, Nat.le_of_ble_eq_true rfl⟩ ⟨Nat.zero_le _, Nat.zero_le _⟩ ?_
                refine Z_ifb_eq 29 rfl (tgt := 84) rfl (fun c57 => ?_) (fun c57 => ?_)
                · refine Z_iconst 44 rfl ?_
                  refine Z_zret 45 rfl rfl rfl ⟨Nat.le_refl _, Nat.le_refl _⟩ ?_
                  first
                    | exact ⟨bF (fun ⟨k, u, hA⟩ => c57 ((At_in h.1 hA).2.2.2.2.1 c43 c47)), s, rfl, fun k u hA => absurd ((At_in h.1 hA).2.2.2.2.1 c43 c47) c57⟩
                    | (have hA : At p.t a sd (p.t.2.2.2 - 1) (p.t.2.1 (p.t.2.2.2 - 1)) := Or.inr ⟨c57, by omega, Or.inl ⟨by omega, by omega, rfl, rfl⟩⟩
                       exact ⟨bT ⟨_, _, hA⟩, _, rfl, fun k' u' hB => by obtain ⟨rfl, rfl⟩ := At_un h.1 hA hB; rfl⟩)
                · refine Z_aload_n 30 rfl rfl rfl ?_
                  refine Z_iload_n 31 rfl rfl rfl ?_
                  refine Z_iconst 32 rfl ?_
                  refine Z_isub 33 rfl ?_
                  refine Z_aload_n 34 rfl rfl rfl ?_
                  refine Z_get 35 rfl f_C_14 rfl rfl ?_
                  refine Z_iload_n 36 rfl rfl rfl ?_
                  refine Z_iconst 37 rfl ?_
                  refine Z_isub 38 rfl ?_
                  refine Z_callVip (M' := M_T_longOf) 39 [1, 2, 3, 4] rfl l_C_125 C_T_longOf (c_T_longOf l p.t (p.t.2.2.2 - 1) (by omega)) ⟨by decide, (zEL.c (Or.inl rfl) (zEL.c (Or.inl rfl) (zEL.c (Or.inl rfl) (zEL.c (Or.inl rfl) zEL.n))))⟩ (Or.inl ⟨_, _, _, _, rfl, rfl⟩) rfl rfl rfl (Nat.le_of_ble_eq_true rfl) ⟨rfl, rfl, Nat.le_of_ble_eq_true rfl, Nat.le_of_ble_eq_true rfl⟩ ⟨Nat.zero_le _, Nat.zero_le _⟩ ?_
                  refine Z_callVb (M' := M_C_standIn) 40 isC rfl l_C_362 C_C_standIn (c_C_standIn l p rj s w g q q2 sm co h (p.t.2.2.2 - 1) (p.t.2.1 (p.t.2.2.2 - 1)) (by omega) (by have := hl (p.t.2.2.2 - 1); omega)) (emC ..) (Or.inl ⟨_, _, _, _, rfl, rfl⟩) rfl rfl rfl (Nat.le_of_ble_eq_true rfl) ⟨rfl, rfl, Nat.le_of_ble_eq_true rfl, Nat.le_of_ble_eq_true rfl⟩ ⟨Nat.zero_le _, Nat.zero_le _⟩ (fun out hq => ?_)
                  obtain rfl := hq
                  refine Z_mem (mgC ..) ?_
                  refine Z_ifb_eq 41 rfl (tgt := 84) rfl (fun c77 => ?_) (fun c77 => ?_)
                  · exact absurd trivial (by assumption)
                  refine Z_iconst 42 rfl ?_
                  refine Z_goto 43 rfl (tgt := 85) rfl ?_
                  refine Z_zret 45 rfl rfl rfl ⟨Nat.le_refl _, Nat.le_refl _⟩ ?_
                  first
                    | exact ⟨bF (fun ⟨k, u, hA⟩ => c57 ((At_in h.1 hA).2.2.2.2.1 c43 c47)), s, rfl, fun k u hA => absurd ((At_in h.1 hA).2.2.2.2.1 c43 c47) c57⟩
                    | (have hA : At p.t a sd (p.t.2.2.2 - 1) (p.t.2.1 (p.t.2.2.2 - 1)) := Or.inr ⟨c57, by omega, Or.inl ⟨by omega, by omega, rfl, rfl⟩⟩
                       exact ⟨bT ⟨_, _, hA⟩, _, rfl, fun k' u' hB => by obtain ⟨rfl, rfl⟩ := At_un h.1 hA hB; rfl⟩)
          · refine Z_iconst 20 rfl ?_
            refine Z_zret 21 rfl rfl rfl ⟨Nat.le_refl _, Nat.le_refl _⟩ ?_
            exact ⟨bF (fun ⟨k, u, hA⟩ => by have := At_in h.1 hA; omega), s, rfl, fun k u hA => by have := At_in h.1 hA; exfalso; omega⟩
/-! the numbers at a spot -/
def rch (S : Int → Int) (s : SS) : Int := S 0 * s.1 + lf s
def cur (S : Int → Int) (s : SS) : Int := rch S s + 3249 * s.2.2.2.1
def prl (S : Int → Int) (s : SS) : Int := S 3 * s.1
def spr (S : Int → Int) (s : SS) : Int := S 2 * lf s
def ine (S : Int → Int) (s : SS) : Int := S 1 * S 4 * S 4 * 3249 * s.2.2.2.1
def frc (S : Int → Int) (s : SS) : Int := prl S s + spr S s + ine S s
theorem c_C_reachHere (h : PV p) : Con l M_C_reachHere R_C_reachHere 0 0 false [.ref 0] (eC p rj s w g q q2 sm co) (zAl (rch p.s s) (fun m => m = eC p rj s w g q q2 sm co)) := by
  refine Con.of_Z (by decide) D_C_reachHere (Nat.le_of_ble_eq_true rfl) ?_
  refine Z_aload_n 0 rfl rfl rfl ?_
  refine Z_iconst 1 rfl ?_
  refine Z_callVlp (M' := M_C_setting) 2 isC rfl l_C_274 C_C_setting (c_C_setting l p rj s w g q q2 sm co h 0 (by omega)) (emC ..) (Or.inl ⟨_, _, _, _, rfl, rfl⟩) rfl rfl rfl (Nat.le_of_ble_eq_true rfl) ⟨rfl, rfl, Nat.le_of_ble_eq_true rfl, Nat.le_of_ble_eq_true rfl⟩ ⟨Nat.zero_le _, Nat.zero_le _⟩ ?_
  refine Z_aload_n 3 rfl rfl rfl ?_
  refine Z_get 4 rfl f_C_53 rfl rfl ?_
  refine Z_getN 5 rfl f_C_195 rfl rfl ?_
  refine Z_lmul 6 rfl ?_
  refine Z_aload_n 7 rfl rfl rfl ?_
  refine Z_get 8 rfl f_C_53 rfl rfl ?_
  refine Z_callVlp (M' := M_S_lift) 9 [20] rfl l_C_184 C_S_lift (c_S_lift l s) ⟨by decide, (zEL.c (Or.inl rfl) zEL.n)⟩ (Or.inl ⟨_, _, _, _, rfl, rfl⟩) rfl rfl rfl (Nat.le_of_ble_eq_true rfl) ⟨rfl, rfl, Nat.le_of_ble_eq_true rfl, Nat.le_of_ble_eq_true rfl⟩ ⟨Nat.zero_le _, Nat.zero_le _⟩ ?_
  refine Z_ladd 10 rfl ?_
  refine Z_lret 11 rfl rfl ⟨Nat.le_refl _, Nat.le_refl _⟩ ?_
  exact ⟨rfl, rfl⟩
theorem c_C_curveHere (h : PV p) : Con l M_C_curveHere R_C_curveHere 0 0 false [.ref 0] (eC p rj s w g q q2 sm co) (zAl (cur p.s s) (fun m => m = eC p rj s w g q q2 sm co)) := by
  refine Con.of_Z (by decide) D_C_curveHere (Nat.le_of_ble_eq_true rfl) ?_
  refine Z_aload_n 0 rfl rfl rfl ?_
  refine Z_callVlp (M' := M_C_reachHere) 1 isC rfl l_C_219 C_C_reachHere (c_C_reachHere l p rj s w g q q2 sm co h) (emC ..) (Or.inl ⟨_, _, _, _, rfl, rfl⟩) rfl rfl rfl (Nat.le_of_ble_eq_true rfl) ⟨rfl, rfl, Nat.le_of_ble_eq_true rfl, Nat.le_of_ble_eq_true rfl⟩ ⟨Nat.zero_le _, Nat.zero_le _⟩ ?_
  refine Z_ldc2 2 rfl k_C_242 (c := 3249) rfl ?_
  refine Z_aload_n 3 rfl rfl rfl ?_
  refine Z_get 4 rfl f_C_53 rfl rfl ?_
  refine Z_getN 5 rfl f_C_192 rfl rfl ?_
  refine Z_lmul 6 rfl ?_
  refine Z_ladd 7 rfl ?_
  refine Z_lret 8 rfl rfl ⟨Nat.le_refl _, Nat.le_refl _⟩ ?_
  exact ⟨rfl, rfl⟩
theorem c_C_preloadHere (h : PV p) : Con l M_C_preloadHere R_C_preloadHere 0 0 false [.ref 0] (eC p rj s w g q q2 sm co) (zAl (prl p.s s) (fun m => m = eC p rj s w g q q2 sm co)) := by
  refine Con.of_Z (by decide) D_C_preloadHere (Nat.le_of_ble_eq_true rfl) ?_
  refine Z_aload_n 0 rfl rfl rfl ?_
  refine Z_iconst 1 rfl ?_
  refine Z_callVlp (M' := M_C_setting) 2 isC rfl l_C_274 C_C_setting (c_C_setting l p rj s w g q q2 sm co h 3 (by omega)) (emC ..) (Or.inl ⟨_, _, _, _, rfl, rfl⟩) rfl rfl rfl (Nat.le_of_ble_eq_true rfl) ⟨rfl, rfl, Nat.le_of_ble_eq_true rfl, Nat.le_of_ble_eq_true rfl⟩ ⟨Nat.zero_le _, Nat.zero_le _⟩ ?_
  refine Z_aload_n 3 rfl rfl rfl ?_
  refine Z_get 4 rfl f_C_53 rfl rfl ?_
  refine Z_getN 5 rfl f_C_195 rfl rfl ?_
  refine Z_lmul 6 rfl ?_
  refine Z_lret 7 rfl rfl ⟨Nat.le_refl _, Nat.le_refl _⟩ ?_
  exact ⟨rfl, rfl⟩
theorem c_C_springHere (h : PV p) : Con l M_C_springHere R_C_springHere 0 0 false [.ref 0] (eC p rj s w g q q2 sm co) (zAl (spr p.s s) (fun m => m = eC p rj s w g q q2 sm co)) := by
  refine Con.of_Z (by decide) D_C_springHere (Nat.le_of_ble_eq_true rfl) ?_
  refine Z_aload_n 0 rfl rfl rfl ?_
  refine Z_iconst 1 rfl ?_
  refine Z_callVlp (M' := M_C_setting) 2 isC rfl l_C_274 C_C_setting (c_C_setting l p rj s w g q q2 sm co h 2 (by omega)) (emC ..) (Or.inl ⟨_, _, _, _, rfl, rfl⟩) rfl rfl rfl (Nat.le_of_ble_eq_true rfl) ⟨rfl, rfl, Nat.le_of_ble_eq_true rfl, Nat.le_of_ble_eq_true rfl⟩ ⟨Nat.zero_le _, Nat.zero_le _⟩ ?_
  refine Z_aload_n 3 rfl rfl rfl ?_
  refine Z_get 4 rfl f_C_53 rfl rfl ?_
  refine Z_callVlp (M' := M_S_lift) 5 [20] rfl l_C_184 C_S_lift (c_S_lift l s) ⟨by decide, (zEL.c (Or.inl rfl) zEL.n)⟩ (Or.inl ⟨_, _, _, _, rfl, rfl⟩) rfl rfl rfl (Nat.le_of_ble_eq_true rfl) ⟨rfl, rfl, Nat.le_of_ble_eq_true rfl, Nat.le_of_ble_eq_true rfl⟩ ⟨Nat.zero_le _, Nat.zero_le _⟩ ?_
  refine Z_lmul 6 rfl ?_
  refine Z_lret 7 rfl rfl ⟨Nat.le_refl _, Nat.le_refl _⟩ ?_
  exact ⟨rfl, rfl⟩
theorem c_C_inertiaHere (h : PV p) : Con l M_C_inertiaHere R_C_inertiaHere 0 0 false [.ref 0] (eC p rj s w g q q2 sm co) (zAl (ine p.s s) (fun m => m = eC p rj s w g q q2 sm co)) := by
  refine Con.of_Z (by decide) D_C_inertiaHere (Nat.le_of_ble_eq_true rfl) ?_
  refine Z_aload_n 0 rfl rfl rfl ?_
  refine Z_iconst 1 rfl ?_
  refine Z_callVlp (M' := M_C_setting) 2 isC rfl l_C_274 C_C_setting (c_C_setting l p rj s w g q q2 sm co h 1 (by omega)) (emC ..) (Or.inl ⟨_, _, _, _, rfl, rfl⟩) rfl rfl rfl (Nat.le_of_ble_eq_true rfl) ⟨rfl, rfl, Nat.le_of_ble_eq_true rfl, Nat.le_of_ble_eq_true rfl⟩ ⟨Nat.zero_le _, Nat.zero_le _⟩ ?_
  refine Z_aload_n 3 rfl rfl rfl ?_
  refine Z_iconst 4 rfl ?_
  refine Z_callVlp (M' := M_C_setting) 5 isC rfl l_C_274 C_C_setting (c_C_setting l p rj s w g q q2 sm co h 4 (by omega)) (emC ..) (Or.inl ⟨_, _, _, _, rfl, rfl⟩) rfl rfl rfl (Nat.le_of_ble_eq_true rfl) ⟨rfl, rfl, Nat.le_of_ble_eq_true rfl, Nat.le_of_ble_eq_true rfl⟩ ⟨Nat.zero_le _, Nat.zero_le _⟩ ?_
  refine Z_lmul 6 rfl ?_
  refine Z_aload_n 7 rfl rfl rfl ?_
  refine Z_iconst 8 rfl ?_
  refine Z_callVlp (M' := M_C_setting) 9 isC rfl l_C_274 C_C_setting (c_C_setting l p rj s w g q q2 sm co h 4 (by omega)) (emC ..) (Or.inl ⟨_, _, _, _, rfl, rfl⟩) rfl rfl rfl (Nat.le_of_ble_eq_true rfl) ⟨rfl, rfl, Nat.le_of_ble_eq_true rfl, Nat.le_of_ble_eq_true rfl⟩ ⟨Nat.zero_le _, Nat.zero_le _⟩ ?_
  refine Z_lmul 10 rfl ?_
  refine Z_ldc2 11 rfl k_C_242 (c := 3249) rfl ?_
  refine Z_lmul 12 rfl ?_
  refine Z_aload_n 13 rfl rfl rfl ?_
  refine Z_get 14 rfl f_C_53 rfl rfl ?_
  refine Z_getN 15 rfl f_C_192 rfl rfl ?_
  refine Z_lmul 16 rfl ?_
  refine Z_lret 17 rfl rfl ⟨Nat.le_refl _, Nat.le_refl _⟩ ?_
  exact ⟨rfl, rfl⟩
theorem c_C_forceHere (h : PV p) : Con l M_C_forceHere R_C_forceHere 0 0 false [.ref 0] (eC p rj s w g q q2 sm co) (zAl (frc p.s s) (fun m => m = eC p rj s w g q q2 sm co)) := by
  refine Con.of_Z (by decide) D_C_forceHere (Nat.le_of_ble_eq_true rfl) ?_
  refine Z_aload_n 0 rfl rfl rfl ?_
  refine Z_callVlp (M' := M_C_preloadHere) 1 isC rfl l_C_271 C_C_preloadHere (c_C_preloadHere l p rj s w g q q2 sm co h) (emC ..) (Or.inl ⟨_, _, _, _, rfl, rfl⟩) rfl rfl rfl (Nat.le_of_ble_eq_true rfl) ⟨rfl, rfl, Nat.le_of_ble_eq_true rfl, Nat.le_of_ble_eq_true rfl⟩ ⟨Nat.zero_le _, Nat.zero_le _⟩ ?_
  refine Z_aload_n 2 rfl rfl rfl ?_
  refine Z_callVlp (M' := M_C_springHere) 3 isC rfl l_C_265 C_C_springHere (c_C_springHere l p rj s w g q q2 sm co h) (emC ..) (Or.inl ⟨_, _, _, _, rfl, rfl⟩) rfl rfl rfl (Nat.le_of_ble_eq_true rfl) ⟨rfl, rfl, Nat.le_of_ble_eq_true rfl, Nat.le_of_ble_eq_true rfl⟩ ⟨Nat.zero_le _, Nat.zero_le _⟩ ?_
  refine Z_ladd 4 rfl ?_
  refine Z_aload_n 5 rfl rfl rfl ?_
  refine Z_callVlp (M' := M_C_inertiaHere) 6 isC rfl l_C_268 C_C_inertiaHere (c_C_inertiaHere l p rj s w g q q2 sm co h) (emC ..) (Or.inl ⟨_, _, _, _, rfl, rfl⟩) rfl rfl rfl (Nat.le_of_ble_eq_true rfl) ⟨rfl, rfl, Nat.le_of_ble_eq_true rfl, Nat.le_of_ble_eq_true rfl⟩ ⟨Nat.zero_le _, Nat.zero_le _⟩ ?_
  refine Z_ladd 7 rfl ?_
  refine Z_lret 8 rfl rfl ⟨Nat.le_refl _, Nat.le_refl _⟩ ?_
  exact ⟨rfl, rfl⟩
/-- bounds of those numbers -/
theorem pl_bd {t : TT} (h : TV t) {k u : Int} (hk : 0 ≤ k ∧ k < t.2.2.2) (hu : 0 ≤ u ∧ u ≤ t.2.1 k) : SBd (pl t k u) := by
  have h1 := h.1.1
  have hm := h.2.2 k hk.1 hk.2
  unfold mb at hm
  exact sd_bd (by omega) (by omega) (by omega) (by have := ah_bd h.1 (show k ≤ 12 by omega); omega) hu
theorem sb_bd {S : Int → Int} (hS : SB S) {s : SS} (hs : SBd s) : (-7781996851200000 ≤ rch S s ∧ rch S s ≤ 13822567833600000) ∧ (-8100000000000000 ≤ cur S s ∧ cur S s ≤ 14050000000000000) ∧ (0 ≤ prl S s ∧ prl S s ≤ 60460129382400000) ∧ (-770417688268800000 ≤ spr S s ∧ spr S s ≤ 770417688268800000) ∧ (-4051883250000000000 ≤ ine S s ∧ ine S s ≤ 4051883250000000000) := by
  unfold SB at hS
  unfold SBd at hs
  have a0 := mul_ab (x := S 0) (y := s.1) (A := 999) (B := 6046617600000) (by omega) (by omega)
  have a3 := mul_bd (x := S 3) (y := s.1) (A := 9999) (B := 6046617600000) (by omega) (by omega)
  have a2 := mul_ab (x := S 2) (y := lf s) (A := 99) (B := 7781996851200000) (by omega) (by omega)
  have a4 := mul_ab (x := S 4) (y := S 4) (A := 30) (B := 30) (by omega) (by omega)
  have a5 := mul_ab (x := S 1) (y := S 4) (A := 20) (B := 30) (by omega) (by omega)
  have a6 := mul_ab (x := S 1 * S 4) (y := S 4) (A := 600) (B := 30) (by omega) (by omega)
  have a7 := mul_ab (x := S 1 * S 4 * S 4 * 3249) (y := s.2.2.2.1) (A := 58482000) (B := 69284160000) (by omega) (by omega)
  have p0 := Int.mul_nonneg (show 0 ≤ S 0 by omega) (show 0 ≤ s.1 by omega)
  unfold cur rch prl spr ine
  omega
theorem frc_bd {S : Int → Int} (hS : SB S) {s : SS} (hs : SBd s) : -4900000000000000000 ≤ frc S s ∧ frc S s ≤ 4900000000000000000 := by
  have := sb_bd hS hs
  unfold frc
  omega
/-- a sample -/
theorem sd_g {k L r a u : Int} (hk : 0 ≤ k ∧ k ≤ 5) (hL : 1 ≤ L ∧ L ≤ 360) (hr : -99 ≤ r ∧ r ≤ 99) (hu : 0 ≤ u ∧ u ≤ L) : -(99 * (sd k L r a u).1) ≤ (sd k L r a u).2.1 ∧ (sd k L r a u).2.1 ≤ 99 * (sd k L r a u).1 := by
  have hc := cf_pos (k := k) hL.1
  have e1 := sp_over k L r a u hk
  have e2 := sp_gain k L r a u hk
  have b2 := shr_bd hk hL.1 hu
  have m := mul_ab hr (show -o5 L ≤ shr k u L ∧ shr k u L ≤ o5 L by omega)
  rw [e2, e1] at m
  have f1 : cf k L * (99 * (sd k L r a u).1 - (sd k L r a u).2.1) = 99 * (cf k L * (sd k L r a u).1) - cf k L * (sd k L r a u).2.1 := by grind
  have f2 : cf k L * (99 * (sd k L r a u).1 + (sd k L r a u).2.1) = 99 * (cf k L * (sd k L r a u).1) + cf k L * (sd k L r a u).2.1 := by grind
  constructor
  · rcases Int.lt_or_le (99 * (sd k L r a u).1 + (sd k L r a u).2.1) 0 with z | z
    · have := Int.mul_neg_of_pos_of_neg (show 0 < cf k L by omega) z
      omega
    · omega
  · rcases Int.lt_or_le (99 * (sd k L r a u).1 - (sd k L r a u).2.1) 0 with z | z
    · have := Int.mul_neg_of_pos_of_neg (show 0 < cf k L by omega) z
      omega
    · omega
theorem pl_g {t : TT} (h : TV t) {k u : Int} (hk : 0 ≤ k ∧ k < t.2.2.2) (hu : 0 ≤ u ∧ u ≤ t.2.1 k) : -(99 * (pl t k u).1) ≤ (pl t k u).2.1 ∧ (pl t k u).2.1 ≤ 99 * (pl t k u).1 := by
  have hm := h.2.2 k hk.1 hk.2
  unfold mb at hm
  exact sd_g (by omega) (by omega) (by omega) hu
theorem smp_bd {s : SS} (hs : SBd s) {x : Int} (hx : 1 ≤ x ∧ x ≤ 1000) : (0 < s.1 ∧ s.1 ≤ 4611686018427387903) ∧ inL (2 * x * s.2.1 + s.1) := by
  unfold SBd at hs
  have a1 := mul_ab (x := 2 * x) (y := s.2.1) (A := 2000) (B := 598615142400000) (by omega) (by omega)
  omega
theorem smp_b2 {s : SS} (hs : SBd s) (hg : -(99 * s.1) ≤ s.2.1 ∧ s.2.1 ≤ 99 * s.1) {x : Int} (hx : 1 ≤ x ∧ x ≤ 1000) : -1300000 ≤ smp s x ∧ smp s x ≤ 1300000 := by
  unfold SBd at hs
  have a0 := mul_ab (x := s.2.2.2.2) (y := x) (A := 1188) (B := 1000) (by omega) (by omega)
  have e1 : 2 * x * s.2.1 + s.1 ≤ 99001 * (2 * s.1) := by
    have := Int.mul_le_mul_of_nonneg_left hg.2 (show 0 ≤ 2 * x by omega)
    have e : 2 * x * (99 * s.1) = 198 * (x * s.1) := by grind
    have := Int.mul_le_mul_of_nonneg_right hx.2 (show 0 ≤ s.1 by omega)
    omega
  have e2 : -99001 * (2 * s.1) ≤ 2 * x * s.2.1 + s.1 := by
    have := Int.mul_le_mul_of_nonneg_left hg.1 (show 0 ≤ 2 * x by omega)
    have e : 2 * x * -(99 * s.1) = -(198 * (x * s.1)) := by grind
    have := Int.mul_le_mul_of_nonneg_right hx.2 (show 0 ≤ s.1 by omega)
    omega
  have d1 : -99001 ≤ (2 * x * s.2.1 + s.1) / (2 * s.1) := Int.le_ediv_of_mul_le (by omega) e2
  have d2 : (2 * x * s.2.1 + s.1) / (2 * s.1) ≤ 99001 := by
    have := Int.ediv_le_ediv (show 0 < 2 * s.1 by omega) e1
    rw [Int.mul_ediv_cancel _ (by omega)] at this
    exact this
  unfold smp
  omega
theorem c_C_sampleHere (h : PV p) (hs : SBd s) : Con l M_C_sampleHere R_C_sampleHere 0 0 false [.ref 0] (eC p rj s w g q q2 sm co) (zAl (smp s (p.s 5)) (fun m => m = eC p rj s w g q q2 sm co)) := by
  have hb := smp_bd hs h.2.1.2.2.2.2.2
  refine Con.of_Z (by decide) D_C_sampleHere (Nat.le_of_ble_eq_true rfl) ?_
  refine Z_aload_n 0 rfl rfl rfl ?_
  refine Z_get 1 rfl f_C_53 rfl rfl ?_
  refine Z_aload_n 2 rfl rfl rfl ?_
  refine Z_iconst 3 rfl ?_
  refine Z_callVlp (M' := M_C_setting) 4 isC rfl l_C_274 C_C_setting (c_C_setting l p rj s w g q q2 sm co h 5 (by omega)) (emC ..) (Or.inl ⟨_, _, _, _, rfl, rfl⟩) rfl rfl rfl (Nat.le_of_ble_eq_true rfl) ⟨rfl, rfl, Nat.le_of_ble_eq_true rfl, Nat.le_of_ble_eq_true rfl⟩ ⟨Nat.zero_le _, Nat.zero_le _⟩ ?_
  refine Z_callVlp (M' := M_S_sampled) 5 [20] rfl l_C_379 C_S_sampled (c_S_sampled l s (p.s 5) hb.1 hb.2) ⟨by decide, (zEL.c (Or.inl rfl) zEL.n)⟩ (Or.inl ⟨_, _, _, _, rfl, rfl⟩) rfl rfl rfl (Nat.le_of_ble_eq_true rfl) ⟨rfl, rfl, Nat.le_of_ble_eq_true rfl, Nat.le_of_ble_eq_true rfl⟩ ⟨Nat.zero_le _, Nat.zero_le _⟩ ?_
  refine Z_lret 6 rfl rfl ⟨Nat.le_refl _, Nat.le_refl _⟩ ?_
  exact ⟨rfl, rfl⟩
end C1
end
section
/-! what both sides answer: choices by a proposition, the number that a property tells, all places of a walk -/
noncomputable def cif {α : Type} (p : Prop) (a b : α) : α := @ite α p (Classical.propDecidable p) a b
theorem cif_t {α : Type} {p : Prop} {a b : α} (h : p) : cif p a b = a := by unfold cif; exact if_pos h
theorem cif_f {α : Type} {p : Prop} {a b : α} (h : ¬ p) : cif p a b = b := by unfold cif; exact if_neg h
noncomputable def theI (P : Int → Prop) : Int := @Classical.epsilon Int inferInstance P
theorem theI_eq {P : Int → Prop} {v : Int} (h : P v) (hu : ∀ x, P x → x = v) : theI P = v := hu _ (Classical.epsilon_spec (p := P) ⟨v, h⟩)
/-- the least, the greatest of those that are so; -5 -/
def IsLst (P : Int → Prop) (v : Int) : Prop := (P v ∧ ∀ x, P x → v ≤ x) ∨ (v = -5 ∧ ∀ x, ¬ P x)
def IsGst (P : Int → Prop) (v : Int) : Prop := (P v ∧ ∀ x, P x → x ≤ v) ∨ (v = -5 ∧ ∀ x, ¬ P x)
theorem IsLst_un {P : Int → Prop} {v v' : Int} (h : IsLst P v) (h' : IsLst P v') : v = v' := by
  rcases h with ⟨h1, h2⟩ | ⟨h1, h2⟩ <;> rcases h' with ⟨h3, h4⟩ | ⟨h3, h4⟩
  · have := h2 v' h3
    have := h4 v h1
    omega
  · exact absurd h1 (h4 v)
  · exact absurd h3 (h2 v')
  · omega
theorem IsGst_un {P : Int → Prop} {v v' : Int} (h : IsGst P v) (h' : IsGst P v') : v = v' := by
  rcases h with ⟨h1, h2⟩ | ⟨h1, h2⟩ <;> rcases h' with ⟨h3, h4⟩ | ⟨h3, h4⟩
  · have := h2 v' h3
    have := h4 v h1
    omega
  · exact absurd h1 (h4 v)
  · exact absurd h3 (h2 v')
  · omega
noncomputable def lstA (P : Int → Prop) : Int := theI (IsLst P)
noncomputable def gstA (P : Int → Prop) : Int := theI (IsGst P)
theorem lstA_eq {P : Int → Prop} {v : Int} (h : IsLst P v) : lstA P = v := theI_eq h (fun x hx => IsLst_un hx h)
theorem gstA_eq {P : Int → Prop} {v : Int} (h : IsGst P v) : gstA P = v := theI_eq h (fun x hx => IsGst_un hx h)
theorem lst_is {r : RR} {P : Int → Prop} (h : ∀ x, InR r x ↔ P x) : IsLst P (lst r) := by
  unfold lst
  by_cases hz : InR r r.1
  · rw [if_pos hz]
    exact Or.inl ⟨(h _).mp hz, fun x hx => ((h x).mpr hx).2.1⟩
  · rw [if_neg hz]
    refine Or.inr ⟨rfl, fun x hx => hz ?_⟩
    have := (h x).mpr hx
    exact ⟨this.1, Int.le_refl _, Int.le_trans this.2.1 this.2.2⟩
/-- all that there is to be seen: an angle, a piece, how far of it -/
def Vis (t : TT) (a k u : Int) : Prop :=
  (0 ≤ k ∧ k < t.2.2.2 ∧ 0 ≤ u ∧ u ≤ t.2.1 k ∧ a = bg t k + u) ∨ (clo t ∧ 0 < t.2.2.2 ∧ ((a = 0 ∧ k = t.2.2.2 - 1 ∧ u = t.2.1 (t.2.2.2 - 1)) ∨ (a = tot t ∧ k = 0 ∧ u = 0)))
theorem TV_L {t : TT} (h : TV t) {k : Int} (h0 : 0 ≤ k) (h1 : k < t.2.2.2) : 1 ≤ t.2.1 k ∧ t.2.1 k ≤ 360 := (h.2.2 k h0 h1).2.1
theorem Vis_At {t : TT} (h : TV t) {a k u : Int} : Vis t a k u ↔ ∃ sd, At t a sd k u := by
  constructor
  · rintro (⟨h1, h2, h3, h4, h5⟩ | ⟨h1, h2, h3⟩)
    · have hl := TV_L h h1 h2
      by_cases hu : 0 < u
      · exact ⟨0, Or.inl ⟨h1, h2, h5, Or.inl ⟨rfl, hu, h4⟩⟩⟩
      · exact ⟨1, Or.inl ⟨h1, h2, h5, Or.inr ⟨rfl, h3, by omega⟩⟩⟩
    · rcases h3 with h3 | h3
      · exact ⟨0, Or.inr ⟨h1, h2, Or.inl ⟨rfl, h3⟩⟩⟩
      · exact ⟨1, Or.inr ⟨h1, h2, Or.inr ⟨rfl, h3⟩⟩⟩
  · rintro ⟨sd, ⟨h1, h2, h3, h4⟩ | ⟨h1, h2, h3⟩⟩
    · exact Or.inl ⟨h1, h2, by omega, by omega, h3⟩
    · rcases h3 with h3 | h3
      · exact Or.inr ⟨h1, h2, Or.inl h3.2⟩
      · exact Or.inr ⟨h1, h2, Or.inr h3.2⟩
theorem Vis_in {t : TT} (h : TV t) {a k u : Int} (hV : Vis t a k u) : (0 ≤ k ∧ k < t.2.2.2) ∧ (0 ≤ u ∧ u ≤ t.2.1 k) ∧ (0 ≤ a ∧ a ≤ tot t) := by
  obtain ⟨sd, hA⟩ := (Vis_At h).mp hV
  have := At_in h hA
  exact ⟨⟨this.1.1, this.1.2.1⟩, this.2.1, this.2.2.1⟩
/-- what a walk has seen so far -/
def Dn (t : TT) (w : WW) (a k u : Int) : Prop :=
  (0 ≤ w.2.1 ∧ w.2.2.2.2.2 = 1 ∧ a = 0 ∧ k = t.2.2.2 - 1 ∧ u = t.2.1 (t.2.2.2 - 1))
  ∨ (0 ≤ k ∧ k < t.2.2.2 ∧ 0 ≤ u ∧ u ≤ t.2.1 k ∧ a = bg t k + u ∧ (k < w.2.1 ∨ (k = w.2.1 ∧ u < w.2.2.2.2.1)))
  ∨ (w.2.1 = t.2.2.2 + 1 ∧ a = tot t ∧ k = 0 ∧ u = 0)
theorem Dn_0 {t : TT} (h : TV t) {a k u : Int} : ¬ Dn t (wk0 t) a k u := by
  have h1 := h.1.1
  unfold Dn wk0
  by_cases hc : clo t
  · rw [bI_t hc]
    dsimp only
    omega
  · rw [bI_f hc]
    dsimp only
    omega
theorem Dn_end {t : TT} {w : WW} {i : Int} (h : TV t) (hJ : Jw t w i) (hm : ¬ mo t w) {a k u : Int} : Dn t w a k u ↔ Vis t a k u := by
  have h1 := h.1.1
  obtain ⟨hc, hJ⟩ := hJ
  unfold mo at hm
  have e : tot t = bg t t.2.2.2 := rfl
  unfold Dn Vis
  rcases hc with ⟨c1, c2, c3⟩ | ⟨c1, c2⟩
  · have e1 : w.2.1 = t.2.2.2 + 1 := by
      rcases hJ with hx | hx | hx | hx <;> omega
    constructor
    · rintro (hx | hx | hx)
      · exact Or.inr ⟨c2, c3, Or.inl hx.2.2⟩
      · exact Or.inl ⟨hx.1, hx.2.1, hx.2.2.1, hx.2.2.2.1, hx.2.2.2.2.1⟩
      · exact Or.inr ⟨c2, c3, Or.inr hx.2⟩
    · rintro (hx | ⟨-, -, hx | hx⟩)
      · exact Or.inr (Or.inl ⟨hx.1, hx.2.1, hx.2.2.1, hx.2.2.2.1, hx.2.2.2.2, Or.inl (by omega)⟩)
      · exact Or.inl ⟨by omega, c1, hx⟩
      · exact Or.inr (Or.inr ⟨e1, hx⟩)
  · have e1 : w.2.1 = t.2.2.2 := by
      rcases hJ with hx | hx | hx | hx <;> omega
    constructor
    · rintro (hx | hx | hx)
      · omega
      · exact Or.inl ⟨hx.1, hx.2.1, hx.2.2.1, hx.2.2.2.1, hx.2.2.2.2.1⟩
      · omega
    · rintro (hx | ⟨hx, -⟩)
      · exact Or.inr (Or.inl ⟨hx.1, hx.2.1, hx.2.2.1, hx.2.2.2.1, hx.2.2.2.2, Or.inl (by omega)⟩)
      · exact absurd hx c2
theorem nx_1 {t : TT} {w : WW} (h : w.2.1 < 0) : nx t w = (w.1, 0, w.2.2.1, w.2.2.2.1, w.2.2.2.2.1, w.2.2.2.2.2) := by
  unfold nx
  rw [if_pos h]
theorem nx_2 {t : TT} {w : WW} (h : 0 ≤ w.2.1) (h2 : w.2.1 < t.2.2.2) : nx t w = stp1 (w.2.2.1 + w.2.2.2.2.1, w.2.1, w.2.2.1, w.2.2.2.1, w.2.2.2.2.1, w.2.2.2.2.2) (t.2.1 w.2.1) (t.2.2.1 w.2.1) := by
  unfold nx
  rw [if_neg (by omega), if_pos h2]
theorem nx_3 {t : TT} {w : WW} (h : 0 ≤ w.2.1) (h2 : ¬ w.2.1 < t.2.2.2) (h3 : w.2.2.2.2.2 = 1 ∧ w.2.1 ≤ t.2.2.2) : nx t w = (w.1, w.2.1 + 1, w.2.2.1, w.2.2.2.1, w.2.2.2.2.1, w.2.2.2.2.2) := by
  unfold nx
  rw [if_neg (by omega), if_neg h2, if_pos h3]
theorem nsp_1 {t : TT} {w : WW} {s : SS} (h : w.2.1 < 0) : nsp t w s = sd (t.1 (t.2.2.2 - 1)) (t.2.1 (t.2.2.2 - 1)) (t.2.2.1 (t.2.2.2 - 1)) (-t.2.2.1 (t.2.2.2 - 1)) (t.2.1 (t.2.2.2 - 1)) := by
  unfold nsp
  rw [if_pos h]
theorem nsp_2 {t : TT} {w : WW} {s : SS} (h : 0 ≤ w.2.1) (h2 : w.2.1 < t.2.2.2) : nsp t w s = sd (t.1 w.2.1) (t.2.1 w.2.1) (t.2.2.1 w.2.1) w.2.2.2.1 w.2.2.2.2.1 := by
  unfold nsp
  rw [if_neg (by omega), if_pos h2]
theorem nsp_3 {t : TT} {w : WW} {s : SS} (h : 0 ≤ w.2.1) (h2 : ¬ w.2.1 < t.2.2.2) (h3 : w.2.2.2.2.2 = 1 ∧ w.2.1 ≤ t.2.2.2) : nsp t w s = sd (t.1 0) (t.2.1 0) (t.2.2.1 0) 0 0 := by
  unfold nsp
  rw [if_neg (by omega), if_neg h2, if_pos h3]
theorem Dn_le {t : TT} {w : WW} (h : TV t) (hi : w.2.1 ≤ t.2.2.2) (hu : 0 ≤ w.2.2.2.2.1) (hi0 : 0 ≤ w.2.1) {a k u : Int} (hD : Dn t w a k u) : a ≤ bg t w.2.1 + w.2.2.2.2.1 := by
  have b0 := bg_mono h.1 (Int.le_refl 0) hi0
  rw [bg_0] at b0
  rcases hD with hx | hx | hx
  · omega
  · rcases hx.2.2.2.2.2 with hy | hy
    · have b1 := bg_mono h.1 (show 0 ≤ k + 1 by omega) (show k + 1 ≤ w.2.1 by omega)
      rw [bg_s t hx.1] at b1
      omega
    · rw [← hy.1]
      omega
  · omega
theorem wk_step {t : TT} {w : WW} {i : Int} (h : TV t) (hJ : Jw t w i) (hm : mo t w) (s : SS) : ∃ kk uu, Vis t (nx t w).1 kk uu ∧ nsp t w s = pl t kk uu ∧ (∀ a k u, Dn t (nx t w) a k u ↔ (Dn t w a k u ∨ (a = (nx t w).1 ∧ k = kk ∧ u = uu))) ∧ ∀ a k u, Dn t w a k u → a ≤ (nx t w).1 := by
  have h1 := h.1.1
  obtain ⟨hc, hJ⟩ := hJ
  unfold mo at hm
  have e0 : tot t = bg t t.2.2.2 := rfl
  rcases hJ with hx | hx | hx | hx
  · have hcl : clo t ∧ 0 < t.2.2.2 := by
      rcases hc with hc | hc
      · exact hc.2
      · exact absurd (hx.2.1.symm.trans hc.1) (by omega)
    refine ⟨t.2.2.2 - 1, t.2.1 (t.2.2.2 - 1), ?_, ?_, ?_, ?_⟩
    · rw [nx_1 (by omega)]
      exact Or.inr ⟨hcl.1, hcl.2, Or.inl ⟨hx.2.2.1, rfl, rfl⟩⟩
    · rw [nsp_1 (by omega)]
      have e1 := ah_s t (show 0 ≤ t.2.2.2 - 1 by omega)
      rw [show t.2.2.2 - 1 + 1 = t.2.2.2 by omega, hcl.1.2] at e1
      unfold pl
      rw [show ah t (t.2.2.2 - 1) = -t.2.2.1 (t.2.2.2 - 1) by omega]
    · intro a k u
      rw [nx_1 (by omega)]
      unfold Dn
      dsimp only
      omega
    · intro a k u hD
      exfalso
      unfold Dn at hD
      omega
  · refine ⟨w.2.1, w.2.2.2.2.1, ?_, ?_, ?_, ?_⟩
    · rw [nx_2 (by omega) (by omega)]
      have e1 : (stp1 (w.2.2.1 + w.2.2.2.2.1, w.2.1, w.2.2.1, w.2.2.2.1, w.2.2.2.2.1, w.2.2.2.2.2) (t.2.1 w.2.1) (t.2.2.1 w.2.1)).1 = w.2.2.1 + w.2.2.2.2.1 := by
        unfold stp1
        split <;> rfl
      rw [e1]
      exact Or.inl ⟨hx.1, hx.2.1, hx.2.2.2.2.1, hx.2.2.2.2.2.1, by omega⟩
    · rw [nsp_2 (by omega) (by omega)]
      unfold pl
      rw [hx.2.2.2.1]
    · intro a k u
      rw [nx_2 (by omega) (by omega)]
      have hk : k = w.2.1 → bg t k = bg t w.2.1 ∧ t.2.1 k = t.2.1 w.2.1 := fun z => by rw [z]; exact ⟨rfl, rfl⟩
      unfold stp1
      split
      · unfold Dn
        dsimp only at *
        omega
      · unfold Dn
        dsimp only at *
        omega
    · intro a k u hD
      have hl := Dn_le h (by omega) hx.2.2.2.2.1 hx.1 hD
      rw [nx_2 (by omega) (by omega)]
      have e1 : (stp1 (w.2.2.1 + w.2.2.2.2.1, w.2.1, w.2.2.1, w.2.2.2.1, w.2.2.2.2.1, w.2.2.2.2.2) (t.2.1 w.2.1) (t.2.2.1 w.2.1)).1 = w.2.2.1 + w.2.2.2.2.1 := by
        unfold stp1
        split <;> rfl
      rw [e1]
      omega
  · have hcl : clo t ∧ 0 < t.2.2.2 := by
      rcases hc with hc | hc
      · exact hc.2
      · omega
    refine ⟨0, 0, ?_, ?_, ?_, ?_⟩
    · rw [nx_3 (by omega) (by omega) (by omega)]
      exact Or.inr ⟨hcl.1, hcl.2, Or.inr ⟨hx.2.2.2.2.1, rfl, rfl⟩⟩
    · rw [nsp_3 (by omega) (by omega) (by omega)]
      rfl
    · intro a k u
      rw [nx_3 (by omega) (by omega) (by omega)]
      unfold Dn
      dsimp only
      omega
    · intro a k u hD
      have hl := Dn_le h (by omega) (by omega) (by omega) hD
      rw [nx_3 (by omega) (by omega) (by omega)]
      dsimp only
      rw [hx.1, hx.2.2.2.1] at hl
      omega
  · exfalso
    omega
end
section
/-! the answers, over what a train, settings, rows are -/
def tAp (t : TT) (a b c : Int) : TT := (uI t.1 t.2.2.2 a, uI t.2.1 t.2.2.2 b, uI t.2.2.1 t.2.2.2 c, t.2.2.2 + 1)
noncomputable def pieceF (t : TT) (k n r : Int) : Int × TT := cif (0 ≤ k ∧ k ≤ 5) (cif (mb k n r) (cif (12 ≤ t.2.2.2) (-4, t) (cif (360 < tot t + n) (-3, t) (t.2.2.2, tAp t k n r))) (-2, t)) (-1, t)
noncomputable def dropF (t : TT) : Int × TT := cif (t.2.2.2 = 0) (-3, t) (t.2.2.2 - 1, (t.1, t.2.1, t.2.2.1, t.2.2.2 - 1))
noncomputable def putG (t : TT) (j what kk ll rr : Int) : Int × TT := cif (mb kk ll rr) (cif (360 < tot t - t.2.1 j + ll) (-999, t) (ptOf t j what, tW t j kk ll rr)) (-999, t)
noncomputable def putF (t : TT) (j what v : Int) : Int × TT := cif (0 ≤ j ∧ j < t.2.2.2) (cif (0 ≤ what ∧ what ≤ 2) (putG t j what (if what = 0 then v else t.1 j) (if what = 1 then v else t.2.1 j) (if what = 2 then v else t.2.2.1 j)) (-999, t)) (-999, t)
noncomputable def ofF (t : TT) (j what : Int) : Int := cif (0 ≤ j ∧ j < t.2.2.2) (cif (0 ≤ what ∧ what ≤ 4) (if what = 3 then bg t j else if what = 4 then ah t j else ptOf t j what) (-9999)) (-9999)
noncomputable def tellF (s : Int → Int) (what v : Int) : Int × (Int → Int) := cif (0 ≤ what ∧ what < 6) (cif (v < leF what ∨ moF what < v) (-2, s) (s what, uI s what v)) (-1, s)
noncomputable def toldF (t : TT) (s : Int → Int) (n what : Int) : Int := cif (0 ≤ what ∧ what < 6) (s what) (if what = 6 then t.2.2.2 else if what = 7 then tot t else if what = 8 then bI (clo t) else if what = 9 then n else -1)
def mirT (t : TT) : TT := tnT t t.2.2.2 (-1)
/-- how many of the first -/
noncomputable def cnt (P : Int → Prop) : Nat → Int
  | 0 => 0
  | m + 1 => cnt P m + bI (P m)
noncomputable def cnI (P : Int → Prop) (n : Int) : Int := cnt P n.toNat
theorem cnI_0 (P : Int → Prop) : cnI P 0 = 0 := rfl
theorem cnI_s (P : Int → Prop) {n : Int} (h : 0 ≤ n) : cnI P (n + 1) = cnI P n + bI (P n) := by
  unfold cnI
  rw [show (n + 1).toNat = n.toNat + 1 by omega]
  show cnt P n.toNat + bI (P (n.toNat : Int)) = _
  rw [Int.toNat_of_nonneg h]
theorem cnt_bd (P : Int → Prop) : ∀ m : Nat, 0 ≤ cnt P m ∧ cnt P m ≤ m := by
  intro m
  induction m with
  | zero => exact ⟨Int.le_refl _, Int.le_refl _⟩
  | succ m ih =>
    have h2 := bI_01 (P m)
    show 0 ≤ cnt P m + bI (P m) ∧ cnt P m + bI (P m) ≤ ((m + 1 : Nat) : Int)
    omega
theorem cnI_bd (P : Int → Prop) {n : Int} (h : 0 ≤ n) : 0 ≤ cnI P n ∧ cnI P n ≤ n := by
  have := cnt_bd P n.toNat
  unfold cnI
  omega
theorem cnt_le (P : Int → Prop) (m : Nat) : ∀ d : Nat, cnt P m ≤ cnt P (m + d) := by
  intro d
  induction d with
  | zero => exact Int.le_refl _
  | succ d ih =>
    have h2 := bI_01 (P (m + d : Nat))
    show _ ≤ cnt P (m + d) + bI (P ((m + d : Nat) : Int))
    omega
theorem cnI_le (P : Int → Prop) {a b : Int} (h : 0 ≤ a) (h2 : a ≤ b) : cnI P a ≤ cnI P b := by
  unfold cnI
  have := cnt_le P a.toNat (b.toNat - a.toNat)
  rw [show a.toNat + (b.toNat - a.toNat) = b.toNat by omega] at this
  exact this
theorem cnt_c {P Q : Int → Prop} {m : Nat} (h : ∀ i : Int, 0 ≤ i → i < m → (P i ↔ Q i)) : cnt P m = cnt Q m := by
  induction m with
  | zero => rfl
  | succ m ih =>
    show cnt P m + bI (P m) = cnt Q m + bI (Q m)
    rw [ih (fun i h1 h2 => h i h1 (by omega)), bI_c (h m (by omega) (by omega))]
theorem cnI_c {P Q : Int → Prop} {n : Int} (h : ∀ i : Int, 0 ≤ i → i < n → (P i ↔ Q i)) : cnI P n = cnI Q n := by
  unfold cnI
  exact cnt_c (fun i h1 h2 => h i h1 (by omega))
noncomputable def alikeF (t : TT) (j : Int) : Int := cif (0 ≤ j ∧ j < t.2.2.2) (cnI (fun i => alk t i j) t.2.2.2) (-1)
/-- the unlike ones -/
def IsUn (t : TT) (k v : Int) : Prop := (0 ≤ v ∧ v < t.2.2.2 ∧ fst1 t v ∧ cnI (fst1 t) v = k) ∨ ((∀ j, 0 ≤ j → j < t.2.2.2 → fst1 t j → cnI (fst1 t) j ≠ k) ∧ v = if k = -1 then cnI (fst1 t) t.2.2.2 else -1)
theorem IsUn_un {t : TT} {k v v' : Int} (h : IsUn t k v) (h' : IsUn t k v') : v = v' := by
  have key : ∀ x y : Int, 0 ≤ x → x < y → fst1 t x → cnI (fst1 t) x = k → cnI (fst1 t) y = k → False := by
    intro x y hx hy h1 h2 h3
    have e := cnI_s (fst1 t) hx
    rw [bI_t h1] at e
    have := cnI_le (fst1 t) (show 0 ≤ x + 1 by omega) (show x + 1 ≤ y by omega)
    omega
  rcases h with ⟨h1, h2, h3, h4⟩ | ⟨h1, h2⟩ <;> rcases h' with ⟨g1, g2, g3, g4⟩ | ⟨g1, g2⟩
  · rcases Int.lt_trichotomy v v' with z | z | z
    · exact (key v v' h1 z h3 h4 g4).elim
    · exact z
    · exact (key v' v g1 z g3 g4 h4).elim
  · exact absurd h4 (g1 v h1 h2 h3)
  · exact absurd g4 (h1 v' g1 g2 g3)
  · omega
noncomputable def unlikeF (t : TT) (k : Int) : Int := theI (IsUn t k)
theorem unlikeF_eq {t : TT} {k v : Int} (h : IsUn t k v) : unlikeF t k = v := theI_eq h (fun x hx => IsUn_un hx h)
/-- the steepest of the first -/
noncomputable def spn (t : TT) : Nat → Int
  | 0 => -5
  | m + 1 => cif (spn t m < 0 ∨ stp t m (spn t m)) m (spn t m)
noncomputable def spI (t : TT) (n : Int) : Int := spn t n.toNat
theorem spI_0 (t : TT) : spI t 0 = -5 := rfl
theorem spI_s (t : TT) {n : Int} (h : 0 ≤ n) : spI t (n + 1) = cif (spI t n < 0 ∨ stp t n (spI t n)) n (spI t n) := by
  unfold spI
  rw [show (n + 1).toNat = n.toNat + 1 by omega]
  show cif (spn t n.toNat < 0 ∨ stp t (n.toNat : Int) (spn t n.toNat)) (n.toNat : Int) (spn t n.toNat) = _
  rw [Int.toNat_of_nonneg h]
theorem spn_bd (t : TT) : ∀ m : Nat, spn t m = -5 ∨ (0 ≤ spn t m ∧ spn t m < m) := by
  intro m
  induction m with
  | zero => exact Or.inl rfl
  | succ m ih =>
    show cif (spn t m < 0 ∨ stp t m (spn t m)) (m : Int) (spn t m) = -5 ∨ (0 ≤ cif (spn t m < 0 ∨ stp t m (spn t m)) (m : Int) (spn t m) ∧ cif (spn t m < 0 ∨ stp t m (spn t m)) (m : Int) (spn t m) < ((m + 1 : Nat) : Int))
    by_cases hz : spn t m < 0 ∨ stp t m (spn t m)
    · rw [cif_t hz]
      omega
    · rw [cif_f hz]
      omega
theorem spI_bd (t : TT) {n : Int} (h : 0 ≤ n) : spI t n = -5 ∨ (0 ≤ spI t n ∧ spI t n < n) := by
  have := spn_bd t n.toNat
  unfold spI
  omega
/-- a number at an angle, seen from a side -/
def IsAt (t : TT) (a sd : Int) (f : SS → Int) (v : Int) : Prop := (∃ k u, At t a sd k u ∧ v = f (pl t k u)) ∨ ((¬ ∃ k u, At t a sd k u) ∧ v = NOv)
noncomputable def atV (t : TT) (a sd : Int) (f : SS → Int) : Int := theI (IsAt t a sd f)
theorem atV_t {t : TT} (h : TV t) {a sd k u : Int} (hA : At t a sd k u) (f : SS → Int) : atV t a sd f = f (pl t k u) := by
  refine theI_eq (Or.inl ⟨k, u, hA, rfl⟩) ?_
  rintro x (⟨k2, u2, hB, rfl⟩ | ⟨hn, -⟩)
  · have e := At_un h hB hA
    rw [e.1, e.2]
  · exact absurd ⟨k, u, hA⟩ hn
theorem atV_f {t : TT} {a sd : Int} (hn : ¬ ∃ k u, At t a sd k u) (f : SS → Int) : atV t a sd f = NOv := by
  refine theI_eq (Or.inr ⟨hn, rfl⟩) ?_
  rintro x (⟨k2, u2, hB, rfl⟩ | ⟨-, hx⟩)
  · exact absurd ⟨k2, u2, hB⟩ hn
  · exact hx
def whV (what : Int) (s : SS) : Int := if what = 0 then lf s else if what = 1 then s.2.2.1 else s.2.2.2.1
noncomputable def atF (t : TT) (a sd what part : Int) : Int := cif (0 ≤ what ∧ what ≤ 2) (cif (part = 0 ∨ part = 1) (atV t a sd (fun s => lo (whV what s) s.1 part)) NOv) NOv
noncomputable def curveF (t : TT) (S : Int → Int) (a sd part : Int) : Int := cif (part = 0 ∨ part = 1) (atV t a sd (fun s => lo (cur S s) s.1 part)) NOv
noncomputable def pressF (t : TT) (S : Int → Int) (a sd part : Int) : Int := cif (part = 0 ∨ part = 1) (atV t a sd (fun s => cif (0 < rch S s) (lo (57 * s.2.2.1) (rch S s) part) NOv)) NOv
noncomputable def forceF (t : TT) (S : Int → Int) (a sd part : Int) : Int := cif (part = 0 ∨ part = 1) (atV t a sd (fun s => lo (frc S s) s.1 part)) NOv
noncomputable def sampleF (t : TT) (S : Int → Int) (a : Int) : Int := cif (0 < t.2.2.2 ∧ 0 ≤ a ∧ a ≤ tot t) (atV t a (if a = 0 then 1 else 0) (fun s => smp s (S 5))) NOv
/-! joins -/
def hj (t : TT) (j : Int) : Prop := (j = 0 ∧ clo t) ∨ (j ≠ 0 ∧ 0 ≤ j ∧ j < t.2.2.2)
def pa (t : TT) (j : Int) : Int := if j = 0 then t.2.2.2 - 1 else j - 1
def sbf (what : Int) (s : SS) : Int := if what = 1 then s.2.2.1 else s.2.2.2.1
def jpa (t : TT) (j what : Int) : Int := lo (sbf what (pl t j 0)) (pl t j 0).1 0 * lo (sbf what (pl t (pa t j) (t.2.1 (pa t j)))) (pl t (pa t j) (t.2.1 (pa t j))).1 1 - lo (sbf what (pl t (pa t j) (t.2.1 (pa t j)))) (pl t (pa t j) (t.2.1 (pa t j))).1 0 * lo (sbf what (pl t j 0)) (pl t j 0).1 1
def jpb (t : TT) (j what : Int) : Int := lo (sbf what (pl t j 0)) (pl t j 0).1 1 * lo (sbf what (pl t (pa t j) (t.2.1 (pa t j)))) (pl t (pa t j) (t.2.1 (pa t j))).1 1
noncomputable def jumpF (t : TT) (j what part : Int) : Int := cif (hj t j) (cif (0 ≤ what ∧ what ≤ 1) (cif (part = 0 ∨ part = 1) (lo (jpa t j (what + 1)) (jpb t j (what + 1)) part) NOv) NOv) NOv
noncomputable def jkd (t : TT) (j : Int) : Int := cif (jpa t j 1 = 0) (cif (jpa t j 2 = 0) 2 1) 0
noncomputable def joinF (t : TT) (j : Int) : Int := cif (hj t j) (jkd t j) (-1)
noncomputable def jbn (t : TT) (what : Int) : Nat → Int32
  | 0 => iI 0
  | m + 1 => cif (hj t m ∧ jkd t m = what) (jbn t what m ||| (iI 1 <<< (iI (m : Int) &&& 31))) (jbn t what m)
noncomputable def jbI (t : TT) (what n : Int) : Int32 := jbn t what n.toNat
theorem jbI_s (t : TT) (what : Int) {n : Int} (h : 0 ≤ n) : jbI t what (n + 1) = cif (hj t n ∧ jkd t n = what) (jbI t what n ||| (iI 1 <<< (iI n &&& 31))) (jbI t what n) := by
  unfold jbI
  rw [show (n + 1).toNat = n.toNat + 1 by omega]
  show cif (hj t (n.toNat : Int) ∧ jkd t (n.toNat : Int) = what) (jbn t what n.toNat ||| (iI 1 <<< (iI (n.toNat : Int) &&& 31))) (jbn t what n.toNat) = _
  rw [Int.toNat_of_nonneg h]
noncomputable def joinsF (t : TT) (what : Int) : Int := cif (0 ≤ what ∧ what ≤ 2) (jbI t what t.2.2.2).toInt (-1)
/-! lowest terms -/
theorem lo_p (a b : Int) (h : 0 < b) : 0 < lo a b 1 := by
  unfold lo
  rw [if_neg (by omega)]
  obtain ⟨c, hc⟩ := Int.gcd_dvd_right a b
  have hg := gcd_pos (a := a) h
  have e : b.tdiv ((Int.gcd a b : Nat) : Int) = c := by
    have := Int.mul_tdiv_cancel_left c (show ((Int.gcd a b : Nat) : Int) ≠ 0 by omega)
    rw [← hc] at this
    exact this
  rw [e]
  rcases Int.lt_or_le 0 c with z | z
  · exact z
  · exfalso
    have := Int.mul_nonpos_of_nonneg_of_nonpos (show 0 ≤ ((Int.gcd a b : Nat) : Int) by omega) z
    omega
theorem lo_g (a b p : Int) (h : 0 < b) : (if p = 0 then a else b) = ((Int.gcd a b : Nat) : Int) * lo a b p := by
  have hg := gcd_pos (a := a) h
  have key : ∀ x : Int, ((Int.gcd a b : Nat) : Int) ∣ x → x = ((Int.gcd a b : Nat) : Int) * x.tdiv ((Int.gcd a b : Nat) : Int) := by
    intro x hx
    obtain ⟨c, hc⟩ := hx
    have := Int.mul_tdiv_cancel_left c (show ((Int.gcd a b : Nat) : Int) ≠ 0 by omega)
    rw [← hc] at this
    rw [this]
    exact hc
  unfold lo
  split
  · exact key a (Int.gcd_dvd_left ..)
  · exact key b (Int.gcd_dvd_right ..)
theorem lo_z (a b : Int) (h : 0 < b) : lo a b 0 = 0 ↔ a = 0 := by
  have e := lo_g a b 0 h
  rw [if_pos rfl] at e
  constructor
  · intro z
    rw [z, Int.mul_zero] at e
    exact e
  · intro z
    unfold lo
    rw [if_pos rfl, z, Int.zero_tdiv]
/-- no more than any other way to write it -/
theorem lo_bd (a b p : Int) (h : 0 < b) {A : Int} (ha : -A ≤ a ∧ a ≤ A) {B : Int} (hb : b ≤ B) : (-A ≤ lo a b 0 ∧ lo a b 0 ≤ A) ∧ (0 < lo a b 1 ∧ lo a b 1 ≤ B) := by
  have hg := gcd_pos (a := a) h
  have e0 := lo_g a b 0 h
  have e1 := lo_g a b 1 h
  have h1 := lo_p a b h
  rw [if_pos rfl] at e0
  rw [if_neg (by omega)] at e1
  refine ⟨dv (c := ((Int.gcd a b : Nat) : Int)) (by omega) (by omega), h1, ?_⟩
  have := dv (c := ((Int.gcd a b : Nat) : Int)) (x := lo a b 1) (A := B) (by omega) (by omega)
  exact this.2
theorem lo_eq (a b c d p : Int) (hb : 0 < b) (hd : 0 < d) (h : a * d = c * b) : lo a b p = lo c d p := by
  rw [← lo_mul a b p hd, ← lo_mul c d p hb, Int.mul_comm d a, h, Int.mul_comm c b, Int.mul_comm d b]
end
section
/-! CamPieces: pieces, settings, what is told of an angle -/
/-- the Reader's own cells -/
def eD (b : Int → Int) (n : Int) (rj : RJ) : List zE := [zO 2 [.ref 1, .int (iI n), .ref 2, .int (iI rj.2.1), .int (iI rj.2.2.1), .int (iI rj.2.2.2.1), .int (iI rj.2.2.2.2.1), .int (iI rj.2.2.2.2.2)], aI 120 b, zO 5 [.ref 3, .ref 4, .ref 5, .int (iI rj.1.2.2.2)], aI 12 rj.1.1, aI 12 rj.1.2.1, aI 12 rj.1.2.2.1]
theorem c_D_size (l : Launch) (b : Int → Int) (n : Int) (rj : RJ) : Con l M_D_size R_D_size 0 0 false [.ref 0] (eD b n rj) (zAi n (fun m => m = eD b n rj)) := by
  refine Con.of_Z (by decide) D_D_size (Nat.le_of_ble_eq_true rfl) ?_
  refine Z_aload_n 0 rfl rfl rfl ?_
  refine Z_get 1 rfl f_D_15 rfl rfl ?_
  refine Z_iret 2 rfl rfl ⟨Nat.le_refl _, Nat.le_refl _⟩ ?_
  exact ⟨rfl, rfl⟩
theorem c_D_empty (l : Launch) (b : Int → Int) (n : Int) (rj : RJ) : Con l M_D_empty R_D_empty 0 0 false [.ref 0] (eD b n rj) (zAv (fun m => m = eD b 0 rj)) := by
  refine Con.of_Z (by decide) D_D_empty (Nat.le_of_ble_eq_true rfl) ?_
  refine Z_aload_n 0 rfl rfl rfl ?_
  refine Z_iconst 1 rfl ?_
  refine Z_put 2 rfl f_D_15 rfl (Nat.le_of_ble_eq_true rfl) (fun _ => ⟨rfl, rfl⟩) (fs' := []) (mem' := eD b 0 rj) rfl ?_
  refine Z_vret 3 rfl rfl ⟨Nat.le_refl _, Nat.le_refl _⟩ ?_
  exact ⟨rfl, rfl⟩
theorem c_D_append (l : Launch) (b : Int → Int) (n : Int) (rj : RJ) (v : Int) (hn : 0 ≤ n ∧ n < 120) : Con l M_D_append R_D_append 0 0 false [.ref 0, .int (iI v)] (eD b n rj) (zAv (fun m => m = eD (uI b n v) (n + 1) rj)) := by
  refine Con.of_Z (by decide) D_D_append (Nat.le_of_ble_eq_true rfl) ?_
  refine Z_aload_n 0 rfl rfl rfl ?_
  refine Z_get 1 rfl f_D_15 rfl rfl ?_
  refine Z_bipush 2 rfl rfl ?_
  refine Z_icmp_lt 3 rfl (tgt := 10) rfl (by omega) (by omega) (fun c6 => ?_) (fun c6 => ?_)
  rotate_left
  · exfalso; omega
  refine Z_aload_n 5 rfl rfl rfl ?_
  refine Z_get 6 rfl f_D_9 rfl rfl ?_
  refine Z_aload_n 7 rfl rfl rfl ?_
  refine Z_get 8 rfl f_D_15 rfl rfl ?_
  refine Z_iload_n 9 rfl rfl rfl ?_
  refine Z_callSNv (M' := M_C_store) 10 [1] rfl l_D_41 C_C_store (c_C_store l 120 (by omega) b n v (by omega)) ⟨by decide, (zEL.c (Or.inl rfl) zEL.n)⟩ rfl rfl rfl (Nat.le_of_ble_eq_true rfl) ⟨rfl, rfl, Nat.le_of_ble_eq_true rfl, Nat.le_of_ble_eq_true rfl⟩ ⟨Nat.zero_le _, Nat.zero_le _⟩ (fun out hq => ?_)
  obtain rfl := hq
  refine Z_mem (show _ = eD (uI b n v) n rj by rw [stI_in (by omega)]; rfl) ?_
  refine Z_aload_n 11 rfl rfl rfl ?_
  refine Z_dup 12 rfl rfl ?_
  refine Z_get 13 rfl f_D_15 rfl rfl ?_
  refine Z_iconst 14 rfl ?_
  refine Z_iadd 15 rfl ?_
  refine Z_put 16 rfl f_D_15 rfl (Nat.le_of_ble_eq_true rfl) (fun _ => ⟨rfl, rfl⟩) (fs' := []) (mem' := eD (uI b n v) (n + 1) rj) rfl ?_
  refine Z_vret 17 rfl rfl ⟨Nat.le_refl _, Nat.le_refl _⟩ ?_
  exact ⟨rfl, rfl⟩
section C2
variable (l : Launch) (p : PS) (rj : RJ) (s : SS) (w : WW) (g : RR) (q q2 : Int × Int) (sm co : Int → Int)
theorem c_C_piece (h : PV p) (k n r : Int) (hk : inI k) (hn : inI n) (hr : inI r) : Con l M_C_piece R_C_piece 0 0 false [.ref 0, .int (iI k), .int (iI n), .int (iI r)] (eC p rj s w g q q2 sm co) (zAi (pieceF p.t k n r).1 (fun m => m = eC ((pieceF p.t k n r).2, p.2) rj s w g q q2 sm co)) := by
  have h1 := h.1.1.1
  have h2 := tot_bd h.1.1
  refine Con.of_Z (by decide) D_C_piece (Nat.le_of_ble_eq_true rfl) ?_
  refine Z_iload_n 0 rfl rfl rfl ?_
  refine Z_if_lt 1 rfl (tgt := 10) rfl (by omega) (fun c1 => ?_) (fun c1 => ?_)
  · refine Z_iconst 5 rfl ?_
    refine Z_iret 6 rfl rfl ⟨Nat.le_refl _, Nat.le_refl _⟩ ?_
    exact ⟨by unfold pieceF; repeat (first | rw [cif_t (by first | assumption | omega)] | rw [cif_f (by first | assumption | omega)]), by unfold pieceF; repeat (first | rw [cif_t (by first | assumption | omega)] | rw [cif_f (by first | assumption | omega)])⟩
  · refine Z_iload_n 2 rfl rfl rfl ?_
    refine Z_bipush 3 rfl rfl ?_
    refine Z_icmp_lt 4 rfl (tgt := 12) rfl (by omega) (by omega) (fun c7 => ?_) (fun c7 => ?_)
    · refine Z_iload_n 7 rfl rfl rfl ?_
      refine Z_iload_n 8 rfl rfl rfl ?_
      refine Z_iload_n 9 rfl rfl rfl ?_
      refine Z_callSbp (M' := M_C_mayBe) 10 [] rfl l_C_95 C_C_mayBe (c_C_mayBe l k n r hk hn hr) ⟨List.nodup_nil, zEL.n⟩ rfl rfl rfl (Nat.le_of_ble_eq_true rfl) ⟨rfl, rfl, Nat.le_of_ble_eq_true rfl, Nat.le_of_ble_eq_true rfl⟩ ⟨Nat.zero_le _, Nat.zero_le _⟩ ?_
      refine Z_ifb_ne 11 rfl (tgt := 24) rfl (fun c18 => ?_) (fun c18 => ?_)
      · refine Z_aload_n 14 rfl rfl rfl ?_
        refine Z_get 15 rfl f_C_14 rfl rfl ?_
        refine Z_callVbp (M' := M_T_isFull) 16 [1, 2, 3, 4] rfl l_C_99 C_T_isFull (c_T_isFull l p.t h.1.1) ⟨by decide, (zEL.c (Or.inl rfl) (zEL.c (Or.inl rfl) (zEL.c (Or.inl rfl) (zEL.c (Or.inl rfl) zEL.n))))⟩ (Or.inl ⟨_, _, _, _, rfl, rfl⟩) rfl rfl rfl (Nat.le_of_ble_eq_true rfl) ⟨rfl, rfl, Nat.le_of_ble_eq_true rfl, Nat.le_of_ble_eq_true rfl⟩ ⟨Nat.zero_le _, Nat.zero_le _⟩ ?_
        refine Z_ifb_eq 17 rfl (tgt := 37) rfl (fun c31 => ?_) (fun c31 => ?_)
        · have hm : 1 ≤ n ∧ n ≤ 360 := by have := c18; unfold mb at this; omega
          refine Z_aload_n 20 rfl rfl rfl ?_
          refine Z_get 21 rfl f_C_14 rfl rfl ?_
          refine Z_callVip (M' := M_T_total) 22 [1, 2, 3, 4] rfl l_C_103 C_T_total (c_T_total l p.t h.1.1) ⟨by decide, (zEL.c (Or.inl rfl) (zEL.c (Or.inl rfl) (zEL.c (Or.inl rfl) (zEL.c (Or.inl rfl) zEL.n))))⟩ (Or.inl ⟨_, _, _, _, rfl, rfl⟩) rfl rfl rfl (Nat.le_of_ble_eq_true rfl) ⟨rfl, rfl, Nat.le_of_ble_eq_true rfl, Nat.le_of_ble_eq_true rfl⟩ ⟨Nat.zero_le _, Nat.zero_le _⟩ ?_
          refine Z_iload_n 23 rfl rfl rfl ?_
          refine Z_iadd 24 rfl ?_
          refine Z_sipush 25 rfl rfl ?_
          refine Z_icmp_le 26 rfl (tgt := 55) rfl (by omega) (by omega) (fun c49 => ?_) (fun c49 => ?_)
          · refine Z_aload_n 29 rfl rfl rfl ?_
            refine Z_get 30 rfl f_C_14 rfl rfl ?_
            refine Z_iload_n 31 rfl rfl rfl ?_
            refine Z_iload_n 32 rfl rfl rfl ?_
            refine Z_iload_n 33 rfl rfl rfl ?_
            refine Z_callVv (M' := M_T_append) 34 [1, 2, 3, 4] rfl l_C_107 C_T_append (c_T_append l p.t h.1.1 k n r (by omega)) ⟨by decide, (zEL.c (Or.inl rfl) (zEL.c (Or.inl rfl) (zEL.c (Or.inl rfl) (zEL.c (Or.inl rfl) zEL.n))))⟩ (Or.inl ⟨_, _, _, _, rfl, rfl⟩) rfl rfl rfl (Nat.le_of_ble_eq_true rfl) ⟨rfl, rfl, Nat.le_of_ble_eq_true rfl, Nat.le_of_ble_eq_true rfl⟩ ⟨Nat.zero_le _, Nat.zero_le _⟩ (fun out hq => ?_)
            obtain rfl := hq
            refine Z_mem (show _ = eC (tAp p.t k n r, p.2) rj s w g q q2 sm co from rfl) ?_
            refine Z_aload_n 35 rfl rfl rfl ?_
            refine Z_get 36 rfl f_C_14 rfl rfl ?_
            refine Z_callVip (M' := M_T_size) 37 [1, 2, 3, 4] rfl l_C_111 C_T_size (c_T_size l (tAp p.t k n r)) ⟨by decide, (zEL.c (Or.inl rfl) (zEL.c (Or.inl rfl) (zEL.c (Or.inl rfl) (zEL.c (Or.inl rfl) zEL.n))))⟩ (Or.inl ⟨_, _, _, _, rfl, rfl⟩) rfl rfl rfl (Nat.le_of_ble_eq_true rfl) ⟨rfl, rfl, Nat.le_of_ble_eq_true rfl, Nat.le_of_ble_eq_true rfl⟩ ⟨Nat.zero_le _, Nat.zero_le _⟩ ?_
            refine Z_iconst 38 rfl ?_
            refine Z_isub 39 rfl ?_
            refine Z_ci (show _ = p.t.2.2.2 by show p.t.2.2.2 + 1 - 1 = _; omega) ?_
            refine Z_iret 40 rfl rfl ⟨Nat.le_refl _, Nat.le_refl _⟩ ?_
            exact ⟨by unfold pieceF; repeat (first | rw [cif_t (by first | assumption | omega)] | rw [cif_f (by first | assumption | omega)]), by unfold pieceF; repeat (first | rw [cif_t (by first | assumption | omega)] | rw [cif_f (by first | assumption | omega)])⟩
          · refine Z_bipush 27 rfl rfl ?_
            refine Z_iret 28 rfl rfl ⟨Nat.le_refl _, Nat.le_refl _⟩ ?_
            exact ⟨by unfold pieceF; repeat (first | rw [cif_t (by first | assumption | omega)] | rw [cif_f (by first | assumption | omega)]), by unfold pieceF; repeat (first | rw [cif_t (by first | assumption | omega)] | rw [cif_f (by first | assumption | omega)])⟩
        · refine Z_bipush 18 rfl rfl ?_
          refine Z_iret 19 rfl rfl ⟨Nat.le_refl _, Nat.le_refl _⟩ ?_
          exact ⟨by unfold pieceF; repeat (first | rw [cif_t (by first | assumption | omega)] | rw [cif_f (by first | assumption | omega)]), by unfold pieceF; repeat (first | rw [cif_t (by first | assumption | omega)] | rw [cif_f (by first | assumption | omega)])⟩
      · refine Z_bipush 12 rfl rfl ?_
        refine Z_iret 13 rfl rfl ⟨Nat.le_refl _, Nat.le_refl _⟩ ?_
        exact ⟨by unfold pieceF; repeat (first | rw [cif_t (by first | assumption | omega)] | rw [cif_f (by first | assumption | omega)]), by unfold pieceF; repeat (first | rw [cif_t (by first | assumption | omega)] | rw [cif_f (by first | assumption | omega)])⟩
    · refine Z_iconst 5 rfl ?_
      refine Z_iret 6 rfl rfl ⟨Nat.le_refl _, Nat.le_refl _⟩ ?_
      exact ⟨by unfold pieceF; repeat (first | rw [cif_t (by first | assumption | omega)] | rw [cif_f (by first | assumption | omega)]), by unfold pieceF; repeat (first | rw [cif_t (by first | assumption | omega)] | rw [cif_f (by first | assumption | omega)])⟩
theorem c_C_drop (h : PV p) : Con l M_C_drop R_C_drop 0 0 false [.ref 0] (eC p rj s w g q q2 sm co) (zAi (dropF p.t).1 (fun m => m = eC ((dropF p.t).2, p.2) rj s w g q q2 sm co)) := by
  have h1 := h.1.1.1
  refine Con.of_Z (by decide) D_C_drop (Nat.le_of_ble_eq_true rfl) ?_
  refine Z_aload_n 0 rfl rfl rfl ?_
  refine Z_get 1 rfl f_C_14 rfl rfl ?_
  refine Z_callVip (M' := M_T_size) 2 [1, 2, 3, 4] rfl l_C_111 C_T_size (c_T_size l p.t) ⟨by decide, (zEL.c (Or.inl rfl) (zEL.c (Or.inl rfl) (zEL.c (Or.inl rfl) (zEL.c (Or.inl rfl) zEL.n))))⟩ (Or.inl ⟨_, _, _, _, rfl, rfl⟩) rfl rfl rfl (Nat.le_of_ble_eq_true rfl) ⟨rfl, rfl, Nat.le_of_ble_eq_true rfl, Nat.le_of_ble_eq_true rfl⟩ ⟨Nat.zero_le _, Nat.zero_le _⟩ ?_
  refine Z_if_ne 3 rfl (tgt := 13) rfl (by omega) (fun c7 => ?_) (fun c7 => ?_)
  · refine Z_aload_n 6 rfl rfl rfl ?_
    refine Z_get 7 rfl f_C_14 rfl rfl ?_
    refine Z_callVv (M' := M_T_shorten) 8 [1, 2, 3, 4] rfl l_C_114 C_T_shorten (c_T_shorten l p.t h.1.1 (by omega)) ⟨by decide, (zEL.c (Or.inl rfl) (zEL.c (Or.inl rfl) (zEL.c (Or.inl rfl) (zEL.c (Or.inl rfl) zEL.n))))⟩ (Or.inl ⟨_, _, _, _, rfl, rfl⟩) rfl rfl rfl (Nat.le_of_ble_eq_true rfl) ⟨rfl, rfl, Nat.le_of_ble_eq_true rfl, Nat.le_of_ble_eq_true rfl⟩ ⟨Nat.zero_le _, Nat.zero_le _⟩ (fun out hq => ?_)
    obtain rfl := hq
    refine Z_mem (show _ = eC ((p.t.1, p.t.2.1, p.t.2.2.1, p.t.2.2.2 - 1), p.2) rj s w g q q2 sm co from rfl) ?_
    refine Z_aload_n 9 rfl rfl rfl ?_
    refine Z_get 10 rfl f_C_14 rfl rfl ?_
    refine Z_callVip (M' := M_T_size) 11 [1, 2, 3, 4] rfl l_C_111 C_T_size (c_T_size l (p.t.1, p.t.2.1, p.t.2.2.1, p.t.2.2.2 - 1)) ⟨by decide, (zEL.c (Or.inl rfl) (zEL.c (Or.inl rfl) (zEL.c (Or.inl rfl) (zEL.c (Or.inl rfl) zEL.n))))⟩ (Or.inl ⟨_, _, _, _, rfl, rfl⟩) rfl rfl rfl (Nat.le_of_ble_eq_true rfl) ⟨rfl, rfl, Nat.le_of_ble_eq_true rfl, Nat.le_of_ble_eq_true rfl⟩ ⟨Nat.zero_le _, Nat.zero_le _⟩ ?_
    refine Z_iret 12 rfl rfl ⟨Nat.le_refl _, Nat.le_refl _⟩ ?_
    exact ⟨by unfold dropF; (repeat (first | rw [cif_t (by first | assumption | omega)] | rw [cif_f (by first | assumption | omega)])) <;> rfl, by unfold dropF; (repeat (first | rw [cif_t (by first | assumption | omega)] | rw [cif_f (by first | assumption | omega)])) <;> rfl⟩
  · refine Z_bipush 4 rfl rfl ?_
    refine Z_iret 5 rfl rfl ⟨Nat.le_refl _, Nat.le_refl _⟩ ?_
    exact ⟨by unfold dropF; (repeat (first | rw [cif_t (by first | assumption | omega)] | rw [cif_f (by first | assumption | omega)])) <;> rfl, by unfold dropF; (repeat (first | rw [cif_t (by first | assumption | omega)] | rw [cif_f (by first | assumption | omega)])) <;> rfl⟩
theorem c_C_put (h : PV p) (j what v : Int) (hj : inI j) (hw : inI what) (hv : inI v) : Con l M_C_put R_C_put 0 0 false [.ref 0, .int (iI j), .int (iI what), .int (iI v)] (eC p rj s w g q q2 sm co) (zAi (putF p.t j what v).1 (fun m => m = eC ((putF p.t j what v).2, p.2) rj s w g q q2 sm co)) := by
  have h1 := h.1.1.1
  have h2 := tot_bd h.1.1
  have b1 := h.1.1.2.1 j
  have b2 := h.1.1.2.2.1 j
  have b3 := h.1.1.2.2.2 j
  obtain ⟨kk, hkk⟩ : ∃ kk, kk = if what = 0 then v else p.t.1 j := ⟨_, rfl⟩
  obtain ⟨ll, hll⟩ : ∃ ll, ll = if what = 1 then v else p.t.2.1 j := ⟨_, rfl⟩
  obtain ⟨rr, hrr⟩ : ∃ rr, rr = if what = 2 then v else p.t.2.2.1 j := ⟨_, rfl⟩
  have ik : inI kk := by rw [hkk]; split <;> omega
  have il : inI ll := by rw [hll]; split <;> omega
  have ir : inI rr := by rw [hrr]; split <;> omega
  refine Con.of_Z (by decide) D_C_put (Nat.le_of_ble_eq_true rfl) ?_
  refine Z_aload_n 0 rfl rfl rfl ?_
  refine Z_get 1 rfl f_C_14 rfl rfl ?_
  refine Z_iload_n 2 rfl rfl rfl ?_
  refine Z_callVbp (M' := M_T_has) 3 [1, 2, 3, 4] rfl l_C_117 C_T_has (c_T_has l p.t h.1.1 j hj) ⟨by decide, (zEL.c (Or.inl rfl) (zEL.c (Or.inl rfl) (zEL.c (Or.inl rfl) (zEL.c (Or.inl rfl) zEL.n))))⟩ (Or.inl ⟨_, _, _, _, rfl, rfl⟩) rfl rfl rfl (Nat.le_of_ble_eq_true rfl) ⟨rfl, rfl, Nat.le_of_ble_eq_true rfl, Nat.le_of_ble_eq_true rfl⟩ ⟨Nat.zero_le _, Nat.zero_le _⟩ ?_
  refine Z_ifb_eq 4 rfl (tgt := 20) rfl (fun c8 => ?_) (fun c8 => ?_)
  · refine Z_sipush 10 rfl rfl ?_
    refine Z_iret 11 rfl rfl ⟨Nat.le_refl _, Nat.le_refl _⟩ ?_
    first | (exfalso; omega) | exact ⟨by unfold putF; rw [← hkk, ← hll, ← hrr]; unfold putG; repeat (first | rw [cif_t (by first | assumption | omega)] | rw [cif_f (by first | assumption | omega)]), by unfold putF; rw [← hkk, ← hll, ← hrr]; unfold putG; (repeat (first | rw [cif_t (by first | assumption | omega)] | rw [cif_f (by first | assumption | omega)])) <;> rfl⟩
  · refine Z_iload_n 5 rfl rfl rfl ?_
    refine Z_if_lt 6 rfl (tgt := 20) rfl (by omega) (fun c12 => ?_) (fun c12 => ?_)
    · refine Z_sipush 10 rfl rfl ?_
      refine Z_iret 11 rfl rfl ⟨Nat.le_refl _, Nat.le_refl _⟩ ?_
      first | (exfalso; omega) | exact ⟨by unfold putF; rw [← hkk, ← hll, ← hrr]; unfold putG; repeat (first | rw [cif_t (by first | assumption | omega)] | rw [cif_f (by first | assumption | omega)]), by unfold putF; rw [← hkk, ← hll, ← hrr]; unfold putG; (repeat (first | rw [cif_t (by first | assumption | omega)] | rw [cif_f (by first | assumption | omega)])) <;> rfl⟩
    · refine Z_iload_n 7 rfl rfl rfl ?_
      refine Z_iconst 8 rfl ?_
      refine Z_icmp_le 9 rfl (tgt := 24) rfl (by omega) (by omega) (fun c17 => ?_) (fun c17 => ?_)
      · refine Z_iload_n 12 rfl rfl rfl ?_
        refine Z_if_ne 13 rfl (tgt := 32) rfl (by omega) (fun c25 => ?_) (fun c25 => ?_)
        · refine Z_aload_n 16 rfl rfl rfl ?_
          refine Z_get 17 rfl f_C_14 rfl rfl ?_
          refine Z_iload_n 18 rfl rfl rfl ?_
          refine Z_callVip (M' := M_T_kindOf) 19 [1, 2, 3, 4] rfl l_C_121 C_T_kindOf (c_T_kindOf l p.t j (by omega)) ⟨by decide, (zEL.c (Or.inl rfl) (zEL.c (Or.inl rfl) (zEL.c (Or.inl rfl) (zEL.c (Or.inl rfl) zEL.n))))⟩ (Or.inl ⟨_, _, _, _, rfl, rfl⟩) rfl rfl rfl (Nat.le_of_ble_eq_true rfl) ⟨rfl, rfl, Nat.le_of_ble_eq_true rfl, Nat.le_of_ble_eq_true rfl⟩ ⟨Nat.zero_le _, Nat.zero_le _⟩ ?_
          refine Z_ci (show _ = kk by rw [hkk]; first | (exfalso; omega) | rw [if_pos (by omega)] | rw [if_neg (by omega)]) ?_
          refine Z_istore 20 rfl (Nat.le_of_ble_eq_true rfl) (lv' := [(4, .int _), (0, .ref _), (1, .int _), (2, .int _), (3, .int _)]) rfl ?_
          refine Z_iload_n 21 rfl rfl rfl ?_
          refine Z_iconst 22 rfl ?_
          refine Z_icmp_ne 23 rfl (tgt := 51) rfl (by omega) (by omega) (fun c44 => ?_) (fun c44 => ?_)
          · refine Z_aload_n 26 rfl rfl rfl ?_
            refine Z_get 27 rfl f_C_14 rfl rfl ?_
            refine Z_iload_n 28 rfl rfl rfl ?_
            refine Z_callVip (M' := M_T_longOf) 29 [1, 2, 3, 4] rfl l_C_125 C_T_longOf (c_T_longOf l p.t j (by omega)) ⟨by decide, (zEL.c (Or.inl rfl) (zEL.c (Or.inl rfl) (zEL.c (Or.inl rfl) (zEL.c (Or.inl rfl) zEL.n))))⟩ (Or.inl ⟨_, _, _, _, rfl, rfl⟩) rfl rfl rfl (Nat.le_of_ble_eq_true rfl) ⟨rfl, rfl, Nat.le_of_ble_eq_true rfl, Nat.le_of_ble_eq_true rfl⟩ ⟨Nat.zero_le _, Nat.zero_le _⟩ ?_
            refine Z_ci (show _ = ll by rw [hll]; first | (exfalso; omega) | rw [if_pos (by omega)] | rw [if_neg (by omega)]) ?_
            refine Z_istore 30 rfl (Nat.le_of_ble_eq_true rfl) (lv' := [(5, .int _), (4, .int _), (0, .ref _), (1, .int _), (2, .int _), (3, .int _)]) rfl ?_
            refine Z_iload_n 31 rfl rfl rfl ?_
            refine Z_iconst 32 rfl ?_
            refine Z_icmp_ne 33 rfl (tgt := 70) rfl (by omega) (by omega) (fun c63 => ?_) (fun c63 => ?_)
            · refine Z_aload_n 36 rfl rfl rfl ?_
              refine Z_get 37 rfl f_C_14 rfl rfl ?_
              refine Z_iload_n 38 rfl rfl rfl ?_
              refine Z_callVip (M' := M_T_riseOf) 39 [1, 2, 3, 4] rfl l_C_128 C_T_riseOf (c_T_riseOf l p.t j (by omega)) ⟨by decide, (zEL.c (Or.inl rfl) (zEL.c (Or.inl rfl) (zEL.c (Or.inl rfl) (zEL.c (Or.inl rfl) zEL.n))))⟩ (Or.inl ⟨_, _, _, _, rfl, rfl⟩) rfl rfl rfl (Nat.le_of_ble_eq_true rfl) ⟨rfl, rfl, Nat.le_of_ble_eq_true rfl, Nat.le_of_ble_eq_true rfl⟩ ⟨Nat.zero_le _, Nat.zero_le _⟩ ?_
              refine Z_ci (show _ = rr by rw [hrr]; first | (exfalso; omega) | rw [if_pos (by omega)] | rw [if_neg (by omega)]) ?_
              refine Z_istore 40 rfl (Nat.le_of_ble_eq_true rfl) (lv' := [(6, .int _), (5, .int _), (4, .int _), (0, .ref _), (1, .int _), (2, .int _), (3, .int _)]) rfl ?_
              refine Z_iload 41 rfl rfl ?_
              refine Z_iload 42 rfl rfl ?_
              refine Z_iload 43 rfl rfl ?_
              refine Z_callSbp (M' := M_C_mayBe) 44 [] rfl l_C_95 C_C_mayBe (c_C_mayBe l kk ll rr ik il ir) ⟨List.nodup_nil, zEL.n⟩ rfl rfl rfl (Nat.le_of_ble_eq_true rfl) ⟨rfl, rfl, Nat.le_of_ble_eq_true rfl, Nat.le_of_ble_eq_true rfl⟩ ⟨Nat.zero_le _, Nat.zero_le _⟩ ?_
              refine Z_ifb_ne 45 rfl (tgt := 96) rfl (fun c89 => ?_) (fun c89 => ?_)
              · have hm : 1 ≤ ll ∧ ll ≤ 360 := by have := c89; unfold mb at this; omega
                refine Z_aload_n 48 rfl rfl rfl ?_
                refine Z_get 49 rfl f_C_14 rfl rfl ?_
                refine Z_callVip (M' := M_T_total) 50 [1, 2, 3, 4] rfl l_C_103 C_T_total (c_T_total l p.t h.1.1) ⟨by decide, (zEL.c (Or.inl rfl) (zEL.c (Or.inl rfl) (zEL.c (Or.inl rfl) (zEL.c (Or.inl rfl) zEL.n))))⟩ (Or.inl ⟨_, _, _, _, rfl, rfl⟩) rfl rfl rfl (Nat.le_of_ble_eq_true rfl) ⟨rfl, rfl, Nat.le_of_ble_eq_true rfl, Nat.le_of_ble_eq_true rfl⟩ ⟨Nat.zero_le _, Nat.zero_le _⟩ ?_
                refine Z_aload_n 51 rfl rfl rfl ?_
                refine Z_get 52 rfl f_C_14 rfl rfl ?_
                refine Z_iload_n 53 rfl rfl rfl ?_
                refine Z_callVip (M' := M_T_longOf) 54 [1, 2, 3, 4] rfl l_C_125 C_T_longOf (c_T_longOf l p.t j (by omega)) ⟨by decide, (zEL.c (Or.inl rfl) (zEL.c (Or.inl rfl) (zEL.c (Or.inl rfl) (zEL.c (Or.inl rfl) zEL.n))))⟩ (Or.inl ⟨_, _, _, _, rfl, rfl⟩) rfl rfl rfl (Nat.le_of_ble_eq_true rfl) ⟨rfl, rfl, Nat.le_of_ble_eq_true rfl, Nat.le_of_ble_eq_true rfl⟩ ⟨Nat.zero_le _, Nat.zero_le _⟩ ?_
                refine Z_isub 55 rfl ?_
                refine Z_iload 56 rfl rfl ?_
                refine Z_iadd 57 rfl ?_
                refine Z_sipush 58 rfl rfl ?_
                refine Z_icmp_le 59 rfl (tgt := 125) rfl (by omega) (by omega) (fun c118 => ?_) (fun c118 => ?_)
                · refine Z_aload_n 62 rfl rfl rfl ?_
                  refine Z_get 63 rfl f_C_14 rfl rfl ?_
                  refine Z_iload_n 64 rfl rfl rfl ?_
                  refine Z_iload_n 65 rfl rfl rfl ?_
                  refine Z_callVip (M' := M_T_partOf) 66 [1, 2, 3, 4] rfl l_C_131 C_T_partOf (c_T_partOf l p.t j what (by omega) hw) ⟨by decide, (zEL.c (Or.inl rfl) (zEL.c (Or.inl rfl) (zEL.c (Or.inl rfl) (zEL.c (Or.inl rfl) zEL.n))))⟩ (Or.inl ⟨_, _, _, _, rfl, rfl⟩) rfl rfl rfl (Nat.le_of_ble_eq_true rfl) ⟨rfl, rfl, Nat.le_of_ble_eq_true rfl, Nat.le_of_ble_eq_true rfl⟩ ⟨Nat.zero_le _, Nat.zero_le _⟩ ?_
                  refine Z_istore 67 rfl (Nat.le_of_ble_eq_true rfl) (lv' := [(7, .int _), (6, .int _), (5, .int _), (4, .int _), (0, .ref _), (1, .int _), (2, .int _), (3, .int _)]) rfl ?_
                  refine Z_aload_n 68 rfl rfl rfl ?_
                  refine Z_get 69 rfl f_C_14 rfl rfl ?_
                  refine Z_iload_n 70 rfl rfl rfl ?_
                  refine Z_iload 71 rfl rfl ?_
                  refine Z_iload 72 rfl rfl ?_
                  refine Z_iload 73 rfl rfl ?_
                  refine Z_callVv (M' := M_T_write) 74 [1, 2, 3, 4] rfl l_C_135 C_T_write (c_T_write l p.t j kk ll rr (by omega)) ⟨by decide, (zEL.c (Or.inl rfl) (zEL.c (Or.inl rfl) (zEL.c (Or.inl rfl) (zEL.c (Or.inl rfl) zEL.n))))⟩ (Or.inl ⟨_, _, _, _, rfl, rfl⟩) rfl rfl rfl (Nat.le_of_ble_eq_true rfl) ⟨rfl, rfl, Nat.le_of_ble_eq_true rfl, Nat.le_of_ble_eq_true rfl⟩ ⟨Nat.zero_le _, Nat.zero_le _⟩ (fun out hq => ?_)
                  obtain rfl := hq
                  refine Z_mem (show _ = eC (tW p.t j kk ll rr, p.2) rj s w g q q2 sm co from rfl) ?_
                  refine Z_iload 75 rfl rfl ?_
                  refine Z_iret 76 rfl rfl ⟨Nat.le_refl _, Nat.le_refl _⟩ ?_
                  first | (exfalso; omega) | exact ⟨by unfold putF; rw [← hkk, ← hll, ← hrr]; unfold putG; repeat (first | rw [cif_t (by first | assumption | omega)] | rw [cif_f (by first | assumption | omega)]), by unfold putF; rw [← hkk, ← hll, ← hrr]; unfold putG; (repeat (first | rw [cif_t (by first | assumption | omega)] | rw [cif_f (by first | assumption | omega)])) <;> rfl⟩
                · refine Z_sipush 60 rfl rfl ?_
                  refine Z_iret 61 rfl rfl ⟨Nat.le_refl _, Nat.le_refl _⟩ ?_
                  first | (exfalso; omega) | exact ⟨by unfold putF; rw [← hkk, ← hll, ← hrr]; unfold putG; repeat (first | rw [cif_t (by first | assumption | omega)] | rw [cif_f (by first | assumption | omega)]), by unfold putF; rw [← hkk, ← hll, ← hrr]; unfold putG; (repeat (first | rw [cif_t (by first | assumption | omega)] | rw [cif_f (by first | assumption | omega)])) <;> rfl⟩
              · refine Z_sipush 46 rfl rfl ?_
                refine Z_iret 47 rfl rfl ⟨Nat.le_refl _, Nat.le_refl _⟩ ?_
                first | (exfalso; omega) | exact ⟨by unfold putF; rw [← hkk, ← hll, ← hrr]; unfold putG; repeat (first | rw [cif_t (by first | assumption | omega)] | rw [cif_f (by first | assumption | omega)]), by unfold putF; rw [← hkk, ← hll, ← hrr]; unfold putG; (repeat (first | rw [cif_t (by first | assumption | omega)] | rw [cif_f (by first | assumption | omega)])) <;> rfl⟩
            · refine Z_iload_n 34 rfl rfl rfl ?_
              refine Z_goto 35 rfl (tgt := 78) rfl ?_
              refine Z_ci (show _ = rr by rw [hrr]; first | (exfalso; omega) | rw [if_pos (by omega)] | rw [if_neg (by omega)]) ?_
              refine Z_istore 40 rfl (Nat.le_of_ble_eq_true rfl) (lv' := [(6, .int _), (5, .int _), (4, .int _), (0, .ref _), (1, .int _), (2, .int _), (3, .int _)]) rfl ?_
              refine Z_iload 41 rfl rfl ?_
              refine Z_iload 42 rfl rfl ?_
              refine Z_iload 43 rfl rfl ?_
              refine Z_callSbp (M' := M_C_mayBe) 44 [] rfl l_C_95 C_C_mayBe (c_C_mayBe l kk ll rr ik il ir) ⟨List.nodup_nil, zEL.n⟩ rfl rfl rfl (Nat.le_of_ble_eq_true rfl) ⟨rfl, rfl, Nat.le_of_ble_eq_true rfl, Nat.le_of_ble_eq_true rfl⟩ ⟨Nat.zero_le _, Nat.zero_le _⟩ ?_
              refine Z_ifb_ne 45 rfl (tgt := 96) rfl (fun c89 => ?_) (fun c89 => ?_)
              · have hm : 1 ≤ ll ∧ ll ≤ 360 := by have := c89; unfold mb at this; omega
                refine Z_aload_n 48 rfl rfl rfl ?_
                refine Z_get 49 rfl f_C_14 rfl rfl ?_
                refine Z_callVip (M' := M_T_total) 50 [1, 2, 3, 4] rfl l_C_103 C_T_total (c_T_total l p.t h.1.1) ⟨by decide, (zEL.c (Or.inl rfl) (zEL.c (Or.inl rfl) (zEL.c (Or.inl rfl) (zEL.c (Or.inl rfl) zEL.n))))⟩ (Or.inl ⟨_, _, _, _, rfl, rfl⟩) rfl rfl rfl (Nat.le_of_ble_eq_true rfl) ⟨rfl, rfl, Nat.le_of_ble_eq_true rfl, Nat.le_of_ble_eq_true rfl⟩ ⟨Nat.zero_le _, Nat.zero_le _⟩ ?_
                refine Z_aload_n 51 rfl rfl rfl ?_
                refine Z_get 52 rfl f_C_14 rfl rfl ?_
                refine Z_iload_n 53 rfl rfl rfl ?_
                refine Z_callVip (M' := M_T_longOf) 54 [1, 2, 3, 4] rfl l_C_125 C_T_longOf (c_T_longOf l p.t j (by omega)) ⟨by decide, (zEL.c (Or.inl rfl) (zEL.c (Or.inl rfl) (zEL.c (Or.inl rfl) (zEL.c (Or.inl rfl) zEL.n))))⟩ (Or.inl ⟨_, _, _, _, rfl, rfl⟩) rfl rfl rfl (Nat.le_of_ble_eq_true rfl) ⟨rfl, rfl, Nat.le_of_ble_eq_true rfl, Nat.le_of_ble_eq_true rfl⟩ ⟨Nat.zero_le _, Nat.zero_le _⟩ ?_
                refine Z_isub 55 rfl ?_
                refine Z_iload 56 rfl rfl ?_
                refine Z_iadd 57 rfl ?_
                refine Z_sipush 58 rfl rfl ?_
                refine Z_icmp_le 59 rfl (tgt := 125) rfl (by omega) (by omega) (fun c118 => ?_) (fun c118 => ?_)
                · refine Z_aload_n 62 rfl rfl rfl ?_
                  refine Z_get 63 rfl f_C_14 rfl rfl ?_
                  refine Z_iload_n 64 rfl rfl rfl ?_
                  refine Z_iload_n 65 rfl rfl rfl ?_
                  refine Z_callVip (M' := M_T_partOf) 66 [1, 2, 3, 4] rfl l_C_131 C_T_partOf (c_T_partOf l p.t j what (by omega) hw) ⟨by decide, (zEL.c (Or.inl rfl) (zEL.c (Or.inl rfl) (zEL.c (Or.inl rfl) (zEL.c (Or.inl rfl) zEL.n))))⟩ (Or.inl ⟨_, _, _, _, rfl, rfl⟩) rfl rfl rfl (Nat.le_of_ble_eq_true rfl) ⟨rfl, rfl, Nat.le_of_ble_eq_true rfl, Nat.le_of_ble_eq_true rfl⟩ ⟨Nat.zero_le _, Nat.zero_le _⟩ ?_
                  refine Z_istore 67 rfl (Nat.le_of_ble_eq_true rfl) (lv' := [(7, .int _), (6, .int _), (5, .int _), (4, .int _), (0, .ref _), (1, .int _), (2, .int _), (3, .int _)]) rfl ?_
                  refine Z_aload_n 68 rfl rfl rfl ?_
                  refine Z_get 69 rfl f_C_14 rfl rfl ?_
                  refine Z_iload_n 70 rfl rfl rfl ?_
                  refine Z_iload 71 rfl rfl ?_
                  refine Z_iload 72 rfl rfl ?_
                  refine Z_iload 73 rfl rfl ?_
                  refine Z_callVv (M' := M_T_write) 74 [1, 2, 3, 4] rfl l_C_135 C_T_write (c_T_write l p.t j kk ll rr (by omega)) ⟨by decide, (zEL.c (Or.inl rfl) (zEL.c (Or.inl rfl) (zEL.c (Or.inl rfl) (zEL.c (Or.inl rfl) zEL.n))))⟩ (Or.inl ⟨_, _, _, _, rfl, rfl⟩) rfl rfl rfl (Nat.le_of_ble_eq_true rfl) ⟨rfl, rfl, Nat.le_of_ble_eq_true rfl, Nat.le_of_ble_eq_true rfl⟩ ⟨Nat.zero_le _, Nat.zero_le _⟩ (fun out hq => ?_)
                  obtain rfl := hq
                  refine Z_mem (show _ = eC (tW p.t j kk ll rr, p.2) rj s w g q q2 sm co from rfl) ?_
                  refine Z_iload 75 rfl rfl ?_
                  refine Z_iret 76 rfl rfl ⟨Nat.le_refl _, Nat.le_refl _⟩ ?_
                  first | (exfalso; omega) | exact ⟨by unfold putF; rw [← hkk, ← hll, ← hrr]; unfold putG; repeat (first | rw [cif_t (by first | assumption | omega)] | rw [cif_f (by first | assumption | omega)]), by unfold putF; rw [← hkk, ← hll, ← hrr]; unfold putG; (repeat (first | rw [cif_t (by first | assumption | omega)] | rw [cif_f (by first | assumption | omega)])) <;> rfl⟩
                · refine Z_sipush 60 rfl rfl ?_
                  refine Z_iret 61 rfl rfl ⟨Nat.le_refl _, Nat.le_refl _⟩ ?_
                  first | (exfalso; omega) | exact ⟨by unfold putF; rw [← hkk, ← hll, ← hrr]; unfold putG; repeat (first | rw [cif_t (by first | assumption | omega)] | rw [cif_f (by first | assumption | omega)]), by unfold putF; rw [← hkk, ← hll, ← hrr]; unfold putG; (repeat (first | rw [cif_t (by first | assumption | omega)] | rw [cif_f (by first | assumption | omega)])) <;> rfl⟩
              · refine Z_sipush 46 rfl rfl ?_
                refine Z_iret 47 rfl rfl ⟨Nat.le_refl _, Nat.le_refl _⟩ ?_
                first | (exfalso; omega) | exact ⟨by unfold putF; rw [← hkk, ← hll, ← hrr]; unfold putG; repeat (first | rw [cif_t (by first | assumption | omega)] | rw [cif_f (by first | assumption | omega)]), by unfold putF; rw [← hkk, ← hll, ← hrr]; unfold putG; (repeat (first | rw [cif_t (by first | assumption | omega)] | rw [cif_f (by first | assumption | omega)])) <;> rfl⟩
          · refine Z_iload_n 24 rfl rfl rfl ?_
            refine Z_goto 25 rfl (tgt := 59) rfl ?_
            refine Z_ci (show _ = ll by rw [hll]; first | (exfalso; omega) | rw [if_pos (by omega)] | rw [if_neg (by omega)]) ?_
            refine Z_istore 30 rfl (Nat.le_of_ble_eq_true rfl) (lv' := [(5, .int _), (4, .int _), (0, .ref _), (1, .int _), (2, .int _), (3, .int _)]) rfl ?_
            refine Z_iload_n 31 rfl rfl rfl ?_
            refine Z_iconst 32 rfl ?_
            refine Z_icmp_ne 33 rfl (tgt := 70) rfl (by omega) (by omega) (fun c63 => ?_) (fun c63 => ?_)
            · refine Z_aload_n 36 rfl rfl rfl ?_
              refine Z_get 37 rfl f_C_14 rfl rfl ?_
              refine Z_iload_n 38 rfl rfl rfl ?_
              refine Z_callVip (M' := M_T_riseOf) 39 [1, 2, 3, 4] rfl l_C_128 C_T_riseOf (c_T_riseOf l p.t j (by omega)) ⟨by decide, (zEL.c (Or.inl rfl) (zEL.c (Or.inl rfl) (zEL.c (Or.inl rfl) (zEL.c (Or.inl rfl) zEL.n))))⟩ (Or.inl ⟨_, _, _, _, rfl, rfl⟩) rfl rfl rfl (Nat.le_of_ble_eq_true rfl) ⟨rfl, rfl, Nat.le_of_ble_eq_true rfl, Nat.le_of_ble_eq_true rfl⟩ ⟨Nat.zero_le _, Nat.zero_le _⟩ ?_
              refine Z_ci (show _ = rr by rw [hrr]; first | (exfalso; omega) | rw [if_pos (by omega)] | rw [if_neg (by omega)]) ?_
              refine Z_istore 40 rfl (Nat.le_of_ble_eq_true rfl) (lv' := [(6, .int _), (5, .int _), (4, .int _), (0, .ref _), (1, .int _), (2, .int _), (3, .int _)]) rfl ?_
              refine Z_iload 41 rfl rfl ?_
              refine Z_iload 42 rfl rfl ?_
              refine Z_iload 43 rfl rfl ?_
              refine Z_callSbp (M' := M_C_mayBe) 44 [] rfl l_C_95 C_C_mayBe (c_C_mayBe l kk ll rr ik il ir) ⟨List.nodup_nil, zEL.n⟩ rfl rfl rfl (Nat.le_of_ble_eq_true rfl) ⟨rfl, rfl, Nat.le_of_ble_eq_true rfl, Nat.le_of_ble_eq_true rfl⟩ ⟨Nat.zero_le _, Nat.zero_le _⟩ ?_
              refine Z_ifb_ne 45 rfl (tgt := 96) rfl (fun c89 => ?_) (fun c89 => ?_)
              · have hm : 1 ≤ ll ∧ ll ≤ 360 := by have := c89; unfold mb at this; omega
                refine Z_aload_n 48 rfl rfl rfl ?_
                refine Z_get 49 rfl f_C_14 rfl rfl ?_
                refine Z_callVip (M' := M_T_total) 50 [1, 2, 3, 4] rfl l_C_103 C_T_total (c_T_total l p.t h.1.1) ⟨by decide, (zEL.c (Or.inl rfl) (zEL.c (Or.inl rfl) (zEL.c (Or.inl rfl) (zEL.c (Or.inl rfl) zEL.n))))⟩ (Or.inl ⟨_, _, _, _, rfl, rfl⟩) rfl rfl rfl (Nat.le_of_ble_eq_true rfl) ⟨rfl, rfl, Nat.le_of_ble_eq_true rfl, Nat.le_of_ble_eq_true rfl⟩ ⟨Nat.zero_le _, Nat.zero_le _⟩ ?_
                refine Z_aload_n 51 rfl rfl rfl ?_
                refine Z_get 52 rfl f_C_14 rfl rfl ?_
                refine Z_iload_n 53 rfl rfl rfl ?_
                refine Z_callVip (M' := M_T_longOf) 54 [1, 2, 3, 4] rfl l_C_125 C_T_longOf (c_T_longOf l p.t j (by omega)) ⟨by decide, (zEL.c (Or.inl rfl) (zEL.c (Or.inl rfl) (zEL.c (Or.inl rfl) (zEL.c (Or.inl rfl) zEL.n))))⟩ (Or.inl ⟨_, _, _, _, rfl, rfl⟩) rfl rfl rfl (Nat.le_of_ble_eq_true rfl) ⟨rfl, rfl, Nat.le_of_ble_eq_true rfl, Nat.le_of_ble_eq_true rfl⟩ ⟨Nat.zero_le _, Nat.zero_le _⟩ ?_
                refine Z_isub 55 rfl ?_
                refine Z_iload 56 rfl rfl ?_
                refine Z_iadd 57 rfl ?_
                refine Z_sipush 58 rfl rfl ?_
                refine Z_icmp_le 59 rfl (tgt := 125) rfl (by omega) (by omega) (fun c118 => ?_) (fun c118 => ?_)
                · refine Z_aload_n 62 rfl rfl rfl ?_
                  refine Z_get 63 rfl f_C_14 rfl rfl ?_
                  refine Z_iload_n 64 rfl rfl rfl ?_
                  refine Z_iload_n 65 rfl rfl rfl ?_
                  refine Z_callVip (M' := M_T_partOf) 66 [1, 2, 3, 4] rfl l_C_131 C_T_partOf (c_T_partOf l p.t j what (by omega) hw) ⟨by decide, (zEL.c (Or.inl rfl) (zEL.c (Or.inl rfl) (zEL.c (Or.inl rfl) (zEL.c (Or.inl rfl) zEL.n))))⟩ (Or.inl ⟨_, _, _, _, rfl, rfl⟩) rfl rfl rfl (Nat.le_of_ble_eq_true rfl) ⟨rfl, rfl, Nat.le_of_ble_eq_true rfl, Nat.le_of_ble_eq_true rfl⟩ ⟨Nat.zero_le _, Nat.zero_le _⟩ ?_
                  refine Z_istore 67 rfl (Nat.le_of_ble_eq_true rfl) (lv' := [(7, .int _), (6, .int _), (5, .int _), (4, .int _), (0, .ref _), (1, .int _), (2, .int _), (3, .int _)]) rfl ?_
                  refine Z_aload_n 68 rfl rfl rfl ?_
                  refine Z_get 69 rfl f_C_14 rfl rfl ?_
                  refine Z_iload_n 70 rfl rfl rfl ?_
                  refine Z_iload 71 rfl rfl ?_
                  refine Z_iload 72 rfl rfl ?_
                  refine Z_iload 73 rfl rfl ?_
                  refine Z_callVv (M' := M_T_write) 74 [1, 2, 3, 4] rfl l_C_135 C_T_write (c_T_write l p.t j kk ll rr (by omega)) ⟨by decide, (zEL.c (Or.inl rfl) (zEL.c (Or.inl rfl) (zEL.c (Or.inl rfl) (zEL.c (Or.inl rfl) zEL.n))))⟩ (Or.inl ⟨_, _, _, _, rfl, rfl⟩) rfl rfl rfl (Nat.le_of_ble_eq_true rfl) ⟨rfl, rfl, Nat.le_of_ble_eq_true rfl, Nat.le_of_ble_eq_true rfl⟩ ⟨Nat.zero_le _, Nat.zero_le _⟩ (fun out hq => ?_)
                  obtain rfl := hq
                  refine Z_mem (show _ = eC (tW p.t j kk ll rr, p.2) rj s w g q q2 sm co from rfl) ?_
                  refine Z_iload 75 rfl rfl ?_
                  refine Z_iret 76 rfl rfl ⟨Nat.le_refl _, Nat.le_refl _⟩ ?_
                  first | (exfalso; omega) | exact ⟨by unfold putF; rw [← hkk, ← hll, ← hrr]; unfold putG; repeat (first | rw [cif_t (by first | assumption | omega)] | rw [cif_f (by first | assumption | omega)]), by unfold putF; rw [← hkk, ← hll, ← hrr]; unfold putG; (repeat (first | rw [cif_t (by first | assumption | omega)] | rw [cif_f (by first | assumption | omega)])) <;> rfl⟩
                · refine Z_sipush 60 rfl rfl ?_
                  refine Z_iret 61 rfl rfl ⟨Nat.le_refl _, Nat.le_refl _⟩ ?_
                  first | (exfalso; omega) | exact ⟨by unfold putF; rw [← hkk, ← hll, ← hrr]; unfold putG; repeat (first | rw [cif_t (by first | assumption | omega)] | rw [cif_f (by first | assumption | omega)]), by unfold putF; rw [← hkk, ← hll, ← hrr]; unfold putG; (repeat (first | rw [cif_t (by first | assumption | omega)] | rw [cif_f (by first | assumption | omega)])) <;> rfl⟩
              · refine Z_sipush 46 rfl rfl ?_
                refine Z_iret 47 rfl rfl ⟨Nat.le_refl _, Nat.le_refl _⟩ ?_
                first | (exfalso; omega) | exact ⟨by unfold putF; rw [← hkk, ← hll, ← hrr]; unfold putG; repeat (first | rw [cif_t (by first | assumption | omega)] | rw [cif_f (by first | assumption | omega)]), by unfold putF; rw [← hkk, ← hll, ← hrr]; unfold putG; (repeat (first | rw [cif_t (by first | assumption | omega)] | rw [cif_f (by first | assumption | omega)])) <;> rfl⟩
            · refine Z_iload_n 34 rfl rfl rfl ?_
              refine Z_goto 35 rfl (tgt := 78) rfl ?_
              refine Z_ci (show _ = rr by rw [hrr]; first | (exfalso; omega) | rw [if_pos (by omega)] | rw [if_neg (by omega)]) ?_
              refine Z_istore 40 rfl (Nat.le_of_ble_eq_true rfl) (lv' := [(6, .int _), (5, .int _), (4, .int _), (0, .ref _), (1, .int _), (2, .int _), (3, .int _)]) rfl ?_
              refine Z_iload 41 rfl rfl ?_
              refine Z_iload 42 rfl rfl ?_
              refine Z_iload 43 rfl rfl ?_
              refine Z_callSbp (M' := M_C_mayBe) 44 [] rfl l_C_95 C_C_mayBe (c_C_mayBe l kk ll rr ik il ir) ⟨List.nodup_nil, zEL.n⟩ rfl rfl rfl (Nat.le_of_ble_eq_true rfl) ⟨rfl, rfl, Nat.le_of_ble_eq_true rfl, Nat.le_of_ble_eq_true rfl⟩ ⟨Nat.zero_le _, Nat.zero_le _⟩ ?_
              refine Z_ifb_ne 45 rfl (tgt := 96) rfl (fun c89 => ?_) (fun c89 => ?_)
              · have hm : 1 ≤ ll ∧ ll ≤ 360 := by have := c89; unfold mb at this; omega
                refine Z_aload_n 48 rfl rfl rfl ?_
                refine Z_get 49 rfl f_C_14 rfl rfl ?_
                refine Z_callVip (M' := M_T_total) 50 [1, 2, 3, 4] rfl l_C_103 C_T_total (c_T_total l p.t h.1.1) ⟨by decide, (zEL.c (Or.inl rfl) (zEL.c (Or.inl rfl) (zEL.c (Or.inl rfl) (zEL.c (Or.inl rfl) zEL.n))))⟩ (Or.inl ⟨_, _, _, _, rfl, rfl⟩) rfl rfl rfl (Nat.le_of_ble_eq_true rfl) ⟨rfl, rfl, Nat.le_of_ble_eq_true rfl, Nat.le_of_ble_eq_true rfl⟩ ⟨Nat.zero_le _, Nat.zero_le _⟩ ?_
                refine Z_aload_n 51 rfl rfl rfl ?_
                refine Z_get 52 rfl f_C_14 rfl rfl ?_
                refine Z_iload_n 53 rfl rfl rfl ?_
                refine Z_callVip (M' := M_T_longOf) 54 [1, 2, 3, 4] rfl l_C_125 C_T_longOf (c_T_longOf l p.t j (by omega)) ⟨by decide, (zEL.c (Or.inl rfl) (zEL.c (Or.inl rfl) (zEL.c (Or.inl rfl) (zEL.c (Or.inl rfl) zEL.n))))⟩ (Or.inl ⟨_, _, _, _, rfl, rfl⟩) rfl rfl rfl (Nat.le_of_ble_eq_true rfl) ⟨rfl, rfl, Nat.le_of_ble_eq_true rfl, Nat.le_of_ble_eq_true rfl⟩ ⟨Nat.zero_le _, Nat.zero_le _⟩ ?_
                refine Z_isub 55 rfl ?_
                refine Z_iload 56 rfl rfl ?_
                refine Z_iadd 57 rfl ?_
                refine Z_sipush 58 rfl rfl ?_
                refine Z_icmp_le 59 rfl (tgt := 125) rfl (by omega) (by omega) (fun c118 => ?_) (fun c118 => ?_)
                · refine Z_aload_n 62 rfl rfl rfl ?_
                  refine Z_get 63 rfl f_C_14 rfl rfl ?_
                  refine Z_iload_n 64 rfl rfl rfl ?_
                  refine Z_iload_n 65 rfl rfl rfl ?_
                  refine Z_callVip (M' := M_T_partOf) 66 [1, 2, 3, 4] rfl l_C_131 C_T_partOf (c_T_partOf l p.t j what (by omega) hw) ⟨by decide, (zEL.c (Or.inl rfl) (zEL.c (Or.inl rfl) (zEL.c (Or.inl rfl) (zEL.c (Or.inl rfl) zEL.n))))⟩ (Or.inl ⟨_, _, _, _, rfl, rfl⟩) rfl rfl rfl (Nat.le_of_ble_eq_true rfl) ⟨rfl, rfl, Nat.le_of_ble_eq_true rfl, Nat.le_of_ble_eq_true rfl⟩ ⟨Nat.zero_le _, Nat.zero_le _⟩ ?_
                  refine Z_istore 67 rfl (Nat.le_of_ble_eq_true rfl) (lv' := [(7, .int _), (6, .int _), (5, .int _), (4, .int _), (0, .ref _), (1, .int _), (2, .int _), (3, .int _)]) rfl ?_
                  refine Z_aload_n 68 rfl rfl rfl ?_
                  refine Z_get 69 rfl f_C_14 rfl rfl ?_
                  refine Z_iload_n 70 rfl rfl rfl ?_
                  refine Z_iload 71 rfl rfl ?_
                  refine Z_iload 72 rfl rfl ?_
                  refine Z_iload 73 rfl rfl ?_
                  refine Z_callVv (M' := M_T_write) 74 [1, 2, 3, 4] rfl l_C_135 C_T_write (c_T_write l p.t j kk ll rr (by omega)) ⟨by decide, (zEL.c (Or.inl rfl) (zEL.c (Or.inl rfl) (zEL.c (Or.inl rfl) (zEL.c (Or.inl rfl) zEL.n))))⟩ (Or.inl ⟨_, _, _, _, rfl, rfl⟩) rfl rfl rfl (Nat.le_of_ble_eq_true rfl) ⟨rfl, rfl, Nat.le_of_ble_eq_true rfl, Nat.le_of_ble_eq_true rfl⟩ ⟨Nat.zero_le _, Nat.zero_le _⟩ (fun out hq => ?_)
                  obtain rfl := hq
                  refine Z_mem (show _ = eC (tW p.t j kk ll rr, p.2) rj s w g q q2 sm co from rfl) ?_
                  refine Z_iload 75 rfl rfl ?_
                  refine Z_iret 76 rfl rfl ⟨Nat.le_refl _, Nat.le_refl _⟩ ?_
                  first | (exfalso; omega) | exact ⟨by unfold putF; rw [← hkk, ← hll, ← hrr]; unfold putG; repeat (first | rw [cif_t (by first | assumption | omega)] | rw [cif_f (by first | assumption | omega)]), by unfold putF; rw [← hkk, ← hll, ← hrr]; unfold putG; (repeat (first | rw [cif_t (by first | assumption | omega)] | rw [cif_f (by first | assumption | omega)])) <;> rfl⟩
                · refine Z_sipush 60 rfl rfl ?_
                  refine Z_iret 61 rfl rfl ⟨Nat.le_refl _, Nat.le_refl _⟩ ?_
                  first | (exfalso; omega) | exact ⟨by unfold putF; rw [← hkk, ← hll, ← hrr]; unfold putG; repeat (first | rw [cif_t (by first | assumption | omega)] | rw [cif_f (by first | assumption | omega)]), by unfold putF; rw [← hkk, ← hll, ← hrr]; unfold putG; (repeat (first | rw [cif_t (by first | assumption | omega)] | rw [cif_f (by first | assumption | omega)])) <;> rfl⟩
              · refine Z_sipush 46 rfl rfl ?_
                refine Z_iret 47 rfl rfl ⟨Nat.le_refl _, Nat.le_refl _⟩ ?_
                first | (exfalso; omega) | exact ⟨by unfold putF; rw [← hkk, ← hll, ← hrr]; unfold putG; repeat (first | rw [cif_t (by first | assumption | omega)] | rw [cif_f (by first | assumption | omega)]), by unfold putF; rw [← hkk, ← hll, ← hrr]; unfold putG; (repeat (first | rw [cif_t (by first | assumption | omega)] | rw [cif_f (by first | assumption | omega)])) <;> rfl⟩
        · refine Z_iload_n 14 rfl rfl rfl ?_
          refine Z_goto 15 rfl (tgt := 40) rfl ?_
          refine Z_ci (show _ = kk by rw [hkk]; first | (exfalso; omega) | rw [if_pos (by omega)] | rw [if_neg (by omega)]) ?_
          refine Z_istore 20 rfl (Nat.le_of_ble_eq_true rfl) (lv' := [(4, .int _), (0, .ref _), (1, .int _), (2, .int _), (3, .int _)]) rfl ?_
          refine Z_iload_n 21 rfl rfl rfl ?_
          refine Z_iconst 22 rfl ?_
          refine Z_icmp_ne 23 rfl (tgt := 51) rfl (by omega) (by omega) (fun c44 => ?_) (fun c44 => ?_)
          · refine Z_aload_n 26 rfl rfl rfl ?_
            refine Z_get 27 rfl f_C_14 rfl rfl ?_
            refine Z_iload_n 28 rfl rfl rfl ?_
            refine Z_callVip (M' := M_T_longOf) 29 [1, 2, 3, 4] rfl l_C_125 C_T_longOf (c_T_longOf l p.t j (by omega)) ⟨by decide, (zEL.c (Or.inl rfl) (zEL.c (Or.inl rfl) (zEL.c (Or.inl rfl) (zEL.c (Or.inl rfl) zEL.n))))⟩ (Or.inl ⟨_, _, _, _, rfl, rfl⟩) rfl rfl rfl (Nat.le_of_ble_eq_true rfl) ⟨rfl, rfl, Nat.le_of_ble_eq_true rfl, Nat.le_of_ble_eq_true rfl⟩ ⟨Nat.zero_le _, Nat.zero_le _⟩ ?_
            refine Z_ci (show _ = ll by rw [hll]; first | (exfalso; omega) | rw [if_pos (by omega)] | rw [if_neg (by omega)]) ?_
            refine Z_istore 30 rfl (Nat.le_of_ble_eq_true rfl) (lv' := [(5, .int _), (4, .int _), (0, .ref _), (1, .int _), (2, .int _), (3, .int _)]) rfl ?_
            refine Z_iload_n 31 rfl rfl rfl ?_
            refine Z_iconst 32 rfl ?_
            refine Z_icmp_ne 33 rfl (tgt := 70) rfl (by omega) (by omega) (fun c63 => ?_) (fun c63 => ?_)
            · refine Z_aload_n 36 rfl rfl rfl ?_
              refine Z_get 37 rfl f_C_14 rfl rfl ?_
              refine Z_iload_n 38 rfl rfl rfl ?_
              refine Z_callVip (M' := M_T_riseOf) 39 [1, 2, 3, 4] rfl l_C_128 C_T_riseOf (c_T_riseOf l p.t j (by omega)) ⟨by decide, (zEL.c (Or.inl rfl) (zEL.c (Or.inl rfl) (zEL.c (Or.inl rfl) (zEL.c (Or.inl rfl) zEL.n))))⟩ (Or.inl ⟨_, _, _, _, rfl, rfl⟩) rfl rfl rfl (Nat.le_of_ble_eq_true rfl) ⟨rfl, rfl, Nat.le_of_ble_eq_true rfl, Nat.le_of_ble_eq_true rfl⟩ ⟨Nat.zero_le _, Nat.zero_le _⟩ ?_
              refine Z_ci (show _ = rr by rw [hrr]; first | (exfalso; omega) | rw [if_pos (by omega)] | rw [if_neg (by omega)]) ?_
              refine Z_istore 40 rfl (Nat.le_of_ble_eq_true rfl) (lv' := [(6, .int _), (5, .int _), (4, .int _), (0, .ref _), (1, .int _), (2, .int _), (3, .int _)]) rfl ?_
              refine Z_iload 41 rfl rfl ?_
              refine Z_iload 42 rfl rfl ?_
              refine Z_iload 43 rfl rfl ?_
              refine Z_callSbp (M' := M_C_mayBe) 44 [] rfl l_C_95 C_C_mayBe (c_C_mayBe l kk ll rr ik il ir) ⟨List.nodup_nil, zEL.n⟩ rfl rfl rfl (Nat.le_of_ble_eq_true rfl) ⟨rfl, rfl, Nat.le_of_ble_eq_true rfl, Nat.le_of_ble_eq_true rfl⟩ ⟨Nat.zero_le _, Nat.zero_le _⟩ ?_
              refine Z_ifb_ne 45 rfl (tgt := 96) rfl (fun c89 => ?_) (fun c89 => ?_)
              · have hm : 1 ≤ ll ∧ ll ≤ 360 := by have := c89; unfold mb at this; omega
                refine Z_aload_n 48 rfl rfl rfl ?_
                refine Z_get 49 rfl f_C_14 rfl rfl ?_
                refine Z_callVip (M' := M_T_total) 50 [1, 2, 3, 4] rfl l_C_103 C_T_total (c_T_total l p.t h.1.1) ⟨by decide, (zEL.c (Or.inl rfl) (zEL.c (Or.inl rfl) (zEL.c (Or.inl rfl) (zEL.c (Or.inl rfl) zEL.n))))⟩ (Or.inl ⟨_, _, _, _, rfl, rfl⟩) rfl rfl rfl (Nat.le_of_ble_eq_true rfl) ⟨rfl, rfl, Nat.le_of_ble_eq_true rfl, Nat.le_of_ble_eq_true rfl⟩ ⟨Nat.zero_le _, Nat.zero_le _⟩ ?_
                refine Z_aload_n 51 rfl rfl rfl ?_
                refine Z_get 52 rfl f_C_14 rfl rfl ?_
                refine Z_iload_n 53 rfl rfl rfl ?_
                refine Z_callVip (M' := M_T_longOf) 54 [1, 2, 3, 4] rfl l_C_125 C_T_longOf (c_T_longOf l p.t j (by omega)) ⟨by decide, (zEL.c (Or.inl rfl) (zEL.c (Or.inl rfl) (zEL.c (Or.inl rfl) (zEL.c (Or.inl rfl) zEL.n))))⟩ (Or.inl ⟨_, _, _, _, rfl, rfl⟩) rfl rfl rfl (Nat.le_of_ble_eq_true rfl) ⟨rfl, rfl, Nat.le_of_ble_eq_true rfl, Nat.le_of_ble_eq_true rfl⟩ ⟨Nat.zero_le _, Nat.zero_le _⟩ ?_
                refine Z_isub 55 rfl ?_
                refine Z_iload 56 rfl rfl ?_
                refine Z_iadd 57 rfl ?_
                refine Z_sipush 58 rfl rfl ?_
                refine Z_icmp_le 59 rfl (tgt := 125) rfl (by omega) (by omega) (fun c118 => ?_) (fun c118 => ?_)
                · refine Z_aload_n 62 rfl rfl rfl ?_
                  refine Z_get 63 rfl f_C_14 rfl rfl ?_
                  refine Z_iload_n 64 rfl rfl rfl ?_
                  refine Z_iload_n 65 rfl rfl rfl ?_
                  refine Z_callVip (M' := M_T_partOf) 66 [1, 2, 3, 4] rfl l_C_131 C_T_partOf (c_T_partOf l p.t j what (by omega) hw) ⟨by decide, (zEL.c (Or.inl rfl) (zEL.c (Or.inl rfl) (zEL.c (Or.inl rfl) (zEL.c (Or.inl rfl) zEL.n))))⟩ (Or.inl ⟨_, _, _, _, rfl, rfl⟩) rfl rfl rfl (Nat.le_of_ble_eq_true rfl) ⟨rfl, rfl, Nat.le_of_ble_eq_true rfl, Nat.le_of_ble_eq_true rfl⟩ ⟨Nat.zero_le _, Nat.zero_le _⟩ ?_
                  refine Z_istore 67 rfl (Nat.le_of_ble_eq_true rfl) (lv' := [(7, .int _), (6, .int _), (5, .int _), (4, .int _), (0, .ref _), (1, .int _), (2, .int _), (3, .int _)]) rfl ?_
                  refine Z_aload_n 68 rfl rfl rfl ?_
                  refine Z_get 69 rfl f_C_14 rfl rfl ?_
                  refine Z_iload_n 70 rfl rfl rfl ?_
                  refine Z_iload 71 rfl rfl ?_
                  refine Z_iload 72 rfl rfl ?_
                  refine Z_iload 73 rfl rfl ?_
                  refine Z_callVv (M' := M_T_write) 74 [1, 2, 3, 4] rfl l_C_135 C_T_write (c_T_write l p.t j kk ll rr (by omega)) ⟨by decide, (zEL.c (Or.inl rfl) (zEL.c (Or.inl rfl) (zEL.c (Or.inl rfl) (zEL.c (Or.inl rfl) zEL.n))))⟩ (Or.inl ⟨_, _, _, _, rfl, rfl⟩) rfl rfl rfl (Nat.le_of_ble_eq_true rfl) ⟨rfl, rfl, Nat.le_of_ble_eq_true rfl, Nat.le_of_ble_eq_true rfl⟩ ⟨Nat.zero_le _, Nat.zero_le _⟩ (fun out hq => ?_)
                  obtain rfl := hq
                  refine Z_mem (show _ = eC (tW p.t j kk ll rr, p.2) rj s w g q q2 sm co from rfl) ?_
                  refine Z_iload 75 rfl rfl ?_
                  refine Z_iret 76 rfl rfl ⟨Nat.le_refl _, Nat.le_refl _⟩ ?_
                  first | (exfalso; omega) | exact ⟨by unfold putF; rw [← hkk, ← hll, ← hrr]; unfold putG; repeat (first | rw [cif_t (by first | assumption | omega)] | rw [cif_f (by first | assumption | omega)]), by unfold putF; rw [← hkk, ← hll, ← hrr]; unfold putG; (repeat (first | rw [cif_t (by first | assumption | omega)] | rw [cif_f (by first | assumption | omega)])) <;> rfl⟩
                · refine Z_sipush 60 rfl rfl ?_
                  refine Z_iret 61 rfl rfl ⟨Nat.le_refl _, Nat.le_refl _⟩ ?_
                  first | (exfalso; omega) | exact ⟨by unfold putF; rw [← hkk, ← hll, ← hrr]; unfold putG; repeat (first | rw [cif_t (by first | assumption | omega)] | rw [cif_f (by first | assumption | omega)]), by unfold putF; rw [← hkk, ← hll, ← hrr]; unfold putG; (repeat (first | rw [cif_t (by first | assumption | omega)] | rw [cif_f (by first | assumption | omega)])) <;> rfl⟩
              · refine Z_sipush 46 rfl rfl ?_
                refine Z_iret 47 rfl rfl ⟨Nat.le_refl _, Nat.le_refl _⟩ ?_
                first | (exfalso; omega) | exact ⟨by unfold putF; rw [← hkk, ← hll, ← hrr]; unfold putG; repeat (first | rw [cif_t (by first | assumption | omega)] | rw [cif_f (by first | assumption | omega)]), by unfold putF; rw [← hkk, ← hll, ← hrr]; unfold putG; (repeat (first | rw [cif_t (by first | assumption | omega)] | rw [cif_f (by first | assumption | omega)])) <;> rfl⟩
            · refine Z_iload_n 34 rfl rfl rfl ?_
              refine Z_goto 35 rfl (tgt := 78) rfl ?_
              refine Z_ci (show _ = rr by rw [hrr]; first | (exfalso; omega) | rw [if_pos (by omega)] | rw [if_neg (by omega)]) ?_
              refine Z_istore 40 rfl (Nat.le_of_ble_eq_true rfl) (lv' := [(6, .int _), (5, .int _), (4, .int _), (0, .ref _), (1, .int _), (2, .int _), (3, .int _)]) rfl ?_
              refine Z_iload 41 rfl rfl ?_
              refine Z_iload 42 rfl rfl ?_
              refine Z_iload 43 rfl rfl ?_
              refine Z_callSbp (M' := M_C_mayBe) 44 [] rfl l_C_95 C_C_mayBe (c_C_mayBe l kk ll rr ik il ir) ⟨List.nodup_nil, zEL.n⟩ rfl rfl rfl (Nat.le_of_ble_eq_true rfl) ⟨rfl, rfl, Nat.le_of_ble_eq_true rfl, Nat.le_of_ble_eq_true rfl⟩ ⟨Nat.zero_le _, Nat.zero_le _⟩ ?_
              refine Z_ifb_ne 45 rfl (tgt := 96) rfl (fun c89 => ?_) (fun c89 => ?_)
              · have hm : 1 ≤ ll ∧ ll ≤ 360 := by have := c89; unfold mb at this; omega
                refine Z_aload_n 48 rfl rfl rfl ?_
                refine Z_get 49 rfl f_C_14 rfl rfl ?_
                refine Z_callVip (M' := M_T_total) 50 [1, 2, 3, 4] rfl l_C_103 C_T_total (c_T_total l p.t h.1.1) ⟨by decide, (zEL.c (Or.inl rfl) (zEL.c (Or.inl rfl) (zEL.c (Or.inl rfl) (zEL.c (Or.inl rfl) zEL.n))))⟩ (Or.inl ⟨_, _, _, _, rfl, rfl⟩) rfl rfl rfl (Nat.le_of_ble_eq_true rfl) ⟨rfl, rfl, Nat.le_of_ble_eq_true rfl, Nat.le_of_ble_eq_true rfl⟩ ⟨Nat.zero_le _, Nat.zero_le _⟩ ?_
                refine Z_aload_n 51 rfl rfl rfl ?_
                refine Z_get 52 rfl f_C_14 rfl rfl ?_
                refine Z_iload_n 53 rfl rfl rfl ?_
                refine Z_callVip (M' := M_T_longOf) 54 [1, 2, 3, 4] rfl l_C_125 C_T_longOf (c_T_longOf l p.t j (by omega)) ⟨by decide, (zEL.c (Or.inl rfl) (zEL.c (Or.inl rfl) (zEL.c (Or.inl rfl) (zEL.c (Or.inl rfl) zEL.n))))⟩ (Or.inl ⟨_, _, _, _, rfl, rfl⟩) rfl rfl rfl (Nat.le_of_ble_eq_true rfl) ⟨rfl, rfl, Nat.le_of_ble_eq_true rfl, Nat.le_of_ble_eq_true rfl⟩ ⟨Nat.zero_le _, Nat.zero_le _⟩ ?_
                refine Z_isub 55 rfl ?_
                refine Z_iload 56 rfl rfl ?_
                refine Z_iadd 57 rfl ?_
                refine Z_sipush 58 rfl rfl ?_
                refine Z_icmp_le 59 rfl (tgt := 125) rfl (by omega) (by omega) (fun c118 => ?_) (fun c118 => ?_)
                · refine Z_aload_n 62 rfl rfl rfl ?_
                  refine Z_get 63 rfl f_C_14 rfl rfl ?_
                  refine Z_iload_n 64 rfl rfl rfl ?_
                  refine Z_iload_n 65 rfl rfl rfl ?_
                  refine Z_callVip (M' := M_T_partOf) 66 [1, 2, 3, 4] rfl l_C_131 C_T_partOf (c_T_partOf l p.t j what (by omega) hw) ⟨by decide, (zEL.c (Or.inl rfl) (zEL.c (Or.inl rfl) (zEL.c (Or.inl rfl) (zEL.c (Or.inl rfl) zEL.n))))⟩ (Or.inl ⟨_, _, _, _, rfl, rfl⟩) rfl rfl rfl (Nat.le_of_ble_eq_true rfl) ⟨rfl, rfl, Nat.le_of_ble_eq_true rfl, Nat.le_of_ble_eq_true rfl⟩ ⟨Nat.zero_le _, Nat.zero_le _⟩ ?_
                  refine Z_istore 67 rfl (Nat.le_of_ble_eq_true rfl) (lv' := [(7, .int _), (6, .int _), (5, .int _), (4, .int _), (0, .ref _), (1, .int _), (2, .int _), (3, .int _)]) rfl ?_
                  refine Z_aload_n 68 rfl rfl rfl ?_
                  refine Z_get 69 rfl f_C_14 rfl rfl ?_
                  refine Z_iload_n 70 rfl rfl rfl ?_
                  refine Z_iload 71 rfl rfl ?_
                  refine Z_iload 72 rfl rfl ?_
                  refine Z_iload 73 rfl rfl ?_
                  refine Z_callVv (M' := M_T_write) 74 [1, 2, 3, 4] rfl l_C_135 C_T_write (c_T_write l p.t j kk ll rr (by omega)) ⟨by decide, (zEL.c (Or.inl rfl) (zEL.c (Or.inl rfl) (zEL.c (Or.inl rfl) (zEL.c (Or.inl rfl) zEL.n))))⟩ (Or.inl ⟨_, _, _, _, rfl, rfl⟩) rfl rfl rfl (Nat.le_of_ble_eq_true rfl) ⟨rfl, rfl, Nat.le_of_ble_eq_true rfl, Nat.le_of_ble_eq_true rfl⟩ ⟨Nat.zero_le _, Nat.zero_le _⟩ (fun out hq => ?_)
                  obtain rfl := hq
                  refine Z_mem (show _ = eC (tW p.t j kk ll rr, p.2) rj s w g q q2 sm co from rfl) ?_
                  refine Z_iload 75 rfl rfl ?_
                  refine Z_iret 76 rfl rfl ⟨Nat.le_refl _, Nat.le_refl _⟩ ?_
                  first | (exfalso; omega) | exact ⟨by unfold putF; rw [← hkk, ← hll, ← hrr]; unfold putG; repeat (first | rw [cif_t (by first | assumption | omega)] | rw [cif_f (by first | assumption | omega)]), by unfold putF; rw [← hkk, ← hll, ← hrr]; unfold putG; (repeat (first | rw [cif_t (by first | assumption | omega)] | rw [cif_f (by first | assumption | omega)])) <;> rfl⟩
                · refine Z_sipush 60 rfl rfl ?_
                  refine Z_iret 61 rfl rfl ⟨Nat.le_refl _, Nat.le_refl _⟩ ?_
                  first | (exfalso; omega) | exact ⟨by unfold putF; rw [← hkk, ← hll, ← hrr]; unfold putG; repeat (first | rw [cif_t (by first | assumption | omega)] | rw [cif_f (by first | assumption | omega)]), by unfold putF; rw [← hkk, ← hll, ← hrr]; unfold putG; (repeat (first | rw [cif_t (by first | assumption | omega)] | rw [cif_f (by first | assumption | omega)])) <;> rfl⟩
              · refine Z_sipush 46 rfl rfl ?_
                refine Z_iret 47 rfl rfl ⟨Nat.le_refl _, Nat.le_refl _⟩ ?_
                first | (exfalso; omega) | exact ⟨by unfold putF; rw [← hkk, ← hll, ← hrr]; unfold putG; repeat (first | rw [cif_t (by first | assumption | omega)] | rw [cif_f (by first | assumption | omega)]), by unfold putF; rw [← hkk, ← hll, ← hrr]; unfold putG; (repeat (first | rw [cif_t (by first | assumption | omega)] | rw [cif_f (by first | assumption | omega)])) <;> rfl⟩
          · refine Z_iload_n 24 rfl rfl rfl ?_
            refine Z_goto 25 rfl (tgt := 59) rfl ?_
            refine Z_ci (show _ = ll by rw [hll]; first | (exfalso; omega) | rw [if_pos (by omega)] | rw [if_neg (by omega)]) ?_
            refine Z_istore 30 rfl (Nat.le_of_ble_eq_true rfl) (lv' := [(5, .int _), (4, .int _), (0, .ref _), (1, .int _), (2, .int _), (3, .int _)]) rfl ?_
            refine Z_iload_n 31 rfl rfl rfl ?_
            refine Z_iconst 32 rfl ?_
            refine Z_icmp_ne 33 rfl (tgt := 70) rfl (by omega) (by omega) (fun c63 => ?_) (fun c63 => ?_)
            · refine Z_aload_n 36 rfl rfl rfl ?_
              refine Z_get 37 rfl f_C_14 rfl rfl ?_
              refine Z_iload_n 38 rfl rfl rfl ?_
              refine Z_callVip (M' := M_T_riseOf) 39 [1, 2, 3, 4] rfl l_C_128 C_T_riseOf (c_T_riseOf l p.t j (by omega)) ⟨by decide, (zEL.c (Or.inl rfl) (zEL.c (Or.inl rfl) (zEL.c (Or.inl rfl) (zEL.c (Or.inl rfl) zEL.n))))⟩ (Or.inl ⟨_, _, _, _, rfl, rfl⟩) rfl rfl rfl (Nat.le_of_ble_eq_true rfl) ⟨rfl, rfl, Nat.le_of_ble_eq_true rfl, Nat.le_of_ble_eq_true rfl⟩ ⟨Nat.zero_le _, Nat.zero_le _⟩ ?_
              refine Z_ci (show _ = rr by rw [hrr]; first | (exfalso; omega) | rw [if_pos (by omega)] | rw [if_neg (by omega)]) ?_
              refine Z_istore 40 rfl (Nat.le_of_ble_eq_true rfl) (lv' := [(6, .int _), (5, .int _), (4, .int _), (0, .ref _), (1, .int _), (2, .int _), (3, .int _)]) rfl ?_
              refine Z_iload 41 rfl rfl ?_
              refine Z_iload 42 rfl rfl ?_
              refine Z_iload 43 rfl rfl ?_
              refine Z_callSbp (M' := M_C_mayBe) 44 [] rfl l_C_95 C_C_mayBe (c_C_mayBe l kk ll rr ik il ir) ⟨List.nodup_nil, zEL.n⟩ rfl rfl rfl (Nat.le_of_ble_eq_true rfl) ⟨rfl, rfl, Nat.le_of_ble_eq_true rfl, Nat.le_of_ble_eq_true rfl⟩ ⟨Nat.zero_le _, Nat.zero_le _⟩ ?_
              refine Z_ifb_ne 45 rfl (tgt := 96) rfl (fun c89 => ?_) (fun c89 => ?_)
              · have hm : 1 ≤ ll ∧ ll ≤ 360 := by have := c89; unfold mb at this; omega
                refine Z_aload_n 48 rfl rfl rfl ?_
                refine Z_get 49 rfl f_C_14 rfl rfl ?_
                refine Z_callVip (M' := M_T_total) 50 [1, 2, 3, 4] rfl l_C_103 C_T_total (c_T_total l p.t h.1.1) ⟨by decide, (zEL.c (Or.inl rfl) (zEL.c (Or.inl rfl) (zEL.c (Or.inl rfl) (zEL.c (Or.inl rfl) zEL.n))))⟩ (Or.inl ⟨_, _, _, _, rfl, rfl⟩) rfl rfl rfl (Nat.le_of_ble_eq_true rfl) ⟨rfl, rfl, Nat.le_of_ble_eq_true rfl, Nat.le_of_ble_eq_true rfl⟩ ⟨Nat.zero_le _, Nat.zero_le _⟩ ?_
                refine Z_aload_n 51 rfl rfl rfl ?_
                refine Z_get 52 rfl f_C_14 rfl rfl ?_
                refine Z_iload_n 53 rfl rfl rfl ?_
                refine Z_callVip (M' := M_T_longOf) 54 [1, 2, 3, 4] rfl l_C_125 C_T_longOf (c_T_longOf l p.t j (by omega)) ⟨by decide, (zEL.c (Or.inl rfl) (zEL.c (Or.inl rfl) (zEL.c (Or.inl rfl) (zEL.c (Or.inl rfl) zEL.n))))⟩ (Or.inl ⟨_, _, _, _, rfl, rfl⟩) rfl rfl rfl (Nat.le_of_ble_eq_true rfl) ⟨rfl, rfl, Nat.le_of_ble_eq_true rfl, Nat.le_of_ble_eq_true rfl⟩ ⟨Nat.zero_le _, Nat.zero_le _⟩ ?_
                refine Z_isub 55 rfl ?_
                refine Z_iload 56 rfl rfl ?_
                refine Z_iadd 57 rfl ?_
                refine Z_sipush 58 rfl rfl ?_
                refine Z_icmp_le 59 rfl (tgt := 125) rfl (by omega) (by omega) (fun c118 => ?_) (fun c118 => ?_)
                · refine Z_aload_n 62 rfl rfl rfl ?_
                  refine Z_get 63 rfl f_C_14 rfl rfl ?_
                  refine Z_iload_n 64 rfl rfl rfl ?_
                  refine Z_iload_n 65 rfl rfl rfl ?_
                  refine Z_callVip (M' := M_T_partOf) 66 [1, 2, 3, 4] rfl l_C_131 C_T_partOf (c_T_partOf l p.t j what (by omega) hw) ⟨by decide, (zEL.c (Or.inl rfl) (zEL.c (Or.inl rfl) (zEL.c (Or.inl rfl) (zEL.c (Or.inl rfl) zEL.n))))⟩ (Or.inl ⟨_, _, _, _, rfl, rfl⟩) rfl rfl rfl (Nat.le_of_ble_eq_true rfl) ⟨rfl, rfl, Nat.le_of_ble_eq_true rfl, Nat.le_of_ble_eq_true rfl⟩ ⟨Nat.zero_le _, Nat.zero_le _⟩ ?_
                  refine Z_istore 67 rfl (Nat.le_of_ble_eq_true rfl) (lv' := [(7, .int _), (6, .int _), (5, .int _), (4, .int _), (0, .ref _), (1, .int _), (2, .int _), (3, .int _)]) rfl ?_
                  refine Z_aload_n 68 rfl rfl rfl ?_
                  refine Z_get 69 rfl f_C_14 rfl rfl ?_
                  refine Z_iload_n 70 rfl rfl rfl ?_
                  refine Z_iload 71 rfl rfl ?_
                  refine Z_iload 72 rfl rfl ?_
                  refine Z_iload 73 rfl rfl ?_
                  refine Z_callVv (M' := M_T_write) 74 [1, 2, 3, 4] rfl l_C_135 C_T_write (c_T_write l p.t j kk ll rr (by omega)) ⟨by decide, (zEL.c (Or.inl rfl) (zEL.c (Or.inl rfl) (zEL.c (Or.inl rfl) (zEL.c (Or.inl rfl) zEL.n))))⟩ (Or.inl ⟨_, _, _, _, rfl, rfl⟩) rfl rfl rfl (Nat.le_of_ble_eq_true rfl) ⟨rfl, rfl, Nat.le_of_ble_eq_true rfl, Nat.le_of_ble_eq_true rfl⟩ ⟨Nat.zero_le _, Nat.zero_le _⟩ (fun out hq => ?_)
                  obtain rfl := hq
                  refine Z_mem (show _ = eC (tW p.t j kk ll rr, p.2) rj s w g q q2 sm co from rfl) ?_
                  refine Z_iload 75 rfl rfl ?_
                  refine Z_iret 76 rfl rfl ⟨Nat.le_refl _, Nat.le_refl _⟩ ?_
                  first | (exfalso; omega) | exact ⟨by unfold putF; rw [← hkk, ← hll, ← hrr]; unfold putG; repeat (first | rw [cif_t (by first | assumption | omega)] | rw [cif_f (by first | assumption | omega)]), by unfold putF; rw [← hkk, ← hll, ← hrr]; unfold putG; (repeat (first | rw [cif_t (by first | assumption | omega)] | rw [cif_f (by first | assumption | omega)])) <;> rfl⟩
                · refine Z_sipush 60 rfl rfl ?_
                  refine Z_iret 61 rfl rfl ⟨Nat.le_refl _, Nat.le_refl _⟩ ?_
                  first | (exfalso; omega) | exact ⟨by unfold putF; rw [← hkk, ← hll, ← hrr]; unfold putG; repeat (first | rw [cif_t (by first | assumption | omega)] | rw [cif_f (by first | assumption | omega)]), by unfold putF; rw [← hkk, ← hll, ← hrr]; unfold putG; (repeat (first | rw [cif_t (by first | assumption | omega)] | rw [cif_f (by first | assumption | omega)])) <;> rfl⟩
              · refine Z_sipush 46 rfl rfl ?_
                refine Z_iret 47 rfl rfl ⟨Nat.le_refl _, Nat.le_refl _⟩ ?_
                first | (exfalso; omega) | exact ⟨by unfold putF; rw [← hkk, ← hll, ← hrr]; unfold putG; repeat (first | rw [cif_t (by first | assumption | omega)] | rw [cif_f (by first | assumption | omega)]), by unfold putF; rw [← hkk, ← hll, ← hrr]; unfold putG; (repeat (first | rw [cif_t (by first | assumption | omega)] | rw [cif_f (by first | assumption | omega)])) <;> rfl⟩
            · refine Z_iload_n 34 rfl rfl rfl ?_
              refine Z_goto 35 rfl (tgt := 78) rfl ?_
              refine Z_ci (show _ = rr by rw [hrr]; first | (exfalso; omega) | rw [if_pos (by omega)] | rw [if_neg (by omega)]) ?_
              refine Z_istore 40 rfl (Nat.le_of_ble_eq_true rfl) (lv' := [(6, .int _), (5, .int _), (4, .int _), (0, .ref _), (1, .int _), (2, .int _), (3, .int _)]) rfl ?_
              refine Z_iload 41 rfl rfl ?_
              refine Z_iload 42 rfl rfl ?_
              refine Z_iload 43 rfl rfl ?_
              refine Z_callSbp (M' := M_C_mayBe) 44 [] rfl l_C_95 C_C_mayBe (c_C_mayBe l kk ll rr ik il ir) ⟨List.nodup_nil, zEL.n⟩ rfl rfl rfl (Nat.le_of_ble_eq_true rfl) ⟨rfl, rfl, Nat.le_of_ble_eq_true rfl, Nat.le_of_ble_eq_true rfl⟩ ⟨Nat.zero_le _, Nat.zero_le _⟩ ?_
              refine Z_ifb_ne 45 rfl (tgt := 96) rfl (fun c89 => ?_) (fun c89 => ?_)
              · have hm : 1 ≤ ll ∧ ll ≤ 360 := by have := c89; unfold mb at this; omega
                refine Z_aload_n 48 rfl rfl rfl ?_
                refine Z_get 49 rfl f_C_14 rfl rfl ?_
                refine Z_callVip (M' := M_T_total) 50 [1, 2, 3, 4] rfl l_C_103 C_T_total (c_T_total l p.t h.1.1) ⟨by decide, (zEL.c (Or.inl rfl) (zEL.c (Or.inl rfl) (zEL.c (Or.inl rfl) (zEL.c (Or.inl rfl) zEL.n))))⟩ (Or.inl ⟨_, _, _, _, rfl, rfl⟩) rfl rfl rfl (Nat.le_of_ble_eq_true rfl) ⟨rfl, rfl, Nat.le_of_ble_eq_true rfl, Nat.le_of_ble_eq_true rfl⟩ ⟨Nat.zero_le _, Nat.zero_le _⟩ ?_
                refine Z_aload_n 51 rfl rfl rfl ?_
                refine Z_get 52 rfl f_C_14 rfl rfl ?_
                refine Z_iload_n 53 rfl rfl rfl ?_
                refine Z_callVip (M' := M_T_longOf) 54 [1, 2, 3, 4] rfl l_C_125 C_T_longOf (c_T_longOf l p.t j (by omega)) ⟨by decide, (zEL.c (Or.inl rfl) (zEL.c (Or.inl rfl) (zEL.c (Or.inl rfl) (zEL.c (Or.inl rfl) zEL.n))))⟩ (Or.inl ⟨_, _, _, _, rfl, rfl⟩) rfl rfl rfl (Nat.le_of_ble_eq_true rfl) ⟨rfl, rfl, Nat.le_of_ble_eq_true rfl, Nat.le_of_ble_eq_true rfl⟩ ⟨Nat.zero_le _, Nat.zero_le _⟩ ?_
                refine Z_isub 55 rfl ?_
                refine Z_iload 56 rfl rfl ?_
                refine Z_iadd 57 rfl ?_
                refine Z_sipush 58 rfl rfl ?_
                refine Z_icmp_le 59 rfl (tgt := 125) rfl (by omega) (by omega) (fun c118 => ?_) (fun c118 => ?_)
                · refine Z_aload_n 62 rfl rfl rfl ?_
                  refine Z_get 63 rfl f_C_14 rfl rfl ?_
                  refine Z_iload_n 64 rfl rfl rfl ?_
                  refine Z_iload_n 65 rfl rfl rfl ?_
                  refine Z_callVip (M' := M_T_partOf) 66 [1, 2, 3, 4] rfl l_C_131 C_T_partOf (c_T_partOf l p.t j what (by omega) hw) ⟨by decide, (zEL.c (Or.inl rfl) (zEL.c (Or.inl rfl) (zEL.c (Or.inl rfl) (zEL.c (Or.inl rfl) zEL.n))))⟩ (Or.inl ⟨_, _, _, _, rfl, rfl⟩) rfl rfl rfl (Nat.le_of_ble_eq_true rfl) ⟨rfl, rfl, Nat.le_of_ble_eq_true rfl, Nat.le_of_ble_eq_true rfl⟩ ⟨Nat.zero_le _, Nat.zero_le _⟩ ?_
                  refine Z_istore 67 rfl (Nat.le_of_ble_eq_true rfl) (lv' := [(7, .int _), (6, .int _), (5, .int _), (4, .int _), (0, .ref _), (1, .int _), (2, .int _), (3, .int _)]) rfl ?_
                  refine Z_aload_n 68 rfl rfl rfl ?_
                  refine Z_get 69 rfl f_C_14 rfl rfl ?_
                  refine Z_iload_n 70 rfl rfl rfl ?_
                  refine Z_iload 71 rfl rfl ?_
                  refine Z_iload 72 rfl rfl ?_
                  refine Z_iload 73 rfl rfl ?_
                  refine Z_callVv (M' := M_T_write) 74 [1, 2, 3, 4] rfl l_C_135 C_T_write (c_T_write l p.t j kk ll rr (by omega)) ⟨by decide, (zEL.c (Or.inl rfl) (zEL.c (Or.inl rfl) (zEL.c (Or.inl rfl) (zEL.c (Or.inl rfl) zEL.n))))⟩ (Or.inl ⟨_, _, _, _, rfl, rfl⟩) rfl rfl rfl (Nat.le_of_ble_eq_true rfl) ⟨rfl, rfl, Nat.le_of_ble_eq_true rfl, Nat.le_of_ble_eq_true rfl⟩ ⟨Nat.zero_le _, Nat.zero_le _⟩ (fun out hq => ?_)
                  obtain rfl := hq
                  refine Z_mem (show _ = eC (tW p.t j kk ll rr, p.2) rj s w g q q2 sm co from rfl) ?_
                  refine Z_iload 75 rfl rfl ?_
                  refine Z_iret 76 rfl rfl ⟨Nat.le_refl _, Nat.le_refl _⟩ ?_
                  first | (exfalso; omega) | exact ⟨by unfold putF; rw [← hkk, ← hll, ← hrr]; unfold putG; repeat (first | rw [cif_t (by first | assumption | omega)] | rw [cif_f (by first | assumption | omega)]), by unfold putF; rw [← hkk, ← hll, ← hrr]; unfold putG; (repeat (first | rw [cif_t (by first | assumption | omega)] | rw [cif_f (by first | assumption | omega)])) <;> rfl⟩
                · refine Z_sipush 60 rfl rfl ?_
                  refine Z_iret 61 rfl rfl ⟨Nat.le_refl _, Nat.le_refl _⟩ ?_
                  first | (exfalso; omega) | exact ⟨by unfold putF; rw [← hkk, ← hll, ← hrr]; unfold putG; repeat (first | rw [cif_t (by first | assumption | omega)] | rw [cif_f (by first | assumption | omega)]), by unfold putF; rw [← hkk, ← hll, ← hrr]; unfold putG; (repeat (first | rw [cif_t (by first | assumption | omega)] | rw [cif_f (by first | assumption | omega)])) <;> rfl⟩
              · refine Z_sipush 46 rfl rfl ?_
                refine Z_iret 47 rfl rfl ⟨Nat.le_refl _, Nat.le_refl _⟩ ?_
                first | (exfalso; omega) | exact ⟨by unfold putF; rw [← hkk, ← hll, ← hrr]; unfold putG; repeat (first | rw [cif_t (by first | assumption | omega)] | rw [cif_f (by first | assumption | omega)]), by unfold putF; rw [← hkk, ← hll, ← hrr]; unfold putG; (repeat (first | rw [cif_t (by first | assumption | omega)] | rw [cif_f (by first | assumption | omega)])) <;> rfl⟩
      · refine Z_sipush 10 rfl rfl ?_
        refine Z_iret 11 rfl rfl ⟨Nat.le_refl _, Nat.le_refl _⟩ ?_
        first | (exfalso; omega) | exact ⟨by unfold putF; rw [← hkk, ← hll, ← hrr]; unfold putG; repeat (first | rw [cif_t (by first | assumption | omega)] | rw [cif_f (by first | assumption | omega)]), by unfold putF; rw [← hkk, ← hll, ← hrr]; unfold putG; (repeat (first | rw [cif_t (by first | assumption | omega)] | rw [cif_f (by first | assumption | omega)])) <;> rfl⟩
theorem c_C_of (h : PV p) (j what : Int) (hj : inI j) (hw : inI what) : Con l M_C_of R_C_of 0 0 false [.ref 0, .int (iI j), .int (iI what)] (eC p rj s w g q q2 sm co) (zAi (ofF p.t j what) (fun m => m = eC p rj s w g q q2 sm co)) := by
  have h1 := h.1.1.1
  refine Con.of_Z (by decide) D_C_of (Nat.le_of_ble_eq_true rfl) ?_
  refine Z_aload_n 0 rfl rfl rfl ?_
  refine Z_get 1 rfl f_C_14 rfl rfl ?_
  refine Z_iload_n 2 rfl rfl rfl ?_
  refine Z_callVbp (M' := M_T_has) 3 [1, 2, 3, 4] rfl l_C_117 C_T_has (c_T_has l p.t h.1.1 j hj) ⟨by decide, (zEL.c (Or.inl rfl) (zEL.c (Or.inl rfl) (zEL.c (Or.inl rfl) (zEL.c (Or.inl rfl) zEL.n))))⟩ (Or.inl ⟨_, _, _, _, rfl, rfl⟩) rfl rfl rfl (Nat.le_of_ble_eq_true rfl) ⟨rfl, rfl, Nat.le_of_ble_eq_true rfl, Nat.le_of_ble_eq_true rfl⟩ ⟨Nat.zero_le _, Nat.zero_le _⟩ ?_
  refine Z_ifb_eq 4 rfl (tgt := 20) rfl (fun c8 => ?_) (fun c8 => ?_)
  · refine Z_sipush 10 rfl rfl ?_
    refine Z_iret 11 rfl rfl ⟨Nat.le_refl _, Nat.le_refl _⟩ ?_
    exact ⟨by unfold ofF; (repeat (first | rw [cif_t (by first | assumption | omega)] | rw [cif_f (by first | assumption | omega)])) <;> first | rfl | rw [if_pos (by omega)] <;> rfl | (rw [if_neg (by omega), if_pos (by omega)] <;> rfl) | (rw [if_neg (by omega), if_neg (by omega)]), rfl⟩
  · refine Z_iload_n 5 rfl rfl rfl ?_
    refine Z_if_lt 6 rfl (tgt := 20) rfl (by omega) (fun c12 => ?_) (fun c12 => ?_)
    · refine Z_sipush 10 rfl rfl ?_
      refine Z_iret 11 rfl rfl ⟨Nat.le_refl _, Nat.le_refl _⟩ ?_
      exact ⟨by unfold ofF; (repeat (first | rw [cif_t (by first | assumption | omega)] | rw [cif_f (by first | assumption | omega)])) <;> first | rfl | rw [if_pos (by omega)] <;> rfl | (rw [if_neg (by omega), if_pos (by omega)] <;> rfl) | (rw [if_neg (by omega), if_neg (by omega)]), rfl⟩
    · refine Z_iload_n 7 rfl rfl rfl ?_
      refine Z_iconst 8 rfl ?_
      refine Z_icmp_le 9 rfl (tgt := 24) rfl (by omega) (by omega) (fun c17 => ?_) (fun c17 => ?_)
      · refine Z_iload_n 12 rfl rfl rfl ?_
        refine Z_iconst 13 rfl ?_
        refine Z_icmp_ne 14 rfl (tgt := 38) rfl (by omega) (by omega) (fun c26 => ?_) (fun c26 => ?_)
        · refine Z_iload_n 20 rfl rfl rfl ?_
          refine Z_iconst 21 rfl ?_
          refine Z_icmp_ne 22 rfl (tgt := 52) rfl (by omega) (by omega) (fun c40 => ?_) (fun c40 => ?_)
          · refine Z_aload_n 28 rfl rfl rfl ?_
            refine Z_get 29 rfl f_C_14 rfl rfl ?_
            refine Z_iload_n 30 rfl rfl rfl ?_
            refine Z_iload_n 31 rfl rfl rfl ?_
            refine Z_callVip (M' := M_T_partOf) 32 [1, 2, 3, 4] rfl l_C_131 C_T_partOf (c_T_partOf l p.t j what (by omega) hw) ⟨by decide, (zEL.c (Or.inl rfl) (zEL.c (Or.inl rfl) (zEL.c (Or.inl rfl) (zEL.c (Or.inl rfl) zEL.n))))⟩ (Or.inl ⟨_, _, _, _, rfl, rfl⟩) rfl rfl rfl (Nat.le_of_ble_eq_true rfl) ⟨rfl, rfl, Nat.le_of_ble_eq_true rfl, Nat.le_of_ble_eq_true rfl⟩ ⟨Nat.zero_le _, Nat.zero_le _⟩ ?_
            refine Z_iret 33 rfl rfl ⟨Nat.le_refl _, Nat.le_refl _⟩ ?_
            exact ⟨by unfold ofF; (repeat (first | rw [cif_t (by first | assumption | omega)] | rw [cif_f (by first | assumption | omega)])) <;> first | rfl | rw [if_pos (by omega)] <;> rfl | (rw [if_neg (by omega), if_pos (by omega)] <;> rfl) | (rw [if_neg (by omega), if_neg (by omega)]), rfl⟩
          · refine Z_aload_n 23 rfl rfl rfl ?_
            refine Z_get 24 rfl f_C_14 rfl rfl ?_
            refine Z_iload_n 25 rfl rfl rfl ?_
            refine Z_callVip (M' := M_T_liftOf) 26 [1, 2, 3, 4] rfl l_C_142 C_T_liftOf (c_T_liftOf l p.t h.1.1 j j hj (by omega)) ⟨by decide, (zEL.c (Or.inl rfl) (zEL.c (Or.inl rfl) (zEL.c (Or.inl rfl) (zEL.c (Or.inl rfl) zEL.n))))⟩ (Or.inl ⟨_, _, _, _, rfl, rfl⟩) rfl rfl rfl (Nat.le_of_ble_eq_true rfl) ⟨rfl, rfl, Nat.le_of_ble_eq_true rfl, Nat.le_of_ble_eq_true rfl⟩ ⟨Nat.zero_le _, Nat.zero_le _⟩ ?_
            refine Z_iret 27 rfl rfl ⟨Nat.le_refl _, Nat.le_refl _⟩ ?_
            exact ⟨by unfold ofF; (repeat (first | rw [cif_t (by first | assumption | omega)] | rw [cif_f (by first | assumption | omega)])) <;> first | rfl | rw [if_pos (by omega)] <;> rfl | (rw [if_neg (by omega), if_pos (by omega)] <;> rfl) | (rw [if_neg (by omega), if_neg (by omega)]), rfl⟩
        · refine Z_aload_n 15 rfl rfl rfl ?_
          refine Z_get 16 rfl f_C_14 rfl rfl ?_
          refine Z_iload_n 17 rfl rfl rfl ?_
          refine Z_callVip (M' := M_T_beginOf) 18 [1, 2, 3, 4] rfl l_C_139 C_T_beginOf (c_T_beginOf l p.t h.1.1 j j hj (by omega)) ⟨by decide, (zEL.c (Or.inl rfl) (zEL.c (Or.inl rfl) (zEL.c (Or.inl rfl) (zEL.c (Or.inl rfl) zEL.n))))⟩ (Or.inl ⟨_, _, _, _, rfl, rfl⟩) rfl rfl rfl (Nat.le_of_ble_eq_true rfl) ⟨rfl, rfl, Nat.le_of_ble_eq_true rfl, Nat.le_of_ble_eq_true rfl⟩ ⟨Nat.zero_le _, Nat.zero_le _⟩ ?_
          refine Z_iret 19 rfl rfl ⟨Nat.le_refl _, Nat.le_refl _⟩ ?_
          exact ⟨by unfold ofF; (repeat (first | rw [cif_t (by first | assumption | omega)] | rw [cif_f (by first | assumption | omega)])) <;> first | rfl | rw [if_pos (by omega)] <;> rfl | (rw [if_neg (by omega), if_pos (by omega)] <;> rfl) | (rw [if_neg (by omega), if_neg (by omega)]), rfl⟩
      · refine Z_sipush 10 rfl rfl ?_
        refine Z_iret 11 rfl rfl ⟨Nat.le_refl _, Nat.le_refl _⟩ ?_
        exact ⟨by unfold ofF; (repeat (first | rw [cif_t (by first | assumption | omega)] | rw [cif_f (by first | assumption | omega)])) <;> first | rfl | rw [if_pos (by omega)] <;> rfl | (rw [if_neg (by omega), if_pos (by omega)] <;> rfl) | (rw [if_neg (by omega), if_neg (by omega)]), rfl⟩
theorem leF_in (i : Int) : 0 ≤ leF i ∧ leF i ≤ 1 := by
  unfold leF
  repeat' split
  all_goals omega
theorem moF_in (i : Int) : 20 ≤ moF i ∧ moF i ≤ 9999 := by
  unfold moF
  repeat' split
  all_goals omega
theorem c_C_tell (h : PV p) (what v : Int) (hw : inI what) (hv : inI v) : Con l M_C_tell R_C_tell 0 0 false [.ref 0, .int (iI what), .int (iI v)] (eC p rj s w g q q2 sm co) (zAi (tellF p.s what v).1 (fun m => m = eC (p.t, (tellF p.s what v).2, p.2.2) rj s w g q q2 sm co)) := by
  have h1 := leF_in what
  have h2 := moF_in what
  refine Con.of_Z (by decide) D_C_tell (Nat.le_of_ble_eq_true rfl) ?_
  refine Z_iload_n 0 rfl rfl rfl ?_
  refine Z_if_lt 1 rfl (tgt := 10) rfl (by omega) (fun c1 => ?_) (fun c1 => ?_)
  · refine Z_iconst 5 rfl ?_
    refine Z_iret 6 rfl rfl ⟨Nat.le_refl _, Nat.le_refl _⟩ ?_
    exact ⟨by unfold tellF; repeat (first | rw [cif_t (by first | assumption | omega)] | rw [cif_f (by first | assumption | omega)]), by unfold tellF; (repeat (first | rw [cif_t (by first | assumption | omega)] | rw [cif_f (by first | assumption | omega)])) <;> rfl⟩
  · refine Z_iload_n 2 rfl rfl rfl ?_
    refine Z_bipush 3 rfl rfl ?_
    refine Z_icmp_lt 4 rfl (tgt := 12) rfl (by omega) (by omega) (fun c7 => ?_) (fun c7 => ?_)
    · refine Z_iload_n 7 rfl rfl rfl ?_
      refine Z_gets (q := 27) 8 rfl f_C_145 rfl List.mem_cons_self ?_
      refine Z_iload_n 9 rfl rfl rfl ?_
      refine Z_callSip (M' := M_C_pick) 10 [28] rfl l_C_148 C_C_pick (pick_in l 6 (by omega) leF what (by omega)) ⟨by decide, (zEL.c (Or.inl rfl) zEL.n)⟩ rfl rfl rfl (Nat.le_of_ble_eq_true rfl) ⟨rfl, rfl, Nat.le_of_ble_eq_true rfl, Nat.le_of_ble_eq_true rfl⟩ ⟨Nat.zero_le _, Nat.zero_le _⟩ ?_
      refine Z_icmp_lt 11 rfl (tgt := 34) rfl (by omega) (by omega) (fun c20 => ?_) (fun c20 => ?_)
      · refine Z_bipush 17 rfl rfl ?_
        refine Z_iret 18 rfl rfl ⟨Nat.le_refl _, Nat.le_refl _⟩ ?_
        exact ⟨by unfold tellF; repeat (first | rw [cif_t (by first | assumption | omega)] | rw [cif_f (by first | assumption | omega)]), by unfold tellF; (repeat (first | rw [cif_t (by first | assumption | omega)] | rw [cif_f (by first | assumption | omega)])) <;> rfl⟩
      · refine Z_iload_n 12 rfl rfl rfl ?_
        refine Z_gets (q := 27) 13 rfl f_C_152 rfl (List.mem_cons_of_mem _ List.mem_cons_self) ?_
        refine Z_iload_n 14 rfl rfl rfl ?_
        refine Z_callSip (M' := M_C_pick) 15 [29] rfl l_C_148 C_C_pick (pick_in l 6 (by omega) moF what (by omega)) ⟨by decide, (zEL.c (Or.inl rfl) zEL.n)⟩ rfl rfl rfl (Nat.le_of_ble_eq_true rfl) ⟨rfl, rfl, Nat.le_of_ble_eq_true rfl, Nat.le_of_ble_eq_true rfl⟩ ⟨Nat.zero_le _, Nat.zero_le _⟩ ?_
        refine Z_icmp_le 16 rfl (tgt := 37) rfl (by omega) (by omega) (fun c31 => ?_) (fun c31 => ?_)
        · refine Z_aload_n 19 rfl rfl rfl ?_
          refine Z_get 20 rfl f_C_18 rfl rfl ?_
          refine Z_iload_n 21 rfl rfl rfl ?_
          refine Z_callSip (M' := M_C_pick) 22 [5] rfl l_C_148 C_C_pick (pick_in l 6 (by omega) p.s what (by omega)) ⟨by decide, (zEL.c (Or.inr ⟨_, _, rfl, rfl, by decide⟩) zEL.n)⟩ rfl rfl rfl (Nat.le_of_ble_eq_true rfl) ⟨rfl, rfl, Nat.le_of_ble_eq_true rfl, Nat.le_of_ble_eq_true rfl⟩ ⟨Nat.zero_le _, Nat.zero_le _⟩ ?_
          refine Z_istore_n 23 rfl rfl (Nat.le_of_ble_eq_true rfl) (lv' := [(3, .int _), (0, .ref _), (1, .int _), (2, .int _)]) rfl ?_
          refine Z_aload_n 24 rfl rfl rfl ?_
          refine Z_get 25 rfl f_C_18 rfl rfl ?_
          refine Z_iload_n 26 rfl rfl rfl ?_
          refine Z_iload_n 27 rfl rfl rfl ?_
          refine Z_callSv (M' := M_C_store) 28 [5] rfl l_C_155 C_C_store (c_C_store l 6 (by omega) p.s what v (by omega)) ⟨by decide, (zEL.c (Or.inl rfl) zEL.n)⟩ rfl rfl rfl (Nat.le_of_ble_eq_true rfl) ⟨rfl, rfl, Nat.le_of_ble_eq_true rfl, Nat.le_of_ble_eq_true rfl⟩ ⟨Nat.zero_le _, Nat.zero_le _⟩ (fun out hq => ?_)
          obtain rfl := hq
          refine Z_mem (show _ = eC (p.t, uI p.s what v, p.2.2) rj s w g q q2 sm co by rw [stI_in (by omega)]; rfl) ?_
          refine Z_iload_n 29 rfl rfl rfl ?_
          refine Z_iret 30 rfl rfl ⟨Nat.le_refl _, Nat.le_refl _⟩ ?_
          exact ⟨by unfold tellF; repeat (first | rw [cif_t (by first | assumption | omega)] | rw [cif_f (by first | assumption | omega)]), by unfold tellF; (repeat (first | rw [cif_t (by first | assumption | omega)] | rw [cif_f (by first | assumption | omega)])) <;> rfl⟩
        · refine Z_bipush 17 rfl rfl ?_
          refine Z_iret 18 rfl rfl ⟨Nat.le_refl _, Nat.le_refl _⟩ ?_
          exact ⟨by unfold tellF; repeat (first | rw [cif_t (by first | assumption | omega)] | rw [cif_f (by first | assumption | omega)]), by unfold tellF; (repeat (first | rw [cif_t (by first | assumption | omega)] | rw [cif_f (by first | assumption | omega)])) <;> rfl⟩
    · refine Z_iconst 5 rfl ?_
      refine Z_iret 6 rfl rfl ⟨Nat.le_refl _, Nat.le_refl _⟩ ?_
      exact ⟨by unfold tellF; repeat (first | rw [cif_t (by first | assumption | omega)] | rw [cif_f (by first | assumption | omega)]), by unfold tellF; (repeat (first | rw [cif_t (by first | assumption | omega)] | rw [cif_f (by first | assumption | omega)])) <;> rfl⟩
theorem c_C_told (h : PV p) (what : Int) (hw : inI what) : Con l M_C_told R_C_told 0 0 false [.ref 0, .int (iI what)] (eC p rj s w g q q2 sm co) (zAi (toldF p.t p.s p.ts what) (fun m => m = eC p rj s w g q q2 sm co)) := by
  refine Con.of_Z (by decide) D_C_told (Nat.le_of_ble_eq_true rfl) ?_
  refine Z_iload_n 0 rfl rfl rfl ?_
  refine Z_if_lt 1 rfl (tgt := 19) rfl (by omega) (fun c1 => ?_) (fun c1 => ?_)
  · refine Z_iload_n 10 rfl rfl rfl ?_
    rcases Classical.em (what < 6 ∨ 9 < what) with cs | cs
    · refine Z_tabOut 11 rfl hw cs (tgt := 92) rfl ?_
      refine Z_iconst 32 rfl ?_
      refine Z_iret 33 rfl rfl ⟨Nat.le_refl _, Nat.le_refl _⟩ ?_
      first | (exfalso; omega) | exact ⟨by unfold toldF; (repeat (first | rw [cif_t (by first | assumption | omega)] | rw [cif_f (by first | assumption | omega)])) <;> first | (subst cs; rfl) | (rw [if_neg (by omega), if_neg (by omega), if_neg (by omega), if_neg (by omega)]), rfl⟩
    rcases (show what = 6 ∨ what = 7 ∨ what = 8 ∨ what = 9 by omega) with cs | cs | cs | cs
    · refine Z_ci cs ?_
      refine Z_tabIn 11 rfl (by decide) (by decide) (by decide) (off := 32) rfl (tgt := 52) rfl ?_
      refine Z_aload_n 12 rfl rfl rfl ?_
      refine Z_get 13 rfl f_C_14 rfl rfl ?_
      refine Z_callVip (M' := M_T_size) 14 [1, 2, 3, 4] rfl l_C_111 C_T_size (c_T_size l p.t) ⟨by decide, (zEL.c (Or.inl rfl) (zEL.c (Or.inl rfl) (zEL.c (Or.inl rfl) (zEL.c (Or.inl rfl) zEL.n))))⟩ (Or.inl ⟨_, _, _, _, rfl, rfl⟩) rfl rfl rfl (Nat.le_of_ble_eq_true rfl) ⟨rfl, rfl, Nat.le_of_ble_eq_true rfl, Nat.le_of_ble_eq_true rfl⟩ ⟨Nat.zero_le _, Nat.zero_le _⟩ ?_
      refine Z_iret 15 rfl rfl ⟨Nat.le_refl _, Nat.le_refl _⟩ ?_
      first | (exfalso; omega) | exact ⟨by unfold toldF; (repeat (first | rw [cif_t (by first | assumption | omega)] | rw [cif_f (by first | assumption | omega)])) <;> first | (subst cs; rfl) | (rw [if_neg (by omega), if_neg (by omega), if_neg (by omega), if_neg (by omega)]), rfl⟩
    · refine Z_ci cs ?_
      refine Z_tabIn 11 rfl (by decide) (by decide) (by decide) (off := 40) rfl (tgt := 60) rfl ?_
      refine Z_aload_n 16 rfl rfl rfl ?_
      refine Z_get 17 rfl f_C_14 rfl rfl ?_
      refine Z_callVip (M' := M_T_total) 18 [1, 2, 3, 4] rfl l_C_103 C_T_total (c_T_total l p.t h.1.1) ⟨by decide, (zEL.c (Or.inl rfl) (zEL.c (Or.inl rfl) (zEL.c (Or.inl rfl) (zEL.c (Or.inl rfl) zEL.n))))⟩ (Or.inl ⟨_, _, _, _, rfl, rfl⟩) rfl rfl rfl (Nat.le_of_ble_eq_true rfl) ⟨rfl, rfl, Nat.le_of_ble_eq_true rfl, Nat.le_of_ble_eq_true rfl⟩ ⟨Nat.zero_le _, Nat.zero_le _⟩ ?_
      refine Z_iret 19 rfl rfl ⟨Nat.le_refl _, Nat.le_refl _⟩ ?_
      first | (exfalso; omega) | exact ⟨by unfold toldF; (repeat (first | rw [cif_t (by first | assumption | omega)] | rw [cif_f (by first | assumption | omega)])) <;> first | (subst cs; rfl) | (rw [if_neg (by omega), if_neg (by omega), if_neg (by omega), if_neg (by omega)]), rfl⟩
    · refine Z_ci cs ?_
      refine Z_tabIn 11 rfl (by decide) (by decide) (by decide) (off := 48) rfl (tgt := 68) rfl ?_
      refine Z_aload_n 20 rfl rfl rfl ?_
      refine Z_get 21 rfl f_C_14 rfl rfl ?_
      refine Z_callVbp (M' := M_T_isClosed) 22 [1, 2, 3, 4] rfl l_C_159 C_T_isClosed (c_T_isClosed l p.t h.1.1) ⟨by decide, (zEL.c (Or.inl rfl) (zEL.c (Or.inl rfl) (zEL.c (Or.inl rfl) (zEL.c (Or.inl rfl) zEL.n))))⟩ (Or.inl ⟨_, _, _, _, rfl, rfl⟩) rfl rfl rfl (Nat.le_of_ble_eq_true rfl) ⟨rfl, rfl, Nat.le_of_ble_eq_true rfl, Nat.le_of_ble_eq_true rfl⟩ ⟨Nat.zero_le _, Nat.zero_le _⟩ ?_
      refine Z_ifb_eq 23 rfl (tgt := 82) rfl (fun c75 => ?_) (fun c75 => ?_)
      · refine Z_iconst 26 rfl ?_
        refine Z_iret 27 rfl rfl ⟨Nat.le_refl _, Nat.le_refl _⟩ ?_
        first | (exfalso; omega) | exact ⟨by unfold toldF; rw [cif_f (by omega)]; subst cs; first | (show _ = some (Value.int (iI (bI (clo p.t)))); rw [bI_t c75]) | (show _ = some (Value.int (iI (bI (clo p.t)))); rw [bI_f c75]), rfl⟩
      · refine Z_iconst 24 rfl ?_
        refine Z_goto 25 rfl (tgt := 83) rfl ?_
        refine Z_iret 27 rfl rfl ⟨Nat.le_refl _, Nat.le_refl _⟩ ?_
        first | (exfalso; omega) | exact ⟨by unfold toldF; rw [cif_f (by omega)]; subst cs; first | (show _ = some (Value.int (iI (bI (clo p.t)))); rw [bI_t c75]) | (show _ = some (Value.int (iI (bI (clo p.t)))); rw [bI_f c75]), rfl⟩
    · refine Z_ci cs ?_
      refine Z_tabIn 11 rfl (by decide) (by decide) (by decide) (off := 64) rfl (tgt := 84) rfl ?_
      refine Z_aload_n 28 rfl rfl rfl ?_
      refine Z_get 29 rfl f_C_35 rfl rfl ?_
      refine Z_callVip (M' := M_D_size) 30 [11, 12, 13, 14, 15, 16] rfl l_C_162 C_D_size (c_D_size l p.tb p.ts rj) ⟨by decide, (zEL.c (Or.inl rfl) (zEL.c (Or.inl rfl) (zEL.c (Or.inl rfl) (zEL.c (Or.inl rfl) (zEL.c (Or.inl rfl) (zEL.c (Or.inl rfl) zEL.n))))))⟩ (Or.inl ⟨_, _, _, _, rfl, rfl⟩) rfl rfl rfl (Nat.le_of_ble_eq_true rfl) ⟨rfl, rfl, Nat.le_of_ble_eq_true rfl, Nat.le_of_ble_eq_true rfl⟩ ⟨Nat.zero_le _, Nat.zero_le _⟩ ?_
      refine Z_iret 31 rfl rfl ⟨Nat.le_refl _, Nat.le_refl _⟩ ?_
      first | (exfalso; omega) | exact ⟨by unfold toldF; (repeat (first | rw [cif_t (by first | assumption | omega)] | rw [cif_f (by first | assumption | omega)])) <;> first | (subst cs; rfl) | (rw [if_neg (by omega), if_neg (by omega), if_neg (by omega), if_neg (by omega)]), rfl⟩
  · refine Z_iload_n 2 rfl rfl rfl ?_
    refine Z_bipush 3 rfl rfl ?_
    refine Z_icmp_ge 4 rfl (tgt := 19) rfl (by omega) (by omega) (fun c7 => ?_) (fun c7 => ?_)
    · refine Z_iload_n 10 rfl rfl rfl ?_
      rcases Classical.em (what < 6 ∨ 9 < what) with cs | cs
      · refine Z_tabOut 11 rfl hw cs (tgt := 92) rfl ?_
        refine Z_iconst 32 rfl ?_
        refine Z_iret 33 rfl rfl ⟨Nat.le_refl _, Nat.le_refl _⟩ ?_
        first | (exfalso; omega) | exact ⟨by unfold toldF; (repeat (first | rw [cif_t (by first | assumption | omega)] | rw [cif_f (by first | assumption | omega)])) <;> first | (subst cs; rfl) | (rw [if_neg (by omega), if_neg (by omega), if_neg (by omega), if_neg (by omega)]), rfl⟩
      rcases (show what = 6 ∨ what = 7 ∨ what = 8 ∨ what = 9 by omega) with cs | cs | cs | cs
      · refine Z_ci cs ?_
        refine Z_tabIn 11 rfl (by decide) (by decide) (by decide) (off := 32) rfl (tgt := 52) rfl ?_
        refine Z_aload_n 12 rfl rfl rfl ?_
        refine Z_get 13 rfl f_C_14 rfl rfl ?_
        refine Z_callVip (M' := M_T_size) 14 [1, 2, 3, 4] rfl l_C_111 C_T_size (c_T_size l p.t) ⟨by decide, (zEL.c (Or.inl rfl) (zEL.c (Or.inl rfl) (zEL.c (Or.inl rfl) (zEL.c (Or.inl rfl) zEL.n))))⟩ (Or.inl ⟨_, _, _, _, rfl, rfl⟩) rfl rfl rfl (Nat.le_of_ble_eq_true rfl) ⟨rfl, rfl, Nat.le_of_ble_eq_true rfl, Nat.le_of_ble_eq_true rfl⟩ ⟨Nat.zero_le _, Nat.zero_le _⟩ ?_
        refine Z_iret 15 rfl rfl ⟨Nat.le_refl _, Nat.le_refl _⟩ ?_
        first | (exfalso; omega) | exact ⟨by unfold toldF; (repeat (first | rw [cif_t (by first | assumption | omega)] | rw [cif_f (by first | assumption | omega)])) <;> first | (subst cs; rfl) | (rw [if_neg (by omega), if_neg (by omega), if_neg (by omega), if_neg (by omega)]), rfl⟩
      · refine Z_ci cs ?_
        refine Z_tabIn 11 rfl (by decide) (by decide) (by decide) (off := 40) rfl (tgt := 60) rfl ?_
        refine Z_aload_n 16 rfl rfl rfl ?_
        refine Z_get 17 rfl f_C_14 rfl rfl ?_
        refine Z_callVip (M' := M_T_total) 18 [1, 2, 3, 4] rfl l_C_103 C_T_total (c_T_total l p.t h.1.1) ⟨by decide, (zEL.c (Or.inl rfl) (zEL.c (Or.inl rfl) (zEL.c (Or.inl rfl) (zEL.c (Or.inl rfl) zEL.n))))⟩ (Or.inl ⟨_, _, _, _, rfl, rfl⟩) rfl rfl rfl (Nat.le_of_ble_eq_true rfl) ⟨rfl, rfl, Nat.le_of_ble_eq_true rfl, Nat.le_of_ble_eq_true rfl⟩ ⟨Nat.zero_le _, Nat.zero_le _⟩ ?_
        refine Z_iret 19 rfl rfl ⟨Nat.le_refl _, Nat.le_refl _⟩ ?_
        first | (exfalso; omega) | exact ⟨by unfold toldF; (repeat (first | rw [cif_t (by first | assumption | omega)] | rw [cif_f (by first | assumption | omega)])) <;> first | (subst cs; rfl) | (rw [if_neg (by omega), if_neg (by omega), if_neg (by omega), if_neg (by omega)]), rfl⟩
      · refine Z_ci cs ?_
        refine Z_tabIn 11 rfl (by decide) (by decide) (by decide) (off := 48) rfl (tgt := 68) rfl ?_
        refine Z_aload_n 20 rfl rfl rfl ?_
        refine Z_get 21 rfl f_C_14 rfl rfl ?_
        refine Z_callVbp (M' := M_T_isClosed) 22 [1, 2, 3, 4] rfl l_C_159 C_T_isClosed (c_T_isClosed l p.t h.1.1) ⟨by decide, (zEL.c (Or.inl rfl) (zEL.c (Or.inl rfl) (zEL.c (Or.inl rfl) (zEL.c (Or.inl rfl) zEL.n))))⟩ (Or.inl ⟨_, _, _, _, rfl, rfl⟩) rfl rfl rfl (Nat.le_of_ble_eq_true rfl) ⟨rfl, rfl, Nat.le_of_ble_eq_true rfl, Nat.le_of_ble_eq_true rfl⟩ ⟨Nat.zero_le _, Nat.zero_le _⟩ ?_
        refine Z_ifb_eq 23 rfl (tgt := 82) rfl (fun c75 => ?_) (fun c75 => ?_)
        · refine Z_iconst 26 rfl ?_
          refine Z_iret 27 rfl rfl ⟨Nat.le_refl _, Nat.le_refl _⟩ ?_
          first | (exfalso; omega) | exact ⟨by unfold toldF; rw [cif_f (by omega)]; subst cs; first | (show _ = some (Value.int (iI (bI (clo p.t)))); rw [bI_t c75]) | (show _ = some (Value.int (iI (bI (clo p.t)))); rw [bI_f c75]), rfl⟩
        · refine Z_iconst 24 rfl ?_
          refine Z_goto 25 rfl (tgt := 83) rfl ?_
          refine Z_iret 27 rfl rfl ⟨Nat.le_refl _, Nat.le_refl _⟩ ?_
          first | (exfalso; omega) | exact ⟨by unfold toldF; rw [cif_f (by omega)]; subst cs; first | (show _ = some (Value.int (iI (bI (clo p.t)))); rw [bI_t c75]) | (show _ = some (Value.int (iI (bI (clo p.t)))); rw [bI_f c75]), rfl⟩
      · refine Z_ci cs ?_
        refine Z_tabIn 11 rfl (by decide) (by decide) (by decide) (off := 64) rfl (tgt := 84) rfl ?_
        refine Z_aload_n 28 rfl rfl rfl ?_
        refine Z_get 29 rfl f_C_35 rfl rfl ?_
        refine Z_callVip (M' := M_D_size) 30 [11, 12, 13, 14, 15, 16] rfl l_C_162 C_D_size (c_D_size l p.tb p.ts rj) ⟨by decide, (zEL.c (Or.inl rfl) (zEL.c (Or.inl rfl) (zEL.c (Or.inl rfl) (zEL.c (Or.inl rfl) (zEL.c (Or.inl rfl) (zEL.c (Or.inl rfl) zEL.n))))))⟩ (Or.inl ⟨_, _, _, _, rfl, rfl⟩) rfl rfl rfl (Nat.le_of_ble_eq_true rfl) ⟨rfl, rfl, Nat.le_of_ble_eq_true rfl, Nat.le_of_ble_eq_true rfl⟩ ⟨Nat.zero_le _, Nat.zero_le _⟩ ?_
        refine Z_iret 31 rfl rfl ⟨Nat.le_refl _, Nat.le_refl _⟩ ?_
        first | (exfalso; omega) | exact ⟨by unfold toldF; (repeat (first | rw [cif_t (by first | assumption | omega)] | rw [cif_f (by first | assumption | omega)])) <;> first | (subst cs; rfl) | (rw [if_neg (by omega), if_neg (by omega), if_neg (by omega), if_neg (by omega)]), rfl⟩
    · refine Z_aload_n 5 rfl rfl rfl ?_
      refine Z_get 6 rfl f_C_18 rfl rfl ?_
      refine Z_iload_n 7 rfl rfl rfl ?_
      refine Z_callSip (M' := M_C_pick) 8 [5] rfl l_C_148 C_C_pick (pick_in l 6 (by omega) p.s what (by omega)) ⟨by decide, (zEL.c (Or.inr ⟨_, _, rfl, rfl, by decide⟩) zEL.n)⟩ rfl rfl rfl (Nat.le_of_ble_eq_true rfl) ⟨rfl, rfl, Nat.le_of_ble_eq_true rfl, Nat.le_of_ble_eq_true rfl⟩ ⟨Nat.zero_le _, Nat.zero_le _⟩ ?_
      refine Z_iret 9 rfl rfl ⟨Nat.le_refl _, Nat.le_refl _⟩ ?_
      first | (exfalso; omega) | exact ⟨by unfold toldF; (repeat (first | rw [cif_t (by first | assumption | omega)] | rw [cif_f (by first | assumption | omega)])) <;> first | (subst cs; rfl) | (rw [if_neg (by omega), if_neg (by omega), if_neg (by omega), if_neg (by omega)]), rfl⟩
end C2
end
