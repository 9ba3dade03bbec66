section
-- ===== PART A: goes FIRST, ahead of the names: the tables' words, and 'selects' of the private methods out of them =====
/-- a private method of a class that the tables say can be made, by its rows of tables_1 -/
def lw_okq (q : MethodName × Nat) : Prop := (q.1.cls ≠ "java/lang/invoke/MethodHandle" ∧ q.1.cls ≠ "java/lang/invoke/VarHandle") ∧ Cond.instantiable q.1.cls q.2 ∈ tables_1 ∧ Cond.privateMethod q.1 ∈ tables_1 ∧ Cond.instanceMethod q.1 ∈ tables_1
theorem lw_p0 : lw_okq (⟨"CamPieces", "standAt", "(II)Z"⟩, 15) := ⟨⟨by decide +kernel, by decide +kernel⟩, List.mem_of_getElem? (i := 18) (by decide +kernel), List.mem_of_getElem? (i := 382) (by decide +kernel), List.mem_of_getElem? (i := 383) (by decide +kernel)⟩
theorem lw_p1 : lw_okq (⟨"CamPieces", "standIn", "(II)Z"⟩, 15) := ⟨⟨by decide +kernel, by decide +kernel⟩, List.mem_of_getElem? (i := 18) (by decide +kernel), List.mem_of_getElem? (i := 386) (by decide +kernel), List.mem_of_getElem? (i := 387) (by decide +kernel)⟩
theorem lw_p2 : lw_okq (⟨"CamPieces$Spot", "write", "(JJJJ)V"⟩, 5) := ⟨⟨by decide +kernel, by decide +kernel⟩, List.mem_of_getElem? (i := 97) (by decide +kernel), List.mem_of_getElem? (i := 394) (by decide +kernel), List.mem_of_getElem? (i := 395) (by decide +kernel)⟩
theorem lw_p3 : lw_okq (⟨"CamPieces$Spot", "standInCubic", "(JJJ)V"⟩, 5) := ⟨⟨by decide +kernel, by decide +kernel⟩, List.mem_of_getElem? (i := 97) (by decide +kernel), List.mem_of_getElem? (i := 400) (by decide +kernel), List.mem_of_getElem? (i := 401) (by decide +kernel)⟩
theorem lw_p4 : lw_okq (⟨"CamPieces$Spot", "standInQuintic", "(JJJ)V"⟩, 5) := ⟨⟨by decide +kernel, by decide +kernel⟩, List.mem_of_getElem? (i := 97) (by decide +kernel), List.mem_of_getElem? (i := 406) (by decide +kernel), List.mem_of_getElem? (i := 407) (by decide +kernel)⟩
theorem lw_p5 : lw_okq (⟨"CamPieces", "hasJoin", "(I)Z"⟩, 15) := ⟨⟨by decide +kernel, by decide +kernel⟩, List.mem_of_getElem? (i := 18) (by decide +kernel), List.mem_of_getElem? (i := 432) (by decide +kernel), List.mem_of_getElem? (i := 433) (by decide +kernel)⟩
theorem lw_p6 : lw_okq (⟨"CamPieces", "reckonJump", "(II)V"⟩, 15) := ⟨⟨by decide +kernel, by decide +kernel⟩, List.mem_of_getElem? (i := 18) (by decide +kernel), List.mem_of_getElem? (i := 436) (by decide +kernel), List.mem_of_getElem? (i := 437) (by decide +kernel)⟩
theorem lw_p7 : lw_okq (⟨"CamPieces", "pieceAhead", "(I)I"⟩, 15) := ⟨⟨by decide +kernel, by decide +kernel⟩, List.mem_of_getElem? (i := 18) (by decide +kernel), List.mem_of_getElem? (i := 440) (by decide +kernel), List.mem_of_getElem? (i := 441) (by decide +kernel)⟩
theorem lw_p8 : lw_okq (⟨"CamPieces", "kindOfJoin", "(I)I"⟩, 15) := ⟨⟨by decide +kernel, by decide +kernel⟩, List.mem_of_getElem? (i := 18) (by decide +kernel), List.mem_of_getElem? (i := 461) (by decide +kernel), List.mem_of_getElem? (i := 462) (by decide +kernel)⟩
theorem lw_p9 : lw_okq (⟨"CamPieces", "curveHere", "()J"⟩, 15) := ⟨⟨by decide +kernel, by decide +kernel⟩, List.mem_of_getElem? (i := 18) (by decide +kernel), List.mem_of_getElem? (i := 477) (by decide +kernel), List.mem_of_getElem? (i := 478) (by decide +kernel)⟩
theorem lw_p10 : lw_okq (⟨"CamPieces", "reachHere", "()J"⟩, 15) := ⟨⟨by decide +kernel, by decide +kernel⟩, List.mem_of_getElem? (i := 18) (by decide +kernel), List.mem_of_getElem? (i := 481) (by decide +kernel), List.mem_of_getElem? (i := 482) (by decide +kernel)⟩
theorem lw_p11 : lw_okq (⟨"CamPieces", "setting", "(I)J"⟩, 15) := ⟨⟨by decide +kernel, by decide +kernel⟩, List.mem_of_getElem? (i := 18) (by decide +kernel), List.mem_of_getElem? (i := 485) (by decide +kernel), List.mem_of_getElem? (i := 486) (by decide +kernel)⟩
theorem lw_p12 : lw_okq (⟨"CamPieces", "forceHere", "()J"⟩, 15) := ⟨⟨by decide +kernel, by decide +kernel⟩, List.mem_of_getElem? (i := 18) (by decide +kernel), List.mem_of_getElem? (i := 499) (by decide +kernel), List.mem_of_getElem? (i := 500) (by decide +kernel)⟩
theorem lw_p13 : lw_okq (⟨"CamPieces", "preloadHere", "()J"⟩, 15) := ⟨⟨by decide +kernel, by decide +kernel⟩, List.mem_of_getElem? (i := 18) (by decide +kernel), List.mem_of_getElem? (i := 503) (by decide +kernel), List.mem_of_getElem? (i := 504) (by decide +kernel)⟩
theorem lw_p14 : lw_okq (⟨"CamPieces", "springHere", "()J"⟩, 15) := ⟨⟨by decide +kernel, by decide +kernel⟩, List.mem_of_getElem? (i := 18) (by decide +kernel), List.mem_of_getElem? (i := 507) (by decide +kernel), List.mem_of_getElem? (i := 508) (by decide +kernel)⟩
theorem lw_p15 : lw_okq (⟨"CamPieces", "inertiaHere", "()J"⟩, 15) := ⟨⟨by decide +kernel, by decide +kernel⟩, List.mem_of_getElem? (i := 18) (by decide +kernel), List.mem_of_getElem? (i := 511) (by decide +kernel), List.mem_of_getElem? (i := 512) (by decide +kernel)⟩
def lw_privs_1 : List (MethodName × Nat) := [(⟨"CamPieces", "standAt", "(II)Z"⟩, 15), (⟨"CamPieces", "standIn", "(II)Z"⟩, 15), (⟨"CamPieces$Spot", "write", "(JJJJ)V"⟩, 5), (⟨"CamPieces$Spot", "standInCubic", "(JJJ)V"⟩, 5), (⟨"CamPieces$Spot", "standInQuintic", "(JJJ)V"⟩, 5), (⟨"CamPieces", "hasJoin", "(I)Z"⟩, 15), (⟨"CamPieces", "reckonJump", "(II)V"⟩, 15), (⟨"CamPieces", "pieceAhead", "(I)I"⟩, 15), (⟨"CamPieces", "kindOfJoin", "(I)I"⟩, 15), (⟨"CamPieces", "curveHere", "()J"⟩, 15), (⟨"CamPieces", "reachHere", "()J"⟩, 15), (⟨"CamPieces", "setting", "(I)J"⟩, 15), (⟨"CamPieces", "forceHere", "()J"⟩, 15), (⟨"CamPieces", "preloadHere", "()J"⟩, 15), (⟨"CamPieces", "springHere", "()J"⟩, 15), (⟨"CamPieces", "inertiaHere", "()J"⟩, 15)]
theorem lw_r1 : ∀ q ∈ lw_privs_1, lw_okq q := List.forall_mem_cons.mpr ⟨lw_p0, List.forall_mem_cons.mpr ⟨lw_p1, List.forall_mem_cons.mpr ⟨lw_p2, List.forall_mem_cons.mpr ⟨lw_p3, List.forall_mem_cons.mpr ⟨lw_p4, List.forall_mem_cons.mpr ⟨lw_p5, List.forall_mem_cons.mpr ⟨lw_p6, List.forall_mem_cons.mpr ⟨lw_p7, List.forall_mem_cons.mpr ⟨lw_p8, List.forall_mem_cons.mpr ⟨lw_p9, List.forall_mem_cons.mpr ⟨lw_p10, List.forall_mem_cons.mpr ⟨lw_p11, List.forall_mem_cons.mpr ⟨lw_p12, List.forall_mem_cons.mpr ⟨lw_p13, List.forall_mem_cons.mpr ⟨lw_p14, List.forall_mem_cons.mpr ⟨lw_p15, fun _ h => absurd h List.not_mem_nil⟩⟩⟩⟩⟩⟩⟩⟩⟩⟩⟩⟩⟩⟩⟩⟩
theorem lw_p16 : lw_okq (⟨"CamPieces$Walk", "stepOn", "(II)V"⟩, 6) := ⟨⟨by decide +kernel, by decide +kernel⟩, List.mem_of_getElem? (i := 122) (by decide +kernel), List.mem_of_getElem? (i := 536) (by decide +kernel), List.mem_of_getElem? (i := 537) (by decide +kernel)⟩
theorem lw_p17 : lw_okq (⟨"CamPieces", "cornersAt", "(I)I"⟩, 15) := ⟨⟨by decide +kernel, by decide +kernel⟩, List.mem_of_getElem? (i := 18) (by decide +kernel), List.mem_of_getElem? (i := 602) (by decide +kernel), List.mem_of_getElem? (i := 603) (by decide +kernel)⟩
theorem lw_p18 : lw_okq (⟨"CamPieces", "hasCorner", "(I)Z"⟩, 15) := ⟨⟨by decide +kernel, by decide +kernel⟩, List.mem_of_getElem? (i := 18) (by decide +kernel), List.mem_of_getElem? (i := 612) (by decide +kernel), List.mem_of_getElem? (i := 613) (by decide +kernel)⟩
theorem lw_p19 : lw_okq (⟨"CamPieces", "sampleHere", "()J"⟩, 15) := ⟨⟨by decide +kernel, by decide +kernel⟩, List.mem_of_getElem? (i := 18) (by decide +kernel), List.mem_of_getElem? (i := 620) (by decide +kernel), List.mem_of_getElem? (i := 621) (by decide +kernel)⟩
theorem lw_p20 : lw_okq (⟨"CamPieces", "takeSamples", "()V"⟩, 15) := ⟨⟨by decide +kernel, by decide +kernel⟩, List.mem_of_getElem? (i := 18) (by decide +kernel), List.mem_of_getElem? (i := 633) (by decide +kernel), List.mem_of_getElem? (i := 634) (by decide +kernel)⟩
theorem lw_p21 : lw_okq (⟨"CamPieces", "gapAt", "(III)J"⟩, 15) := ⟨⟨by decide +kernel, by decide +kernel⟩, List.mem_of_getElem? (i := 18) (by decide +kernel), List.mem_of_getElem? (i := 637) (by decide +kernel), List.mem_of_getElem? (i := 638) (by decide +kernel)⟩
theorem lw_p22 : lw_okq (⟨"CamPieces", "sampleAt", "(I)J"⟩, 15) := ⟨⟨by decide +kernel, by decide +kernel⟩, List.mem_of_getElem? (i := 18) (by decide +kernel), List.mem_of_getElem? (i := 650) (by decide +kernel), List.mem_of_getElem? (i := 651) (by decide +kernel)⟩
theorem lw_p23 : lw_okq (⟨"CamPieces", "isErrorWithin", "(II)Z"⟩, 15) := ⟨⟨by decide +kernel, by decide +kernel⟩, List.mem_of_getElem? (i := 18) (by decide +kernel), List.mem_of_getElem? (i := 658) (by decide +kernel), List.mem_of_getElem? (i := 659) (by decide +kernel)⟩
theorem lw_p24 : lw_okq (⟨"CamPieces", "areAngles", "(III)Z"⟩, 15) := ⟨⟨by decide +kernel, by decide +kernel⟩, List.mem_of_getElem? (i := 18) (by decide +kernel), List.mem_of_getElem? (i := 677) (by decide +kernel), List.mem_of_getElem? (i := 678) (by decide +kernel)⟩
theorem lw_p25 : lw_okq (⟨"CamPieces", "isSeenBy", "(IIIII)Z"⟩, 15) := ⟨⟨by decide +kernel, by decide +kernel⟩, List.mem_of_getElem? (i := 18) (by decide +kernel), List.mem_of_getElem? (i := 700) (by decide +kernel), List.mem_of_getElem? (i := 701) (by decide +kernel)⟩
theorem lw_p26 : lw_okq (⟨"CamPieces$Reader", "readPiece", "()Z"⟩, 8) := ⟨⟨by decide +kernel, by decide +kernel⟩, List.mem_of_getElem? (i := 46) (by decide +kernel), List.mem_of_getElem? (i := 738) (by decide +kernel), List.mem_of_getElem? (i := 739) (by decide +kernel)⟩
theorem lw_p27 : lw_okq (⟨"CamPieces$Reader", "readKind", "()I"⟩, 8) := ⟨⟨by decide +kernel, by decide +kernel⟩, List.mem_of_getElem? (i := 46) (by decide +kernel), List.mem_of_getElem? (i := 742) (by decide +kernel), List.mem_of_getElem? (i := 743) (by decide +kernel)⟩
theorem lw_p28 : lw_okq (⟨"CamPieces$Reader", "byteHere", "()I"⟩, 8) := ⟨⟨by decide +kernel, by decide +kernel⟩, List.mem_of_getElem? (i := 46) (by decide +kernel), List.mem_of_getElem? (i := 746) (by decide +kernel), List.mem_of_getElem? (i := 747) (by decide +kernel)⟩
theorem lw_p29 : lw_okq (⟨"CamPieces$Reader", "isWord", "(IILjava/lang/String;)Z"⟩, 8) := ⟨⟨by decide +kernel, by decide +kernel⟩, List.mem_of_getElem? (i := 46) (by decide +kernel), List.mem_of_getElem? (i := 760) (by decide +kernel), List.mem_of_getElem? (i := 761) (by decide +kernel)⟩
theorem lw_p30 : lw_okq (⟨"CamPieces$Reader", "fail", "(II)Z"⟩, 8) := ⟨⟨by decide +kernel, by decide +kernel⟩, List.mem_of_getElem? (i := 46) (by decide +kernel), List.mem_of_getElem? (i := 812) (by decide +kernel), List.mem_of_getElem? (i := 813) (by decide +kernel)⟩
theorem lw_p31 : lw_okq (⟨"CamPieces$Reader", "readBlank", "()Z"⟩, 8) := ⟨⟨by decide +kernel, by decide +kernel⟩, List.mem_of_getElem? (i := 46) (by decide +kernel), List.mem_of_getElem? (i := 816) (by decide +kernel), List.mem_of_getElem? (i := 817) (by decide +kernel)⟩
def lw_privs_2 : List (MethodName × Nat) := [(⟨"CamPieces$Walk", "stepOn", "(II)V"⟩, 6), (⟨"CamPieces", "cornersAt", "(I)I"⟩, 15), (⟨"CamPieces", "hasCorner", "(I)Z"⟩, 15), (⟨"CamPieces", "sampleHere", "()J"⟩, 15), (⟨"CamPieces", "takeSamples", "()V"⟩, 15), (⟨"CamPieces", "gapAt", "(III)J"⟩, 15), (⟨"CamPieces", "sampleAt", "(I)J"⟩, 15), (⟨"CamPieces", "isErrorWithin", "(II)Z"⟩, 15), (⟨"CamPieces", "areAngles", "(III)Z"⟩, 15), (⟨"CamPieces", "isSeenBy", "(IIIII)Z"⟩, 15), (⟨"CamPieces$Reader", "readPiece", "()Z"⟩, 8), (⟨"CamPieces$Reader", "readKind", "()I"⟩, 8), (⟨"CamPieces$Reader", "byteHere", "()I"⟩, 8), (⟨"CamPieces$Reader", "isWord", "(IILjava/lang/String;)Z"⟩, 8), (⟨"CamPieces$Reader", "fail", "(II)Z"⟩, 8), (⟨"CamPieces$Reader", "readBlank", "()Z"⟩, 8)]
theorem lw_r2 : ∀ q ∈ lw_privs_2, lw_okq q := List.forall_mem_cons.mpr ⟨lw_p16, List.forall_mem_cons.mpr ⟨lw_p17, List.forall_mem_cons.mpr ⟨lw_p18, List.forall_mem_cons.mpr ⟨lw_p19, List.forall_mem_cons.mpr ⟨lw_p20, List.forall_mem_cons.mpr ⟨lw_p21, List.forall_mem_cons.mpr ⟨lw_p22, List.forall_mem_cons.mpr ⟨lw_p23, List.forall_mem_cons.mpr ⟨lw_p24, List.forall_mem_cons.mpr ⟨lw_p25, List.forall_mem_cons.mpr ⟨lw_p26, List.forall_mem_cons.mpr ⟨lw_p27, List.forall_mem_cons.mpr ⟨lw_p28, List.forall_mem_cons.mpr ⟨lw_p29, List.forall_mem_cons.mpr ⟨lw_p30, List.forall_mem_cons.mpr ⟨lw_p31, fun _ h => absurd h List.not_mem_nil⟩⟩⟩⟩⟩⟩⟩⟩⟩⟩⟩⟩⟩⟩⟩⟩
theorem lw_p32 : lw_okq (⟨"CamPieces$Reader", "readFigures", "(I)I"⟩, 8) := ⟨⟨by decide +kernel, by decide +kernel⟩, List.mem_of_getElem? (i := 46) (by decide +kernel), List.mem_of_getElem? (i := 820) (by decide +kernel), List.mem_of_getElem? (i := 821) (by decide +kernel)⟩
theorem lw_p33 : lw_okq (⟨"CamPieces$Reader", "readRise", "()I"⟩, 8) := ⟨⟨by decide +kernel, by decide +kernel⟩, List.mem_of_getElem? (i := 46) (by decide +kernel), List.mem_of_getElem? (i := 824) (by decide +kernel), List.mem_of_getElem? (i := 825) (by decide +kernel)⟩
theorem lw_p34 : lw_okq (⟨"CamPieces$Reader", "keep", "(III)V"⟩, 8) := ⟨⟨by decide +kernel, by decide +kernel⟩, List.mem_of_getElem? (i := 46) (by decide +kernel), List.mem_of_getElem? (i := 828) (by decide +kernel), List.mem_of_getElem? (i := 829) (by decide +kernel)⟩
theorem lw_p35 : lw_okq (⟨"CamPiecesModel", "total", "()I"⟩, 35) := ⟨⟨by decide +kernel, by decide +kernel⟩, List.mem_of_getElem? (i := 871) (by decide +kernel), List.mem_of_getElem? (i := 997) (by decide +kernel), List.mem_of_getElem? (i := 998) (by decide +kernel)⟩
theorem lw_p36 : lw_okq (⟨"CamPiecesModel", "isPiece", "(I)Z"⟩, 35) := ⟨⟨by decide +kernel, by decide +kernel⟩, List.mem_of_getElem? (i := 871) (by decide +kernel), List.mem_of_getElem? (i := 1009) (by decide +kernel), List.mem_of_getElem? (i := 1010) (by decide +kernel)⟩
theorem lw_p37 : lw_okq (⟨"CamPiecesModel", "begin", "(I)I"⟩, 35) := ⟨⟨by decide +kernel, by decide +kernel⟩, List.mem_of_getElem? (i := 871) (by decide +kernel), List.mem_of_getElem? (i := 1019) (by decide +kernel), List.mem_of_getElem? (i := 1020) (by decide +kernel)⟩
theorem lw_p38 : lw_okq (⟨"CamPiecesModel", "ahead", "(I)I"⟩, 35) := ⟨⟨by decide +kernel, by decide +kernel⟩, List.mem_of_getElem? (i := 871) (by decide +kernel), List.mem_of_getElem? (i := 1023) (by decide +kernel), List.mem_of_getElem? (i := 1024) (by decide +kernel)⟩
theorem lw_p39 : lw_okq (⟨"CamPiecesModel", "isClosed", "()Z"⟩, 35) := ⟨⟨by decide +kernel, by decide +kernel⟩, List.mem_of_getElem? (i := 871) (by decide +kernel), List.mem_of_getElem? (i := 1036) (by decide +kernel), List.mem_of_getElem? (i := 1037) (by decide +kernel)⟩
theorem lw_p40 : lw_okq (⟨"CamPiecesModel", "areAlike", "(II)Z"⟩, 35) := ⟨⟨by decide +kernel, by decide +kernel⟩, List.mem_of_getElem? (i := 871) (by decide +kernel), List.mem_of_getElem? (i := 1051) (by decide +kernel), List.mem_of_getElem? (i := 1052) (by decide +kernel)⟩
theorem lw_p41 : lw_okq (⟨"CamPiecesModel", "looks", "(II)Z"⟩, 35) := ⟨⟨by decide +kernel, by decide +kernel⟩, List.mem_of_getElem? (i := 871) (by decide +kernel), List.mem_of_getElem? (i := 1068) (by decide +kernel), List.mem_of_getElem? (i := 1069) (by decide +kernel)⟩
theorem lw_p42 : lw_okq (⟨"CamPiecesModel", "finds", "(II)Z"⟩, 35) := ⟨⟨by decide +kernel, by decide +kernel⟩, List.mem_of_getElem? (i := 871) (by decide +kernel), List.mem_of_getElem? (i := 1072) (by decide +kernel), List.mem_of_getElem? (i := 1073) (by decide +kernel)⟩
theorem lw_p43 : lw_okq (⟨"CamPiecesModel", "isAngle", "(I)Z"⟩, 35) := ⟨⟨by decide +kernel, by decide +kernel⟩, List.mem_of_getElem? (i := 871) (by decide +kernel), List.mem_of_getElem? (i := 1076) (by decide +kernel), List.mem_of_getElem? (i := 1077) (by decide +kernel)⟩
theorem lw_p44 : lw_okq (⟨"CamPiecesModel", "isJoin", "(I)Z"⟩, 35) := ⟨⟨by decide +kernel, by decide +kernel⟩, List.mem_of_getElem? (i := 871) (by decide +kernel), List.mem_of_getElem? (i := 1114) (by decide +kernel), List.mem_of_getElem? (i := 1115) (by decide +kernel)⟩
theorem lw_p45 : lw_okq (⟨"CamPiecesModel", "jumps", "(II)V"⟩, 35) := ⟨⟨by decide +kernel, by decide +kernel⟩, List.mem_of_getElem? (i := 871) (by decide +kernel), List.mem_of_getElem? (i := 1118) (by decide +kernel), List.mem_of_getElem? (i := 1119) (by decide +kernel)⟩
theorem lw_p46 : lw_okq (⟨"CamPiecesModel", "joinOf", "(I)I"⟩, 35) := ⟨⟨by decide +kernel, by decide +kernel⟩, List.mem_of_getElem? (i := 871) (by decide +kernel), List.mem_of_getElem? (i := 1126) (by decide +kernel), List.mem_of_getElem? (i := 1127) (by decide +kernel)⟩
theorem lw_p47 : lw_okq (⟨"CamPiecesModel", "curveNow", "()J"⟩, 35) := ⟨⟨by decide +kernel, by decide +kernel⟩, List.mem_of_getElem? (i := 871) (by decide +kernel), List.mem_of_getElem? (i := 1146) (by decide +kernel), List.mem_of_getElem? (i := 1147) (by decide +kernel)⟩
def lw_privs_3 : List (MethodName × Nat) := [(⟨"CamPieces$Reader", "readFigures", "(I)I"⟩, 8), (⟨"CamPieces$Reader", "readRise", "()I"⟩, 8), (⟨"CamPieces$Reader", "keep", "(III)V"⟩, 8), (⟨"CamPiecesModel", "total", "()I"⟩, 35), (⟨"CamPiecesModel", "isPiece", "(I)Z"⟩, 35), (⟨"CamPiecesModel", "begin", "(I)I"⟩, 35), (⟨"CamPiecesModel", "ahead", "(I)I"⟩, 35), (⟨"CamPiecesModel", "isClosed", "()Z"⟩, 35), (⟨"CamPiecesModel", "areAlike", "(II)Z"⟩, 35), (⟨"CamPiecesModel", "looks", "(II)Z"⟩, 35), (⟨"CamPiecesModel", "finds", "(II)Z"⟩, 35), (⟨"CamPiecesModel", "isAngle", "(I)Z"⟩, 35), (⟨"CamPiecesModel", "isJoin", "(I)Z"⟩, 35), (⟨"CamPiecesModel", "jumps", "(II)V"⟩, 35), (⟨"CamPiecesModel", "joinOf", "(I)I"⟩, 35), (⟨"CamPiecesModel", "curveNow", "()J"⟩, 35)]
theorem lw_r3 : ∀ q ∈ lw_privs_3, lw_okq q := List.forall_mem_cons.mpr ⟨lw_p32, List.forall_mem_cons.mpr ⟨lw_p33, List.forall_mem_cons.mpr ⟨lw_p34, List.forall_mem_cons.mpr ⟨lw_p35, List.forall_mem_cons.mpr ⟨lw_p36, List.forall_mem_cons.mpr ⟨lw_p37, List.forall_mem_cons.mpr ⟨lw_p38, List.forall_mem_cons.mpr ⟨lw_p39, List.forall_mem_cons.mpr ⟨lw_p40, List.forall_mem_cons.mpr ⟨lw_p41, List.forall_mem_cons.mpr ⟨lw_p42, List.forall_mem_cons.mpr ⟨lw_p43, List.forall_mem_cons.mpr ⟨lw_p44, List.forall_mem_cons.mpr ⟨lw_p45, List.forall_mem_cons.mpr ⟨lw_p46, List.forall_mem_cons.mpr ⟨lw_p47, fun _ h => absurd h List.not_mem_nil⟩⟩⟩⟩⟩⟩⟩⟩⟩⟩⟩⟩⟩⟩⟩⟩
theorem lw_p48 : lw_okq (⟨"CamPiecesModel", "forceNow", "(II)J"⟩, 35) := ⟨⟨by decide +kernel, by decide +kernel⟩, List.mem_of_getElem? (i := 871) (by decide +kernel), List.mem_of_getElem? (i := 1160) (by decide +kernel), List.mem_of_getElem? (i := 1161) (by decide +kernel)⟩
theorem lw_p49 : lw_okq (⟨"CamPiecesModel", "isSo", "(II)Z"⟩, 35) := ⟨⟨by decide +kernel, by decide +kernel⟩, List.mem_of_getElem? (i := 871) (by decide +kernel), List.mem_of_getElem? (i := 1168) (by decide +kernel), List.mem_of_getElem? (i := 1169) (by decide +kernel)⟩
theorem lw_p50 : lw_okq (⟨"CamPiecesModel", "leastAbove", "(Z)I"⟩, 35) := ⟨⟨by decide +kernel, by decide +kernel⟩, List.mem_of_getElem? (i := 871) (by decide +kernel), List.mem_of_getElem? (i := 1176) (by decide +kernel), List.mem_of_getElem? (i := 1177) (by decide +kernel)⟩
theorem lw_p51 : lw_okq (⟨"CamPiecesModel", "isGentle", "(II)Z"⟩, 35) := ⟨⟨by decide +kernel, by decide +kernel⟩, List.mem_of_getElem? (i := 871) (by decide +kernel), List.mem_of_getElem? (i := 1199) (by decide +kernel), List.mem_of_getElem? (i := 1200) (by decide +kernel)⟩
theorem lw_p52 : lw_okq (⟨"CamPiecesModel", "floatsAt", "(III)Z"⟩, 35) := ⟨⟨by decide +kernel, by decide +kernel⟩, List.mem_of_getElem? (i := 871) (by decide +kernel), List.mem_of_getElem? (i := 1208) (by decide +kernel), List.mem_of_getElem? (i := 1209) (by decide +kernel)⟩
theorem lw_p53 : lw_okq (⟨"CamPiecesModel", "floatsBy", "(II)Z"⟩, 35) := ⟨⟨by decide +kernel, by decide +kernel⟩, List.mem_of_getElem? (i := 871) (by decide +kernel), List.mem_of_getElem? (i := 1216) (by decide +kernel), List.mem_of_getElem? (i := 1217) (by decide +kernel)⟩
theorem lw_p54 : lw_okq (⟨"CamPiecesModel", "hasCorner", "()Z"⟩, 35) := ⟨⟨by decide +kernel, by decide +kernel⟩, List.mem_of_getElem? (i := 871) (by decide +kernel), List.mem_of_getElem? (i := 1234) (by decide +kernel), List.mem_of_getElem? (i := 1235) (by decide +kernel)⟩
theorem lw_p55 : lw_okq (⟨"CamPiecesModel", "sampleAt", "(I)J"⟩, 35) := ⟨⟨by decide +kernel, by decide +kernel⟩, List.mem_of_getElem? (i := 871) (by decide +kernel), List.mem_of_getElem? (i := 1242) (by decide +kernel), List.mem_of_getElem? (i := 1243) (by decide +kernel)⟩
theorem lw_p56 : lw_okq (⟨"CamPiecesModel", "sampleOf", "(IIII)J"⟩, 35) := ⟨⟨by decide +kernel, by decide +kernel⟩, List.mem_of_getElem? (i := 871) (by decide +kernel), List.mem_of_getElem? (i := 1246) (by decide +kernel), List.mem_of_getElem? (i := 1247) (by decide +kernel)⟩
theorem lw_p57 : lw_okq (⟨"CamPiecesModel", "errs", "(I)V"⟩, 35) := ⟨⟨by decide +kernel, by decide +kernel⟩, List.mem_of_getElem? (i := 871) (by decide +kernel), List.mem_of_getElem? (i := 1257) (by decide +kernel), List.mem_of_getElem? (i := 1258) (by decide +kernel)⟩
theorem lw_p58 : lw_okq (⟨"CamPiecesModel", "isSeen", "(IIII)Z"⟩, 35) := ⟨⟨by decide +kernel, by decide +kernel⟩, List.mem_of_getElem? (i := 871) (by decide +kernel), List.mem_of_getElem? (i := 1277) (by decide +kernel), List.mem_of_getElem? (i := 1278) (by decide +kernel)⟩
theorem lw_p59 : lw_okq (⟨"CamPiecesModel", "pieceRead", "()V"⟩, 35) := ⟨⟨by decide +kernel, by decide +kernel⟩, List.mem_of_getElem? (i := 871) (by decide +kernel), List.mem_of_getElem? (i := 1294) (by decide +kernel), List.mem_of_getElem? (i := 1295) (by decide +kernel)⟩
theorem lw_p60 : lw_okq (⟨"CamPiecesModel", "wordRead", "()I"⟩, 35) := ⟨⟨by decide +kernel, by decide +kernel⟩, List.mem_of_getElem? (i := 871) (by decide +kernel), List.mem_of_getElem? (i := 1298) (by decide +kernel), List.mem_of_getElem? (i := 1299) (by decide +kernel)⟩
theorem lw_p61 : lw_okq (⟨"CamPiecesModel", "byteAt", "(I)I"⟩, 35) := ⟨⟨by decide +kernel, by decide +kernel⟩, List.mem_of_getElem? (i := 871) (by decide +kernel), List.mem_of_getElem? (i := 1302) (by decide +kernel), List.mem_of_getElem? (i := 1303) (by decide +kernel)⟩
theorem lw_p62 : lw_okq (⟨"CamPiecesModel", "isWord", "(II)Z"⟩, 35) := ⟨⟨by decide +kernel, by decide +kernel⟩, List.mem_of_getElem? (i := 871) (by decide +kernel), List.mem_of_getElem? (i := 1308) (by decide +kernel), List.mem_of_getElem? (i := 1309) (by decide +kernel)⟩
theorem lw_p63 : lw_okq (⟨"CamPiecesModel", "fails", "(II)V"⟩, 35) := ⟨⟨by decide +kernel, by decide +kernel⟩, List.mem_of_getElem? (i := 871) (by decide +kernel), List.mem_of_getElem? (i := 1312) (by decide +kernel), List.mem_of_getElem? (i := 1313) (by decide +kernel)⟩
def lw_privs_4 : List (MethodName × Nat) := [(⟨"CamPiecesModel", "forceNow", "(II)J"⟩, 35), (⟨"CamPiecesModel", "isSo", "(II)Z"⟩, 35), (⟨"CamPiecesModel", "leastAbove", "(Z)I"⟩, 35), (⟨"CamPiecesModel", "isGentle", "(II)Z"⟩, 35), (⟨"CamPiecesModel", "floatsAt", "(III)Z"⟩, 35), (⟨"CamPiecesModel", "floatsBy", "(II)Z"⟩, 35), (⟨"CamPiecesModel", "hasCorner", "()Z"⟩, 35), (⟨"CamPiecesModel", "sampleAt", "(I)J"⟩, 35), (⟨"CamPiecesModel", "sampleOf", "(IIII)J"⟩, 35), (⟨"CamPiecesModel", "errs", "(I)V"⟩, 35), (⟨"CamPiecesModel", "isSeen", "(IIII)Z"⟩, 35), (⟨"CamPiecesModel", "pieceRead", "()V"⟩, 35), (⟨"CamPiecesModel", "wordRead", "()I"⟩, 35), (⟨"CamPiecesModel", "byteAt", "(I)I"⟩, 35), (⟨"CamPiecesModel", "isWord", "(II)Z"⟩, 35), (⟨"CamPiecesModel", "fails", "(II)V"⟩, 35)]
theorem lw_r4 : ∀ q ∈ lw_privs_4, lw_okq q := List.forall_mem_cons.mpr ⟨lw_p48, List.forall_mem_cons.mpr ⟨lw_p49, List.forall_mem_cons.mpr ⟨lw_p50, List.forall_mem_cons.mpr ⟨lw_p51, List.forall_mem_cons.mpr ⟨lw_p52, List.forall_mem_cons.mpr ⟨lw_p53, List.forall_mem_cons.mpr ⟨lw_p54, List.forall_mem_cons.mpr ⟨lw_p55, List.forall_mem_cons.mpr ⟨lw_p56, List.forall_mem_cons.mpr ⟨lw_p57, List.forall_mem_cons.mpr ⟨lw_p58, List.forall_mem_cons.mpr ⟨lw_p59, List.forall_mem_cons.mpr ⟨lw_p60, List.forall_mem_cons.mpr ⟨lw_p61, List.forall_mem_cons.mpr ⟨lw_p62, List.forall_mem_cons.mpr ⟨lw_p63, fun _ h => absurd h List.not_mem_nil⟩⟩⟩⟩⟩⟩⟩⟩⟩⟩⟩⟩⟩⟩⟩⟩
theorem lw_p64 : lw_okq (⟨"CamPiecesModel", "takes", "(I)V"⟩, 35) := ⟨⟨by decide +kernel, by decide +kernel⟩, List.mem_of_getElem? (i := 871) (by decide +kernel), List.mem_of_getElem? (i := 1316) (by decide +kernel), List.mem_of_getElem? (i := 1317) (by decide +kernel)⟩
theorem lw_p65 : lw_okq (⟨"CamPiecesModel", "failsHere", "()V"⟩, 35) := ⟨⟨by decide +kernel, by decide +kernel⟩, List.mem_of_getElem? (i := 871) (by decide +kernel), List.mem_of_getElem? (i := 1320) (by decide +kernel), List.mem_of_getElem? (i := 1321) (by decide +kernel)⟩
theorem lw_p66 : lw_okq (⟨"CamPiecesModel", "figures", "(III)I"⟩, 35) := ⟨⟨by decide +kernel, by decide +kernel⟩, List.mem_of_getElem? (i := 871) (by decide +kernel), List.mem_of_getElem? (i := 1324) (by decide +kernel), List.mem_of_getElem? (i := 1325) (by decide +kernel)⟩
theorem lw_p67 : lw_okq (⟨"CamPiecesModel", "isFigure", "(I)Z"⟩, 35) := ⟨⟨by decide +kernel, by decide +kernel⟩, List.mem_of_getElem? (i := 871) (by decide +kernel), List.mem_of_getElem? (i := 1328) (by decide +kernel), List.mem_of_getElem? (i := 1329) (by decide +kernel)⟩
theorem lw_p68 : lw_okq (⟨"CamPiecesModel", "unfit", "()I"⟩, 35) := ⟨⟨by decide +kernel, by decide +kernel⟩, List.mem_of_getElem? (i := 871) (by decide +kernel), List.mem_of_getElem? (i := 1333) (by decide +kernel), List.mem_of_getElem? (i := 1334) (by decide +kernel)⟩
def lw_privs_5 : List (MethodName × Nat) := [(⟨"CamPiecesModel", "takes", "(I)V"⟩, 35), (⟨"CamPiecesModel", "failsHere", "()V"⟩, 35), (⟨"CamPiecesModel", "figures", "(III)I"⟩, 35), (⟨"CamPiecesModel", "isFigure", "(I)Z"⟩, 35), (⟨"CamPiecesModel", "unfit", "()I"⟩, 35)]
theorem lw_r5 : ∀ q ∈ lw_privs_5, lw_okq q := List.forall_mem_cons.mpr ⟨lw_p64, List.forall_mem_cons.mpr ⟨lw_p65, List.forall_mem_cons.mpr ⟨lw_p66, List.forall_mem_cons.mpr ⟨lw_p67, List.forall_mem_cons.mpr ⟨lw_p68, fun _ h => absurd h List.not_mem_nil⟩⟩⟩⟩⟩
def lw_privs : List (MethodName × Nat) := lw_privs_1 ++ (lw_privs_2 ++ (lw_privs_3 ++ (lw_privs_4 ++ (lw_privs_5))))
def lw_tbl : List Cond := k2_sels lw_privs ++ tables_1
theorem lw_privs_ok : ∀ q ∈ lw_privs, lw_okq q := by
  show ∀ q ∈ lw_privs_1 ++ (lw_privs_2 ++ (lw_privs_3 ++ (lw_privs_4 ++ (lw_privs_5)))), lw_okq q
  exact List.forall_mem_append.mpr ⟨lw_r1, List.forall_mem_append.mpr ⟨lw_r2, List.forall_mem_append.mpr ⟨lw_r3, List.forall_mem_append.mpr ⟨lw_r4, lw_r5⟩⟩⟩⟩
end
section
/-! names of the classes, their fields in the order of the slots (out of the printed names), the words of the tables that a contract carries -/
def zTB : List Cond := lw_tbl.filter goodWord
theorem zTB_of {w : Cond} (i : Nat) (h : tables_1[i]? = some w) (g : goodWord w = true) : w ∈ zTB := List.mem_filter.mpr ⟨List.mem_append_right _ (List.mem_of_getElem? h), g⟩
theorem zTB_ofS {w : Cond} (i : Nat) (h : (k2_sels lw_privs)[i]? = some w) (g : goodWord w = true) : w ∈ zTB := List.mem_filter.mpr ⟨List.mem_append_left _ (List.mem_of_getElem? h), g⟩
theorem zTB_in {w : Cond} (h : w ∈ zTB) : w ∈ lw_tbl := (List.mem_filter.mp h).1
theorem zTB_good {w : Cond} (h : w ∈ zTB) : goodWord w = true := (List.mem_filter.mp h).2
theorem zTB_list {ws : List Cond} (ps : List Nat) (hp : ws = ps.filterMap (fun i => tables_1[i]?)) (h : ws.all goodWord = true) : ∀ w ∈ ws, w ∈ zTB := by
  intro w hw
  have h1 := List.all_eq_true.mp h w hw
  rw [hp] at hw
  obtain ⟨i, -, hi⟩ := List.mem_filterMap.mp hw
  exact zTB_of i hi h1
def zIsNest : Cond → Bool
  | .fieldLinkNest .. => true
  | .methodLinkNest .. => true
  | _ => false
def zNW : List Cond := tables_1.filter zIsNest
theorem zNW_of {w : Cond} (i : Nat) (h : tables_1[i]? = some w) (g : zIsNest w = true) : w ∈ zNW := List.mem_filter.mpr ⟨List.mem_of_getElem? h, g⟩
theorem zNW_in {w : Cond} (h : w ∈ zNW) : w ∈ lw_tbl := List.mem_append_right _ (List.mem_filter.mp h).1
theorem zNW_nest {w : Cond} (h : w ∈ zNW) : zIsNest w = true := (List.mem_filter.mp h).2

def RX0 : String := "CamPieces$Range"
def TX0 : u_T := fun k => match k with
  | 0 => ("CamPieces$Range", "least", "J", false)
  | 1 => ("CamPieces$Range", "most", "J", false)
  | _ => ("CamPieces$Range", "isEmpty", "Z", false)
def tyX0 : Nat → FieldType := fun k => match k with
  | 0 => .long
  | 1 => .long
  | _ => .boolean
theorem nmX0 : ∀ a, a < 3 → ∀ b, b < 3 → a ≠ b → (TX0 a).2.1 ≠ (TX0 b).2.1 := by decide +kernel
theorem tyX0_ok : ∀ k, k < 3 → parseFieldDescriptor (TX0 k).2.2.1 = some (tyX0 k) := by decide +kernel
theorem inX0 : ∀ w ∈ u_ws RX0 TX0 3, w ∈ zTB := zTB_list [156, 158, 160] (by decide +kernel) (by decide +kernel)
def RX1 : String := "CamPieces$Ratio"
def TX1 : u_T := fun k => match k with
  | 0 => ("CamPieces$Ratio", "above", "J", false)
  | _ => ("CamPieces$Ratio", "below", "J", false)
def tyX1 : Nat → FieldType := fun k => match k with
  | 0 => .long
  | _ => .long
theorem nmX1 : ∀ a, a < 2 → ∀ b, b < 2 → a ≠ b → (TX1 a).2.1 ≠ (TX1 b).2.1 := by decide +kernel
theorem tyX1_ok : ∀ k, k < 2 → parseFieldDescriptor (TX1 k).2.2.1 = some (tyX1 k) := by decide +kernel
theorem inX1 : ∀ w ∈ u_ws RX1 TX1 2, w ∈ zTB := zTB_list [173, 175] (by decide +kernel) (by decide +kernel)
def RX2 : String := "CamPieces$Reader"
def TX2 : u_T := fun k => match k with
  | 0 => ("CamPieces$Reader", "bytes", "[I", true)
  | 1 => ("CamPieces$Reader", "size", "I", false)
  | 2 => ("CamPieces$Reader", "read", "LCamPieces$Train;", true)
  | 3 => ("CamPieces$Reader", "place", "I", false)
  | 4 => ("CamPieces$Reader", "pieces", "I", false)
  | 5 => ("CamPieces$Reader", "fault", "I", false)
  | 6 => ("CamPieces$Reader", "unfit", "I", false)
  | _ => ("CamPieces$Reader", "cause", "I", false)
def tyX2 : Nat → FieldType := fun k => match k with
  | 0 => .array .int
  | 1 => .int
  | 2 => .object "CamPieces$Train"
  | 3 => .int
  | 4 => .int
  | 5 => .int
  | 6 => .int
  | _ => .int
theorem nmX2 : ∀ a, a < 8 → ∀ b, b < 8 → a ≠ b → (TX2 a).2.1 ≠ (TX2 b).2.1 := by decide +kernel
theorem tyX2_ok : ∀ k, k < 8 → parseFieldDescriptor (TX2 k).2.2.1 = some (tyX2 k) := by decide +kernel
theorem inX2 : ∀ w ∈ u_ws RX2 TX2 8, w ∈ zTB := zTB_list [65, 67, 69, 71, 73, 75, 77, 79] (by decide +kernel) (by decide +kernel)
def RX3 : String := "CamPieces$Rows"
def TX3 : u_T := fun k => match k with
  | 0 => ("CamPieces$Rows", "places", "[J", true)
  | _ => ("CamPieces$Rows", "sizes", "[I", true)
def tyX3 : Nat → FieldType := fun k => match k with
  | 0 => .array .long
  | _ => .array .int
theorem nmX3 : ∀ a, a < 2 → ∀ b, b < 2 → a ≠ b → (TX3 a).2.1 ≠ (TX3 b).2.1 := by decide +kernel
theorem tyX3_ok : ∀ k, k < 2 → parseFieldDescriptor (TX3 k).2.2.1 = some (tyX3 k) := by decide +kernel
theorem inX3 : ∀ w ∈ u_ws RX3 TX3 2, w ∈ zTB := zTB_list [90, 92] (by decide +kernel) (by decide +kernel)
def RX4 : String := "CamPieces$Spot"
def TX4 : u_T := fun k => match k with
  | 0 => ("CamPieces$Spot", "below", "J", false)
  | 1 => ("CamPieces$Spot", "gain", "J", false)
  | 2 => ("CamPieces$Spot", "slope", "J", false)
  | 3 => ("CamPieces$Spot", "bend", "J", false)
  | _ => ("CamPieces$Spot", "base", "J", false)
def tyX4 : Nat → FieldType := fun k => match k with
  | 0 => .long
  | 1 => .long
  | 2 => .long
  | 3 => .long
  | _ => .long
theorem nmX4 : ∀ a, a < 5 → ∀ b, b < 5 → a ≠ b → (TX4 a).2.1 ≠ (TX4 b).2.1 := by decide +kernel
theorem tyX4_ok : ∀ k, k < 5 → parseFieldDescriptor (TX4 k).2.2.1 = some (tyX4 k) := by decide +kernel
theorem inX4 : ∀ w ∈ u_ws RX4 TX4 5, w ∈ zTB := zTB_list [110, 112, 114, 116, 118] (by decide +kernel) (by decide +kernel)
def RX5 : String := "CamPieces$Train"
def TX5 : u_T := fun k => match k with
  | 0 => ("CamPieces$Train", "kinds", "[I", true)
  | 1 => ("CamPieces$Train", "longs", "[I", true)
  | 2 => ("CamPieces$Train", "rises", "[I", true)
  | _ => ("CamPieces$Train", "size", "I", false)
def tyX5 : Nat → FieldType := fun k => match k with
  | 0 => .array .int
  | 1 => .array .int
  | 2 => .array .int
  | _ => .int
theorem nmX5 : ∀ a, a < 4 → ∀ b, b < 4 → a ≠ b → (TX5 a).2.1 ≠ (TX5 b).2.1 := by decide +kernel
theorem tyX5_ok : ∀ k, k < 4 → parseFieldDescriptor (TX5 k).2.2.1 = some (tyX5 k) := by decide +kernel
theorem inX5 : ∀ w ∈ u_ws RX5 TX5 4, w ∈ zTB := zTB_list [35, 37, 39, 41] (by decide +kernel) (by decide +kernel)
def RX6 : String := "CamPieces$Walk"
def TX6 : u_T := fun k => match k with
  | 0 => ("CamPieces$Walk", "angle", "I", false)
  | 1 => ("CamPieces$Walk", "index", "I", false)
  | 2 => ("CamPieces$Walk", "begin", "I", false)
  | 3 => ("CamPieces$Walk", "base", "I", false)
  | 4 => ("CamPieces$Walk", "u", "I", false)
  | _ => ("CamPieces$Walk", "isClosed", "Z", false)
def tyX6 : Nat → FieldType := fun k => match k with
  | 0 => .int
  | 1 => .int
  | 2 => .int
  | 3 => .int
  | 4 => .int
  | _ => .boolean
theorem nmX6 : ∀ a, a < 6 → ∀ b, b < 6 → a ≠ b → (TX6 a).2.1 ≠ (TX6 b).2.1 := by decide +kernel
theorem tyX6_ok : ∀ k, k < 6 → parseFieldDescriptor (TX6 k).2.2.1 = some (tyX6 k) := by decide +kernel
theorem inX6 : ∀ w ∈ u_ws RX6 TX6 6, w ∈ zTB := zTB_list [134, 136, 138, 140, 142, 144] (by decide +kernel) (by decide +kernel)
def RX7 : String := "CamPieces"
def TX7 : u_T := fun k => match k with
  | 0 => ("CamPieces", "train", "LCamPieces$Train;", true)
  | 1 => ("CamPieces", "settings", "[I", true)
  | 2 => ("CamPieces", "pictured", "LCamPieces$Train;", true)
  | 3 => ("CamPieces", "picturedSettings", "[I", true)
  | 4 => ("CamPieces", "isPictured", "Z", false)
  | 5 => ("CamPieces", "reader", "LCamPieces$Reader;", true)
  | 6 => ("CamPieces", "latestCause", "I", false)
  | 7 => ("CamPieces", "rows", "LCamPieces$Rows;", true)
  | 8 => ("CamPieces", "spot", "LCamPieces$Spot;", true)
  | 9 => ("CamPieces", "walk", "LCamPieces$Walk;", true)
  | 10 => ("CamPieces", "range", "LCamPieces$Range;", true)
  | 11 => ("CamPieces", "ratio", "LCamPieces$Ratio;", true)
  | 12 => ("CamPieces", "ratioAhead", "LCamPieces$Ratio;", true)
  | 13 => ("CamPieces", "samples", "[J", true)
  | _ => ("CamPieces", "corners", "[I", true)
def tyX7 : Nat → FieldType := fun k => match k with
  | 0 => .object "CamPieces$Train"
  | 1 => .array .int
  | 2 => .object "CamPieces$Train"
  | 3 => .array .int
  | 4 => .boolean
  | 5 => .object "CamPieces$Reader"
  | 6 => .int
  | 7 => .object "CamPieces$Rows"
  | 8 => .object "CamPieces$Spot"
  | 9 => .object "CamPieces$Walk"
  | 10 => .object "CamPieces$Range"
  | 11 => .object "CamPieces$Ratio"
  | 12 => .object "CamPieces$Ratio"
  | 13 => .array .long
  | _ => .array .int
theorem nmX7 : ∀ a, a < 15 → ∀ b, b < 15 → a ≠ b → (TX7 a).2.1 ≠ (TX7 b).2.1 := by decide +kernel
theorem tyX7_ok : ∀ k, k < 15 → parseFieldDescriptor (TX7 k).2.2.1 = some (tyX7 k) := by decide +kernel
theorem inX7 : ∀ w ∈ u_ws RX7 TX7 15, w ∈ zTB := zTB_list [204, 206, 208, 210, 212, 214, 216, 218, 220, 222, 224, 226, 228, 230, 232] (by decide +kernel) (by decide +kernel)
def RX8 : String := "CamPiecesModel"
def TX8 : u_T := fun k => match k with
  | 0 => ("CamPiecesModel", "pieces", "I", false)
  | 1 => ("CamPiecesModel", "kinds", "[I", true)
  | 2 => ("CamPiecesModel", "lengths", "[I", true)
  | 3 => ("CamPiecesModel", "rises", "[I", true)
  | 4 => ("CamPiecesModel", "numbers", "[I", true)
  | 5 => ("CamPiecesModel", "leasts", "[I", true)
  | 6 => ("CamPiecesModel", "mosts", "[I", true)
  | 7 => ("CamPiecesModel", "here", "I", false)
  | 8 => ("CamPiecesModel", "far", "I", false)
  | 9 => ("CamPiecesModel", "lift", "J", false)
  | 10 => ("CamPiecesModel", "slope", "J", false)
  | 11 => ("CamPiecesModel", "bend", "J", false)
  | 12 => ("CamPiecesModel", "over", "J", false)
  | 13 => ("CamPiecesModel", "above", "J", false)
  | 14 => ("CamPiecesModel", "below", "J", false)
  | 15 => ("CamPiecesModel", "kindsWere", "[I", true)
  | 16 => ("CamPiecesModel", "samples", "[J", true)
  | 17 => ("CamPiecesModel", "tape", "[I", true)
  | 18 => ("CamPiecesModel", "taped", "I", false)
  | 19 => ("CamPiecesModel", "at", "I", false)
  | 20 => ("CamPiecesModel", "fault", "I", false)
  | 21 => ("CamPiecesModel", "why", "I", false)
  | 22 => ("CamPiecesModel", "cause", "I", false)
  | 23 => ("CamPiecesModel", "camPieces", "I", false)
  | 24 => ("CamPiecesModel", "camKinds", "[I", true)
  | 25 => ("CamPiecesModel", "camLengths", "[I", true)
  | 26 => ("CamPiecesModel", "camRises", "[I", true)
  | 27 => ("CamPiecesModel", "words", "[I", true)
  | 28 => ("CamPiecesModel", "sizes", "[I", true)
  | 29 => ("CamPiecesModel", "items", "[J", true)
  | 30 => ("CamPiecesModel", "imaged", "I", false)
  | 31 => ("CamPiecesModel", "imageKinds", "[I", true)
  | 32 => ("CamPiecesModel", "imageLengths", "[I", true)
  | 33 => ("CamPiecesModel", "imageRises", "[I", true)
  | _ => ("CamPiecesModel", "imageNumbers", "[I", true)
def tyX8 : Nat → FieldType := fun k => match k with
  | 0 => .int
  | 1 => .array .int
  | 2 => .array .int
  | 3 => .array .int
  | 4 => .array .int
  | 5 => .array .int
  | 6 => .array .int
  | 7 => .int
  | 8 => .int
  | 9 => .long
  | 10 => .long
  | 11 => .long
  | 12 => .long
  | 13 => .long
  | 14 => .long
  | 15 => .array .int
  | 16 => .array .long
  | 17 => .array .int
  | 18 => .int
  | 19 => .int
  | 20 => .int
  | 21 => .int
  | 22 => .int
  | 23 => .int
  | 24 => .array .int
  | 25 => .array .int
  | 26 => .array .int
  | 27 => .array .int
  | 28 => .array .int
  | 29 => .array .long
  | 30 => .int
  | 31 => .array .int
  | 32 => .array .int
  | 33 => .array .int
  | _ => .array .int
theorem nmX8 : ∀ a, a < 35 → ∀ b, b < 35 → a ≠ b → (TX8 a).2.1 ≠ (TX8 b).2.1 := by decide +kernel
theorem tyX8_ok : ∀ k, k < 35 → parseFieldDescriptor (TX8 k).2.2.1 = some (tyX8 k) := by decide +kernel
theorem inX8 : ∀ w ∈ u_ws RX8 TX8 35, w ∈ zTB := zTB_list [911, 913, 915, 917, 919, 921, 923, 925, 927, 929, 931, 933, 935, 937, 939, 941, 943, 945, 947, 949, 951, 953, 955, 957, 959, 961, 963, 965, 967, 969, 971, 973, 975, 977, 979] (by decide +kernel) (by decide +kernel)
abbrev zCls : List vw_C := [(RX0, TX0, 3), (RX1, TX1, 2), (RX2, TX2, 8), (RX3, TX3, 2), (RX4, TX4, 5), (RX5, TX5, 4), (RX6, TX6, 6), (RX7, TX7, 15), (RX8, TX8, 35)]
end
section
/-! A SMALL MACHINE OVER THE KIT: worlds by number. A world is a list of cells; a reference is a cell's place in it; 'ad' says where each lies. Z: the method, at this instruction, with these locals, this stack and this world, comes to its end with Q. -/
abbrev zRo : Type := (Nat × (Nat → Int32)) ⊕ ((Nat × (Nat → Int32)) ⊕ ((Nat × Nat) ⊕ ((List (String × String × String × Value)) ⊕ Unit)))
abbrev zE : Type := (Nat × List Value) ⊕ ((Nat × (Nat → Int32)) ⊕ ((Nat × (Nat → Int64)) ⊕ zRo))
abbrev zO (c : Nat) (fs : List Value) : zE := .inl (c, fs)
abbrev zI (n : Nat) (f : Nat → Int32) : zE := .inr (.inl (n, f))
abbrev zL (n : Nat) (f : Nat → Int64) : zE := .inr (.inr (.inl (n, f)))
abbrev zR (n : Nat) (f : Nat → Int32) : zE := .inr (.inr (.inr (.inl (n, f))))
abbrev zRb (n : Nat) (f : Nat → Int32) : zE := .inr (.inr (.inr (.inr (.inl (n, f)))))
abbrev zS (k j : Nat) : zE := .inr (.inr (.inr (.inr (.inr (.inl (k, j))))))
abbrev zT (l : List (String × String × String × Value)) : zE := .inr (.inr (.inr (.inr (.inr (.inr (.inl l))))))
abbrev zU : zE := .inr (.inr (.inr (.inr (.inr (.inr (.inr ()))))))
def zrw : zE → Bool
  | .inl _ => true
  | .inr (.inl _) => true
  | .inr (.inr (.inl _)) => true
  | .inr (.inr (.inr _)) => false
def zv (ad : Nat → Nat) : Value → Value
  | .ref i => .ref (ad i)
  | v => v
def zq (ad : Nat → Nat) (q : Nat × Value) : Nat × Value := (q.1, zv ad q.2)
/-- the texts of the String constants, and their entries in the Reader's file -/
def zStr : List (String × Nat) := [("dwell", 98), ("line", 102), ("start", 104), ("stop", 106), ("cubic", 108), ("quintic", 110)]
def zat (D : va_G) (cI cL : ClassId) (ad : Nat → Nat) (A : Nat → Prop) (U : State) (H : Heap) (a : Nat) : zE → Prop
  | .inl o => A a ∧ ∃ r : vw_C, zCls[o.1]? = some r ∧ t_OB a (D.1 o.1) r.2.2 (D.2 o.1) H (vp_V (o.2.map (zv ad)))
  | .inr (.inl x) => A a ∧ H[a]? = some (vp_cell cI (x.1, .inl x.2))
  | .inr (.inr (.inl x)) => A a ∧ H[a]? = some (vp_cell cL (x.1, .inr (.inl x.2)))
  | .inr (.inr (.inr (.inl x))) => va_T .int a x.1 (fun j => .int (x.2 j)) A U H
  | .inr (.inr (.inr (.inr (.inl x)))) => va_T .byte a x.1 (fun j => .int (x.2 j)) A U H
  | .inr (.inr (.inr (.inr (.inr (.inl x))))) => (∀ st : String × Nat, zStr[x.1]? = some st → vk_R "CamPieces$Reader" st.2 st.1 a U) ∧ va_O "java/lang/String" a A U H ∧ va_OF "java/lang/String" "coder" "B" (.int 0) a A U H ∧ va_OF "java/lang/String" "value" "[B" (.ref (ad x.2)) a A U H
  | .inr (.inr (.inr (.inr (.inr (.inr (.inl l)))))) => (∀ q ∈ l, va_Z q.1 q.2.1 q.2.2.1 (zv ad q.2.2.2) A U H) ∧ a < H.size ∧ ¬ A a
  | .inr (.inr (.inr (.inr (.inr (.inr (.inr _)))))) => a < H.size ∧ ¬ A a
theorem zat_lt {D : va_G} {cI cL : ClassId} {ad : Nat → Nat} {A : Nat → Prop} {U : State} {H : Heap} {a : Nat} {e : zE} (h : zat D cI cL ad A U H a e) : a < H.size := by
  rcases e with o | x | x | x | x | x | x | x
  · obtain ⟨-, r, -, cell, h2, -⟩ := h
    exact (Array.getElem?_eq_some_iff.mp h2).1
  · exact (Array.getElem?_eq_some_iff.mp h.2).1
  · exact (Array.getElem?_eq_some_iff.mp h.2).1
  · obtain ⟨cell, h1, -⟩ := h
    exact (Array.getElem?_eq_some_iff.mp h1).1
  · obtain ⟨cell, h1, -⟩ := h
    exact (Array.getElem?_eq_some_iff.mp h1).1
  · obtain ⟨-, ⟨cell, h1, -⟩, -⟩ := h
    exact (Array.getElem?_eq_some_iff.mp h1).1
  · exact h.2.1
  · exact h.1
theorem zat_in {D : va_G} {cI cL : ClassId} {ad : Nat → Nat} {A : Nat → Prop} {U : State} {H : Heap} {a : Nat} {e : zE} (h : zat D cI cL ad A U H a e) (he : zrw e = true) : A a := by
  rcases e with o | x | x | x | x | x | x | x
  · exact h.1
  · exact h.1
  · exact h.1
  all_goals (cases he)
theorem zat_out {D : va_G} {cI cL : ClassId} {ad : Nat → Nat} {A : Nat → Prop} {U : State} {H : Heap} {a : Nat} {e : zE} (h : zat D cI cL ad A U H a e) (he : zrw e = false) : ¬ A a := by
  rcases e with o | x | x | x | x | x | x | x
  · cases he
  · cases he
  · cases he
  · exact h.out
  · exact h.out
  · obtain ⟨-, ⟨cell, h1, h2, h3, h4⟩, -⟩ := h
    exact h4
  · exact h.2.2
  · exact h.2
/-- the world goes on through a heap that keeps what it doesn't own -/
theorem zat_kept {D : va_G} {cI cL : ClassId} {ad : Nat → Nat} {A : Nat → Prop} {U : State} {H H1 : Heap} {a : Nat} {e : zE} (h : zat D cI cL ad A U H a e) (hz : H.size ≤ H1.size) (hq : ∀ q : Nat, q < H.size → ¬ A q → H1[q]? = H[q]?) (ha : zrw e = true → H1[a]? = H[a]?) : zat D cI cL ad A U H1 a e := by
  rcases e with o | x | x | x | x | x | x | x
  · obtain ⟨h0, r, h1, h2⟩ := h
    exact ⟨h0, r, h1, h2.kept (ha rfl)⟩
  · exact ⟨h.1, (ha rfl).trans h.2⟩
  · exact ⟨h.1, (ha rfl).trans h.2⟩
  · exact va_T.kept h hq
  · exact va_T.kept h hq
  · exact ⟨h.1, h.2.1.kept hq, h.2.2.1.kept hq, h.2.2.2.kept hq⟩
  · exact ⟨fun q hq2 => (h.1 q hq2).kept hq, Nat.lt_of_lt_of_le h.2.1 hz, h.2.2⟩
  · exact ⟨Nat.lt_of_lt_of_le h.1 hz, h.2⟩
theorem zat_moved {D : va_G} {cI cL : ClassId} {ad : Nat → Nat} {A : Nat → Prop} {u U : State} {H : Heap} {a : Nat} {e : zE} (hW : u.WarmedH U.vm) (h : zat D cI cL ad A u H a e) : zat D cI cL ad A U H a e := by
  rcases e with o | x | x | x | x | x | x | x
  · exact h
  · exact h
  · exact h
  · exact va_T.moved hW.alike h
  · exact va_T.moved hW.alike h
  · exact ⟨fun st hst => (h.1 st hst).warm hW, h.2.1.moved hW.alike, h.2.2.1.moved hW.alike, h.2.2.2.moved hW.alike⟩
  · exact ⟨fun q hq2 => (h.1 q hq2).moved hW.alike, h.2⟩
  · exact h
/-- the same tables, another state -/
theorem zat_same {D : va_G} {cI cL : ClassId} {ad : Nat → Nat} {A : Nat → Prop} {u U : State} {H : Heap} {a : Nat} {e : zE} (hvm : u.vm = U.vm) (h : zat D cI cL ad A u H a e) : zat D cI cL ad A U H a e := by
  have hA : u.vm.Alike U.vm := by rw [← hvm]; exact Vm.Alike.refl u.vm
  rcases e with o | x | x | x | x | x | x | x
  · exact h
  · exact h
  · exact h
  · exact va_T.moved hA h
  · exact va_T.moved hA h
  · exact ⟨fun st hst => (h.1 st hst).same hvm.symm, h.2.1.moved hA, h.2.2.1.moved hA, h.2.2.2.moved hA⟩
  · exact ⟨fun q hq2 => (h.1 q hq2).moved hA, h.2⟩
  · exact h
/-- another set of the cells that may be written -/
theorem zat_area {D : va_G} {cI cL : ClassId} {ad : Nat → Nat} {A B : Nat → Prop} {U : State} {H : Heap} {a : Nat} {e : zE} (h : zat D cI cL ad A U H a e) (hr : ∀ q, q < H.size → ¬ A q → ¬ B q) (ha : zrw e = true → B a) : zat D cI cL ad B U H a e := by
  rcases e with o | x | x | x | x | x | x | x
  · exact ⟨ha rfl, h.2⟩
  · exact ⟨ha rfl, h.2⟩
  · exact ⟨ha rfl, h.2⟩
  · obtain ⟨cell, h1, h2, h3, h4, h5, h6, h7⟩ := h
    exact ⟨cell, h1, h2, h3, h4, h5, h6, hr _ (Array.getElem?_eq_some_iff.mp h1).1 h7⟩
  · obtain ⟨cell, h1, h2, h3, h4, h5, h6, h7⟩ := h
    exact ⟨cell, h1, h2, h3, h4, h5, h6, hr _ (Array.getElem?_eq_some_iff.mp h1).1 h7⟩
  · obtain ⟨h0, ⟨c1, p1, p2, p3, p4⟩, ⟨cf, k, i, f, c2, q1, q2, q3, q4, q5, q6⟩, ⟨cf', k', i', f', c3, r1, r2, r3, r4, r5, r6⟩⟩ := h
    exact ⟨h0, ⟨c1, p1, p2, p3, hr _ (Array.getElem?_eq_some_iff.mp p1).1 p4⟩, ⟨cf, k, i, f, c2, q1, q2, q3, q4, q5, hr _ (Array.getElem?_eq_some_iff.mp q3).1 q6⟩, ⟨cf', k', i', f', c3, r1, r2, r3, r4, r5, hr _ (Array.getElem?_eq_some_iff.mp r3).1 r6⟩⟩
  · refine ⟨fun q hq2 => ?_, h.2.1, hr _ h.2.1 h.2.2⟩
    obtain ⟨cf, kf, fi, f, a', cell, g1, g2, g3, g4, g5, g6, g7, g8⟩ := h.1 q hq2
    exact ⟨cf, kf, fi, f, a', cell, g1, g2, g3, g4, g5, g6, g7, hr _ (Array.getElem?_eq_some_iff.mp g5).1 g8⟩
  · exact ⟨h.1, hr _ h.1 h.2⟩
def zW (D : va_G) (cI cL : ClassId) (ad : Nat → Nat) (A : Nat → Prop) (U : State) (H : Heap) (mem : List zE) : Prop :=
  (∀ (k : Nat) (e : zE), mem[k]? = some e → zat D cI cL ad A U H (ad k) e) ∧ ∀ (i j : Nat) (x y : zE), mem[i]? = some x → mem[j]? = some y → zrw x = true → zrw y = true → ad i = ad j → i = j
theorem zW.set {D : va_G} {cI cL : ClassId} {ad : Nat → Nat} {A : Nat → Prop} {U : State} {H H1 : Heap} {mem : List zE} {k : Nat} {e0 e1 : zE} (h : zW D cI cL ad A U H mem) (hk : mem[k]? = some e0) (h0 : zrw e0 = true) (he : zat D cI cL ad A U H1 (ad k) e1) (h1 : zrw e1 = true) (z : H1.size = H.size) (oq : ∀ q : Nat, q ≠ ad k → H1[q]? = H[q]?) : zW D cI cL ad A U H1 (mem.set k e1) := by
  have hl := (List.getElem?_eq_some_iff.mp hk).1
  have hA : A (ad k) := zat_in (h.1 k e0 hk) h0
  refine ⟨fun j e hj => ?_, fun i j x y hi hj hx hy hxy => ?_⟩
  · by_cases hjk : j = k
    · subst hjk
      rw [List.getElem?_set_self hl] at hj
      cases hj
      exact he
    · rw [List.getElem?_set_ne (Ne.symm hjk)] at hj
      refine zat_kept (h.1 j e hj) (by omega) (fun q _ hq => oq q (fun z => hq (z ▸ hA))) (fun hr => oq _ (fun z => hjk (h.2 j k e e0 hj hk hr h0 z)))
  · have key : ∀ (n : Nat) (w : zE), (mem.set k e1)[n]? = some w → ∃ w0, mem[n]? = some w0 ∧ (zrw w = true → zrw w0 = true) := by
      intro n w hn
      by_cases hnk : n = k
      · subst hnk
        exact ⟨e0, hk, fun _ => h0⟩
      · rw [List.getElem?_set_ne (Ne.symm hnk)] at hn
        exact ⟨w, hn, fun q => q⟩
    obtain ⟨x0, a1, a2⟩ := key i x hi
    obtain ⟨y0, b1, b2⟩ := key j y hj
    exact h.2 i j x0 y0 a1 b1 (a2 hx) (b2 hy) hxy
theorem zW.moved {D : va_G} {cI cL : ClassId} {ad : Nat → Nat} {A : Nat → Prop} {u U : State} {H : Heap} {mem : List zE} (hW : u.WarmedH U.vm) (h : zW D cI cL ad A u H mem) : zW D cI cL ad A U H mem := ⟨fun k e hk => zat_moved hW (h.1 k e hk), h.2⟩
theorem zW.same {D : va_G} {cI cL : ClassId} {ad : Nat → Nat} {A : Nat → Prop} {u U : State} {H : Heap} {mem : List zE} (hvm : u.vm = U.vm) (h : zW D cI cL ad A u H mem) : zW D cI cL ad A U H mem := ⟨fun k e hk => zat_same hvm (h.1 k e hk), h.2⟩
/-- a method: its name, its bytes, how many locals, its answer's type, its instructions (place, instruction, length, next place) -/
abbrev zM : Type := MethodName × ByteArray × Nat × Option FieldType × List (Nat × Instr × Nat × Nat)
/-- launch, method, room, cells and slots that it may make, whether it makes any, what holds at its end -/
abbrev zX : Type := Launch × zM × Room × (Nat × Nat) × Bool × (Option Value → List zE → Prop)
abbrev zX.M (X : zX) : zM := X.2.1
abbrev zX.R (X : zX) : Room := X.2.2.1
abbrev zX.mc (X : zX) : Nat := X.2.2.2.1.1
abbrev zX.ms (X : zX) : Nat := X.2.2.2.1.2
abbrev zX.al (X : zX) : Bool := X.2.2.2.2.1
abbrev zX.Q (X : zX) : Option Value → List zE → Prop := X.2.2.2.2.2
abbrev zX.I (X : zX) : List (Nat × Instr × Nat × Nat) := X.2.1.2.2.2.2
def zDec (M : zM) : Prop := ∀ q ∈ M.2.2.2.2, decode M.2.1 q.1 = .ok (q.2.1, q.2.2.1) ∧ q.1 + q.2.2.1 = q.2.2.2
def zAg (al : Bool) (n0 : Nat) (ad ad0 : Nat → Nat) : Prop := if al = true then ∀ i, i < n0 → ad i = ad0 i else ad = ad0
theorem zAg.rf {al : Bool} {n0 : Nat} {ad : Nat → Nat} : zAg al n0 ad ad := by
  unfold zAg
  split
  · exact fun _ _ => rfl
  · rfl
theorem zAg.at {al : Bool} {n0 : Nat} {ad ad0 : Nat → Nat} (h : zAg al n0 ad ad0) (i : Nat) (hi : i < n0) : ad i = ad0 i := by
  unfold zAg at h
  split at h
  · exact h i hi
  · rw [h]
def zQ (al : Bool) (Q : Option Value → List zE → Prop) (D : va_G) (cI cL : ClassId) (A : Nat → Prop) (ad0 : Nat → Nat) (n0 : Nat) : Array Value → State → Outcome → State → Prop := fun _ st oc t =>
  ∃ (r : Option Value) (mem : List zE) (ad : Nat → Nat), oc = .returned (r.map (zv ad)) ∧ Q r mem ∧ zAg al n0 ad ad0 ∧ n0 ≤ mem.length ∧ zW D cI cL ad A t t.heap mem ∧ va_F A st t
def zBody (M : zM) (D : va_G) (cI cL : ClassId) (p : Program) (s : State) (m : MethodId) (args : Array Value) (meth : Method) (c : Code) : Prop :=
  p.tables.exec = Jvm.exec ∧ c.code = M.2.1 ∧ c.maxLocals = M.2.2.1 ∧ meth.sig.returnType = M.2.2.2.1 ∧ meth.locks = false ∧ s.vm.findClass M.1.cls = some m.cls ∧ meth.name = M.1.name ∧ (∀ w ∈ zTB, w.before args s = true) ∧ (∀ w ∈ zNW, va_Nw w s) ∧ va_K D zCls [(cI, .int), (cL, .long)] s
def Z (X : zX) (kc ks : Nat) (mem : List zE) (pc : Nat) (lv : List (Nat × Value)) (st : List Value) : Prop :=
  ∀ (D : va_G) (cI cL : ClassId) (ad ad0 : Nat → Nat) (n0 : Nat) (A : Nat → Prop) (p : Program) (e : Env) (s : State) (m : MethodId) (args : Array Value) (below : List Frame) (meth : Method) (c : Code) (H : Heap) (locs : List Loc) (ls : Array Slot),
    zDec X.M → zBody X.M D cI cL p s m args meth c → zW D cI cL ad A s H mem → zAg X.al n0 ad ad0 → n0 ≤ mem.length → (∀ q, s.heap.size ≤ q → A q) → va_S A s.heap H locs → lv_has ls X.M.2.2.1 (lv.map (zq ad)) →
    W p X.1 e X.R s m args below meth c H locs kc ks (MQ below (zQ X.al X.Q D cI cL A ad0 n0) args s X.mc X.ms A) (F0 m pc ls (st.map (zv ad)))
/-- the cells that a method may write: those of its world that aren't read-only, and those that it makes -/
def zA (mem : List zE) (ad : Nat → Nat) (sz : Nat) : Nat → Prop := fun q => (∃ (i : Nat) (e : zE), mem[i]? = some e ∧ zrw e = true ∧ ad i = q) ∨ sz ≤ q
def zws (M : zM) : List Cond := .code M.1 M.2.1 M.2.2.1 M.2.2.2.1 :: zTB
/-- the contract of a method -/
def Con (l : Launch) (M : zM) (rm : Room) (mc ms : Nat) (al : Bool) (args : List Value) (mem : List zE) (Q : Option Value → List zE → Prop) : Prop :=
  ∀ (D : va_G) (cI cL : ClassId) (ad0 : Nat → Nat) (sz : Nat), Met l M.1 (zws M) rm (va_Pc (args.map (zv ad0)) (fun U => U.heap.size = sz ∧ zW D cI cL ad0 (zA mem ad0 sz) U U.heap mem ∧ va_K D zCls [(cI, .int), (cL, .long)] U ∧ ∀ w ∈ zNW, va_Nw w U)) (zQ al Q D cI cL (zA mem ad0 sz) ad0 mem.length) mc ms (zA mem ad0 sz)
theorem zv_cat (ad : Nat → Nat) (v : Value) : (zv ad v).category = v.category := by cases v <;> rfl
theorem lg_sl_zv (ad : Nat → Nat) : ∀ vs : List Value, (lg_sl (vs.map (zv ad))).length = (lg_sl vs).length := by
  intro vs
  induction vs with
  | nil => rfl
  | cons v vs ih =>
    simp only [List.map_cons, lg_sl, List.flatMap_cons, List.length_append] at ih ⊢
    rw [ih, zv_cat]
    congr 1
    split <;> rfl
theorem lv_args_zv (ad : Nat → Nat) : ∀ (vs : List Value) (i : Nat), lv_args i (vs.map (zv ad)) = (lv_args i vs).map (zq ad) := by
  intro vs
  induction vs with
  | nil => intro i; rfl
  | cons v vs ih =>
    intro i
    simp only [List.map_cons, lv_args]
    rw [ih, zv_cat]
    rfl
end
section
/-! whole numbers as Java's ints and longs; the rows of Z, one an instruction, in whole numbers -/
def iI (x : Int) : Int32 := Int32.ofInt x
def lI (x : Int) : Int64 := Int64.ofInt x
abbrev inI (x : Int) : Prop := -2147483648 ≤ x ∧ x ≤ 2147483647
abbrev inL (x : Int) : Prop := -9223372036854775808 ≤ x ∧ x ≤ 9223372036854775807
theorem iI_t {x : Int} (h : inI x) : (iI x).toInt = x := by
  unfold iI; rw [Int32.toInt_ofInt]; exact Int.bmod_eq_of_le (by simp; omega) (by simp; omega)
theorem lI_t {x : Int} (h : inL x) : (lI x).toInt = x := by
  unfold lI; rw [Int64.toInt_ofInt]; exact Int.bmod_eq_of_le (by simp; omega) (by simp; omega)
theorem iI_o (x : Int32) : iI x.toInt = x := by unfold iI; exact Int32.ofInt_toInt x
theorem lI_o (x : Int64) : lI x.toInt = x := by unfold lI; exact Int64.ofInt_toInt x
theorem iI_in (x : Int32) : inI x.toInt := by
  have h1 := Int32.le_toInt x
  have h2 := Int32.toInt_lt x
  constructor <;> omega
theorem lI_in (x : Int64) : inL x.toInt := by
  have h1 := Int64.le_toInt x
  have h2 := Int64.toInt_lt x
  constructor <;> omega
theorem iI_add (a b : Int) : iI a + iI b = iI (a + b) := by unfold iI; rw [Int32.ofInt_add]
theorem iI_sub (a b : Int) : iI a - iI b = iI (a - b) := by unfold iI; rw [Int32.ofInt_sub]
theorem iI_mul (a b : Int) : iI a * iI b = iI (a * b) := by unfold iI; rw [Int32.ofInt_mul]
theorem iI_neg (a : Int) : -iI a = iI (-a) := by unfold iI; rw [Int32.ofInt_neg]
theorem lI_add (a b : Int) : lI a + lI b = lI (a + b) := by unfold lI; rw [Int64.ofInt_add]
theorem lI_sub (a b : Int) : lI a - lI b = lI (a - b) := by unfold lI; rw [Int64.ofInt_sub]
theorem lI_mul (a b : Int) : lI a * lI b = lI (a * b) := by unfold lI; rw [Int64.ofInt_mul]
theorem lI_neg (a : Int) : -lI a = lI (-a) := by unfold lI; rw [Int64.ofInt_neg]
theorem iI_lt {a b : Int} (ha : inI a) (hb : inI b) : iI a < iI b ↔ a < b := by rw [Int32.lt_iff_toInt_lt, iI_t ha, iI_t hb]
theorem iI_le {a b : Int} (ha : inI a) (hb : inI b) : iI a ≤ iI b ↔ a ≤ b := by rw [Int32.le_iff_toInt_le, iI_t ha, iI_t hb]
theorem iI_eq {a b : Int} (ha : inI a) (hb : inI b) : iI a = iI b ↔ a = b := by rw [← Int32.toInt_inj, iI_t ha, iI_t hb]
theorem lI_lt {a b : Int} (ha : inL a) (hb : inL b) : lI a < lI b ↔ a < b := by rw [Int64.lt_iff_toInt_lt, lI_t ha, lI_t hb]
theorem lI_le {a b : Int} (ha : inL a) (hb : inL b) : lI a ≤ lI b ↔ a ≤ b := by rw [Int64.le_iff_toInt_le, lI_t ha, lI_t hb]
theorem lI_eq {a b : Int} (ha : inL a) (hb : inL b) : lI a = lI b ↔ a = b := by rw [← Int64.toInt_inj, lI_t ha, lI_t hb]
theorem lI_0 : lI 0 = 0 := rfl
theorem iI_0 : iI 0 = 0 := rfl
theorem iI_l {a : Int} (h : inI a) : (iI a).toInt64 = lI a := by
  rw [← Int64.toInt_inj, Int32.toInt_toInt64, iI_t h, lI_t (by omega)]
theorem lI_i (a : Int) : (lI a).toInt32 = iI a := by
  unfold lI iI
  rw [← Int32.toInt_inj, Int64.toInt_toInt32, Int64.toInt_ofInt, Int32.toInt_ofInt]
  exact Int.bmod_bmod_of_dvd (by decide)
theorem lI_div {a b : Int} (ha : inL a) (hb : inL b) (h0 : 0 < b) : lI a / lI b = lI (a.tdiv b) := by
  rw [← Int64.toInt_inj, Int64.toInt_div, lI_t ha, lI_t hb]
  have h1 : inL (a.tdiv b) := by
    have h2 := Int.natAbs_tdiv_le_natAbs a b
    rcases Int.le_total 0 a with h | h
    · have h3 := Int.tdiv_nonneg h (show 0 ≤ b by omega)
      omega
    · have h3 := Int.tdiv_nonneg (show 0 ≤ -a by omega) (show 0 ≤ b by omega)
      rw [Int.neg_tdiv] at h3
      omega
  rw [lI_t h1]
  exact Int.bmod_eq_of_le (by simp; omega) (by simp; omega)
theorem lI_rem {a b : Int} (ha : inL a) (hb : inL b) (h0 : 0 < b) : lI a - lI a / lI b * lI b = lI (a.tmod b) := by
  rw [lI_div ha hb h0, lI_mul, lI_sub, Int.tmod_def, Int.mul_comm]
theorem iI_div {a b : Int} (ha : inI a) (hb : inI b) (h0 : 0 < b) : iI a / iI b = iI (a.tdiv b) := by
  rw [← Int32.toInt_inj, Int32.toInt_div, iI_t ha, iI_t hb]
  have h1 : inI (a.tdiv b) := by
    have h2 := Int.natAbs_tdiv_le_natAbs a b
    rcases Int.le_total 0 a with h | h
    · have h3 := Int.tdiv_nonneg h (show 0 ≤ b by omega)
      omega
    · have h3 := Int.tdiv_nonneg (show 0 ≤ -a by omega) (show 0 ≤ b by omega)
      rw [Int.neg_tdiv] at h3
      omega
  rw [iI_t h1]
  exact Int.bmod_eq_of_le (by simp; omega) (by simp; omega)
theorem iI_rem {a b : Int} (ha : inI a) (hb : inI b) (h0 : 0 < b) : iI a - iI a / iI b * iI b = iI (a.tmod b) := by
  rw [iI_div ha hb h0, iI_mul, iI_sub, Int.tmod_def, Int.mul_comm]
theorem iI_ix {i : Int} {n : Nat} (h : 0 ≤ i ∧ i < n) (hn : n < 2147483648) : vp_in (iI i) n ∧ (iI i).toNatClampNeg = i.toNat := by
  have h1 : inI i := by omega
  have h2 := iI_t h1
  refine ⟨vp_in_iff.mpr (by rw [h2]; omega), ?_⟩
  show (iI i).toInt.toNat = i.toNat
  rw [h2]
/-- a row of ints, of longs, in whole numbers; a read-only one -/
def aI (n : Nat) (F : Int → Int) : zE := zI n (fun j => iI (F (j : Int)))
def aL (n : Nat) (F : Int → Int) : zE := zL n (fun j => lI (F (j : Int)))
def aR (n : Nat) (F : Int → Int) : zE := zR n (fun j => iI (F (j : Int)))
def aB (n : Nat) (F : Int → Int) : zE := zRb n (fun j => iI (F (j : Int)))
def uI (F : Int → Int) (i v : Int) : Int → Int := fun j => if j = i then v else F j
theorem uI_s (F : Int → Int) (i v : Int) : uI F i v i = v := by simp [uI]
theorem uI_n (F : Int → Int) {i j : Int} (v : Int) (h : j ≠ i) : uI F i v j = F j := by simp [uI, h]
section ZR
variable {X : zX} {kc ks : Nat} {mem : List zE} {pc n : Nat} {lv : List (Nat × Value)} {st : List Value}
theorem zI_dec {X : zX} (hd : zDec X.M) {k pc len n : Nat} {i : Instr} (h : X.I[k]? = some (pc, i, len, n)) : decode X.M.2.1 pc = .ok (i, len) ∧ pc + len = n := hd (pc, i, len, n) (List.mem_of_getElem? h)
theorem zlv_at {ad : Nat → Nat} {ls : Array Slot} {nL i : Nat} {v : Value} (h : lv_has ls nL (lv.map (zq ad))) (hi : (i, v) ∈ lv) : ls[i]? = some (.val (zv ad v)) := h.2.2 (i, zv ad v) (List.mem_map.mpr ⟨(i, v), hi, rfl⟩)
def zlk : List (Nat × Value) → Nat → Option Value
  | [], _ => none
  | q :: l, i => if q.1 = i then some q.2 else zlk l i
theorem zlk_mem : ∀ {lv : List (Nat × Value)} {i : Nat} {v : Value}, zlk lv i = some v → (i, v) ∈ lv := by
  intro lv
  induction lv with
  | nil => intro i v h; cases h
  | cons q l ih =>
    intro i v h
    unfold zlk at h
    split at h
    · rename_i hq
      cases h
      subst hq
      exact List.mem_cons_self
    · exact List.mem_cons_of_mem _ (ih h)
/-- a store of one slot, of two -/
def zst1 (lv : List (Nat × Value)) (i : Nat) (v : Value) : List (Nat × Value) := (i, v) :: lv.filter (fun q => !(q.1 == i) && !(q.1 + 1 == i && q.2.category == 2))
def zst2 (lv : List (Nat × Value)) (i : Nat) (v : Value) : List (Nat × Value) := (i, v) :: lv.filter (fun q => !(q.1 == i) && (!(q.1 == i + 1) && !(q.1 + 1 == i && q.2.category == 2)))
theorem zst1_map (ad : Nat → Nat) (i : Nat) (v : Value) : (i, zv ad v) :: (lv.map (zq ad)).filter (fun q => !(q.1 == i) && !(q.1 + 1 == i && q.2.category == 2)) = (zst1 lv i v).map (zq ad) := by
  simp only [zst1, List.map_cons, zq, List.filter_map]
  congr 2
  apply List.filter_congr
  intro q _
  simp [zq, zv_cat]
theorem zst2_map (ad : Nat → Nat) (i : Nat) (v : Value) : (i, zv ad v) :: (lv.map (zq ad)).filter (fun q => !(q.1 == i) && (!(q.1 == i + 1) && !(q.1 + 1 == i && q.2.category == 2))) = (zst2 lv i v).map (zq ad) := by
  simp only [zst2, List.map_cons, zq, List.filter_map]
  congr 2
  apply List.filter_congr
  intro q _
  simp [zq, zv_cat]
/-- fewer locals; another name for what lies on top; more room; a weaker end -/
theorem Z_lv {lv' : List (Nat × Value)} (h : ∀ q ∈ lv', q ∈ lv) (kk : Z X kc ks mem pc lv' st) : Z X kc ks mem pc lv st := by
  intro D cI cL ad ad0 n0 A p e s m args below meth c H locs ls hd hB hWd hag hn hA hS hl
  refine kk D cI cL ad ad0 n0 A p e s m args below meth c H locs ls hd hB hWd hag hn hA hS ⟨hl.1, hl.2.1, fun q hq => ?_⟩
  obtain ⟨q0, h1, h2⟩ := List.mem_map.mp hq
  exact hl.2.2 q (List.mem_map.mpr ⟨q0, h q0 h1, h2⟩)
/-- the same locals in another order, or fewer: by their numbers -/
theorem Z_ls {lv' : List (Nat × Value)} (h : lv'.all (fun q => lv.any (fun r => r.1 == q.1)) = true) (h2 : ∀ q ∈ lv', zlk lv q.1 = some q.2) (kk : Z X kc ks mem pc lv' st) : Z X kc ks mem pc lv st :=
  Z_lv (fun q hq => by have := zlk_mem (h2 q hq); exact this) kk
theorem Z_ti {x y : Int32} (h : x = y) (kk : Z X kc ks mem pc lv (.int y :: st)) : Z X kc ks mem pc lv (.int x :: st) := by rw [h]; exact kk
theorem Z_tl {x y : Int64} (h : x = y) (kk : Z X kc ks mem pc lv (.long y :: st)) : Z X kc ks mem pc lv (.long x :: st) := by rw [h]; exact kk
theorem Z_ci {x y : Int} (h : x = y) (kk : Z X kc ks mem pc lv (.int (iI y) :: st)) : Z X kc ks mem pc lv (.int (iI x) :: st) := by rw [h]; exact kk
theorem Z_cl {x y : Int} (h : x = y) (kk : Z X kc ks mem pc lv (.long (lI y) :: st)) : Z X kc ks mem pc lv (.long (lI x) :: st) := by rw [h]; exact kk
theorem Z_mem {mem' : List zE} (h : mem = mem') (kk : Z X kc ks mem' pc lv st) : Z X kc ks mem pc lv st := by rw [h]; exact kk
theorem Z_room {kc' ks' : Nat} (h1 : kc ≤ kc') (h2 : ks ≤ ks') (kk : Z X kc' ks' mem pc lv st) : Z X kc ks mem pc lv st := by
  intro D cI cL ad ad0 n0 A p e s m args below meth c H locs ls hd hB hWd hag hn hA hS hl
  exact W.widen h1 h2 (kk D cI cL ad ad0 n0 A p e s m args below meth c H locs ls hd hB hWd hag hn hA hS hl)

theorem Z_iconst (k : Nat) {c : Int} (h : X.I[k]? = some (pc, .iconst c, 1, n))  (kk : Z X kc ks mem n lv (.int (iI c) :: st)) : Z X kc ks mem pc lv (st) := by
  intro D cI cL ad ad0 n0 A p e s m args below meth c H locs ls hd hB hWd hag hn hA hS hl
  obtain ⟨h1, rfl⟩ := zI_dec hd h
  exact lv_iconst hB.1 hB.2.1 h1 rfl (kk D cI cL ad ad0 n0 A p e s m args below meth c H locs ls hd hB hWd hag hn hA hS hl)

theorem Z_bipush (k : Nat) {c : Int} (h : X.I[k]? = some (pc, .bipush c, 2, n)) (hv : (Int8.ofInt c).toInt32 = iI c) (kk : Z X kc ks mem n lv (.int (iI c) :: st)) : Z X kc ks mem pc lv (st) := by
  intro D cI cL ad ad0 n0 A p e s m args below meth c H locs ls hd hB hWd hag hn hA hS hl
  obtain ⟨h1, rfl⟩ := zI_dec hd h
  exact lv_bipush hB.1 hB.2.1 h1 hv (kk D cI cL ad ad0 n0 A p e s m args below meth c H locs ls hd hB hWd hag hn hA hS hl)

theorem Z_sipush (k : Nat) {c : Int} (h : X.I[k]? = some (pc, .sipush c, 3, n)) (hv : (Int16.ofInt c).toInt32 = iI c) (kk : Z X kc ks mem n lv (.int (iI c) :: st)) : Z X kc ks mem pc lv (st) := by
  intro D cI cL ad ad0 n0 A p e s m args below meth c H locs ls hd hB hWd hag hn hA hS hl
  obtain ⟨h1, rfl⟩ := zI_dec hd h
  exact lv_sipush hB.1 hB.2.1 h1 hv (kk D cI cL ad ad0 n0 A p e s m args below meth c H locs ls hd hB hWd hag hn hA hS hl)

theorem Z_lconst (k : Nat) {c : Fin 2} (h : X.I[k]? = some (pc, .lconst c, 1, n))  (kk : Z X kc ks mem n lv (.long (lI (c : Nat)) :: st)) : Z X kc ks mem pc lv (st) := by
  intro D cI cL ad ad0 n0 A p e s m args below meth c H locs ls hd hB hWd hag hn hA hS hl
  obtain ⟨h1, rfl⟩ := zI_dec hd h
  exact lv_lconst hB.1 hB.2.1 h1 rfl (kk D cI cL ad ad0 n0 A p e s m args below meth c H locs ls hd hB hWd hag hn hA hS hl)

theorem Z_ldc (k : Nat) {idx : Nat} {v : Int32} {c : Int} (h : X.I[k]? = some (pc, .ldc idx, 2, n)) (hw : Cond.constant X.M.1.cls idx v ∈ zTB) (hv : v = iI c) (kk : Z X kc ks mem n lv (.int (iI c) :: st)) : Z X kc ks mem pc lv (st) := by
  intro D cI cL ad ad0 n0 A p e s m args below meth c H locs ls hd hB hWd hag hn hA hS hl
  obtain ⟨h1, rfl⟩ := zI_dec hd h
  subst hv
  exact lv_ldc hB.1 hB.2.1 hB.2.2.2.2.2.1 (hB.2.2.2.2.2.2.2.1 _ hw) h1 (kk D cI cL ad ad0 n0 A p e s m args below meth c H locs ls hd hB hWd hag hn hA hS hl)

theorem Z_ldc2 (k : Nat) {idx : Nat} {v : Int64} {c : Int} (h : X.I[k]? = some (pc, .ldc2_w idx, 3, n)) (hw : Cond.constantLong X.M.1.cls idx v ∈ zTB) (hv : v = lI c) (kk : Z X kc ks mem n lv (.long (lI c) :: st)) : Z X kc ks mem pc lv (st) := by
  intro D cI cL ad ad0 n0 A p e s m args below meth c H locs ls hd hB hWd hag hn hA hS hl
  obtain ⟨h1, rfl⟩ := zI_dec hd h
  subst hv
  exact lv_ldc2 hB.1 hB.2.1 hB.2.2.2.2.2.1 (hB.2.2.2.2.2.2.2.1 _ hw) h1 (kk D cI cL ad ad0 n0 A p e s m args below meth c H locs ls hd hB hWd hag hn hA hS hl)

theorem Z_iload_n (k : Nat) {j : Fin 4} {i : Nat} {x : Int32} (h : X.I[k]? = some (pc, .iload_n j, 1, n)) (hj : (j : Nat) = i) (hx : zlk lv i = some (.int x)) (kk : Z X kc ks mem n lv (.int x :: st)) : Z X kc ks mem pc lv (st) := by
  intro D cI cL ad ad0 n0 A p e s m args below meth c H locs ls hd hB hWd hag hn hA hS hl
  obtain ⟨h1, rfl⟩ := zI_dec hd h
  exact lv_iload_n hB.1 hB.2.1 h1 hj (zlv_at hl (zlk_mem hx)) (kk D cI cL ad ad0 n0 A p e s m args below meth c H locs ls hd hB hWd hag hn hA hS hl)

theorem Z_iload (k : Nat) {i : Nat} {x : Int32} (h : X.I[k]? = some (pc, .iload i, 2, n)) (hx : zlk lv i = some (.int x)) (kk : Z X kc ks mem n lv (.int x :: st)) : Z X kc ks mem pc lv (st) := by
  intro D cI cL ad ad0 n0 A p e s m args below meth c H locs ls hd hB hWd hag hn hA hS hl
  obtain ⟨h1, rfl⟩ := zI_dec hd h
  exact lv_iload hB.1 hB.2.1 h1 (zlv_at hl (zlk_mem hx)) (kk D cI cL ad ad0 n0 A p e s m args below meth c H locs ls hd hB hWd hag hn hA hS hl)

theorem Z_lload_n (k : Nat) {j : Fin 4} {i : Nat} {x : Int64} (h : X.I[k]? = some (pc, .lload_n j, 1, n)) (hj : (j : Nat) = i) (hx : zlk lv i = some (.long x)) (kk : Z X kc ks mem n lv (.long x :: st)) : Z X kc ks mem pc lv (st) := by
  intro D cI cL ad ad0 n0 A p e s m args below meth c H locs ls hd hB hWd hag hn hA hS hl
  obtain ⟨h1, rfl⟩ := zI_dec hd h
  exact lv_lload_n hB.1 hB.2.1 h1 hj (zlv_at hl (zlk_mem hx)) (kk D cI cL ad ad0 n0 A p e s m args below meth c H locs ls hd hB hWd hag hn hA hS hl)

theorem Z_lload (k : Nat) {i : Nat} {x : Int64} (h : X.I[k]? = some (pc, .lload i, 2, n)) (hx : zlk lv i = some (.long x)) (kk : Z X kc ks mem n lv (.long x :: st)) : Z X kc ks mem pc lv (st) := by
  intro D cI cL ad ad0 n0 A p e s m args below meth c H locs ls hd hB hWd hag hn hA hS hl
  obtain ⟨h1, rfl⟩ := zI_dec hd h
  exact lv_lload hB.1 hB.2.1 h1 (zlv_at hl (zlk_mem hx)) (kk D cI cL ad ad0 n0 A p e s m args below meth c H locs ls hd hB hWd hag hn hA hS hl)

theorem Z_aload_n (k : Nat) {j : Fin 4} {i : Nat} {x : Nat} (h : X.I[k]? = some (pc, .aload_n j, 1, n)) (hj : (j : Nat) = i) (hx : zlk lv i = some (.ref x)) (kk : Z X kc ks mem n lv (.ref x :: st)) : Z X kc ks mem pc lv (st) := by
  intro D cI cL ad ad0 n0 A p e s m args below meth c H locs ls hd hB hWd hag hn hA hS hl
  obtain ⟨h1, rfl⟩ := zI_dec hd h
  exact lv_aload_n hB.1 hB.2.1 h1 hj (zlv_at hl (zlk_mem hx)) (kk D cI cL ad ad0 n0 A p e s m args below meth c H locs ls hd hB hWd hag hn hA hS hl)

theorem Z_aload (k : Nat) {i : Nat} {x : Nat} (h : X.I[k]? = some (pc, .aload i, 2, n)) (hx : zlk lv i = some (.ref x)) (kk : Z X kc ks mem n lv (.ref x :: st)) : Z X kc ks mem pc lv (st) := by
  intro D cI cL ad ad0 n0 A p e s m args below meth c H locs ls hd hB hWd hag hn hA hS hl
  obtain ⟨h1, rfl⟩ := zI_dec hd h
  exact lv_aload hB.1 hB.2.1 h1 (zlv_at hl (zlk_mem hx)) (kk D cI cL ad ad0 n0 A p e s m args below meth c H locs ls hd hB hWd hag hn hA hS hl)

theorem Z_istore_n (k : Nat) {j : Fin 4} {i : Nat} {x : Int32} {lv' : List (Nat × Value)} (h : X.I[k]? = some (pc, .istore_n j, 1, n)) (hj : (j : Nat) = i) (hi : i < X.M.2.2.1) (hl' : zst1 lv i (.int x) = lv') (kk : Z X kc ks mem n lv' st) : Z X kc ks mem pc lv (.int x :: st) := by
  intro D cI cL ad ad0 n0 A p e s m args below meth c H locs ls hd hB hWd hag hn hA hS hl
  obtain ⟨h1, rfl⟩ := zI_dec hd h
  subst hl'
  exact lv_istore_n hB.1 hB.2.1 h1 hj hl hi (zst1_map ad i (.int x)) (fun ls' hl2 => kk D cI cL ad ad0 n0 A p e s m args below meth c H locs ls' hd hB hWd hag hn hA hS hl2)

theorem Z_istore (k : Nat)  {i : Nat} {x : Int32} {lv' : List (Nat × Value)} (h : X.I[k]? = some (pc, .istore i, 2, n))  (hi : i < X.M.2.2.1) (hl' : zst1 lv i (.int x) = lv') (kk : Z X kc ks mem n lv' st) : Z X kc ks mem pc lv (.int x :: st) := by
  intro D cI cL ad ad0 n0 A p e s m args below meth c H locs ls hd hB hWd hag hn hA hS hl
  obtain ⟨h1, rfl⟩ := zI_dec hd h
  subst hl'
  exact lv_istore hB.1 hB.2.1 h1  hl hi (zst1_map ad i (.int x)) (fun ls' hl2 => kk D cI cL ad ad0 n0 A p e s m args below meth c H locs ls' hd hB hWd hag hn hA hS hl2)

theorem Z_lstore_n (k : Nat) {j : Fin 4} {i : Nat} {x : Int64} {lv' : List (Nat × Value)} (h : X.I[k]? = some (pc, .lstore_n j, 1, n)) (hj : (j : Nat) = i) (hi : i + 1 < X.M.2.2.1) (hl' : zst2 lv i (.long x) = lv') (kk : Z X kc ks mem n lv' st) : Z X kc ks mem pc lv (.long x :: st) := by
  intro D cI cL ad ad0 n0 A p e s m args below meth c H locs ls hd hB hWd hag hn hA hS hl
  obtain ⟨h1, rfl⟩ := zI_dec hd h
  subst hl'
  exact lv_lstore_n hB.1 hB.2.1 h1 hj hl hi (zst2_map ad i (.long x)) (fun ls' hl2 => kk D cI cL ad ad0 n0 A p e s m args below meth c H locs ls' hd hB hWd hag hn hA hS hl2)

theorem Z_lstore (k : Nat)  {i : Nat} {x : Int64} {lv' : List (Nat × Value)} (h : X.I[k]? = some (pc, .lstore i, 2, n))  (hi : i + 1 < X.M.2.2.1) (hl' : zst2 lv i (.long x) = lv') (kk : Z X kc ks mem n lv' st) : Z X kc ks mem pc lv (.long x :: st) := by
  intro D cI cL ad ad0 n0 A p e s m args below meth c H locs ls hd hB hWd hag hn hA hS hl
  obtain ⟨h1, rfl⟩ := zI_dec hd h
  subst hl'
  exact lv_lstore hB.1 hB.2.1 h1  hl hi (zst2_map ad i (.long x)) (fun ls' hl2 => kk D cI cL ad ad0 n0 A p e s m args below meth c H locs ls' hd hB hWd hag hn hA hS hl2)

theorem Z_astore_n (k : Nat) {j : Fin 4} {i : Nat} {x : Nat} {lv' : List (Nat × Value)} (h : X.I[k]? = some (pc, .astore_n j, 1, n)) (hj : (j : Nat) = i) (hi : i < X.M.2.2.1) (hl' : zst1 lv i (.ref x) = lv') (kk : Z X kc ks mem n lv' st) : Z X kc ks mem pc lv (.ref x :: st) := by
  intro D cI cL ad ad0 n0 A p e s m args below meth c H locs ls hd hB hWd hag hn hA hS hl
  obtain ⟨h1, rfl⟩ := zI_dec hd h
  subst hl'
  exact lv_astore_n hB.1 hB.2.1 h1 hj hl hi (zst1_map ad i (.ref x)) (fun ls' hl2 => kk D cI cL ad ad0 n0 A p e s m args below meth c H locs ls' hd hB hWd hag hn hA hS hl2)

theorem Z_astore (k : Nat)  {i : Nat} {x : Nat} {lv' : List (Nat × Value)} (h : X.I[k]? = some (pc, .astore i, 2, n))  (hi : i < X.M.2.2.1) (hl' : zst1 lv i (.ref x) = lv') (kk : Z X kc ks mem n lv' st) : Z X kc ks mem pc lv (.ref x :: st) := by
  intro D cI cL ad ad0 n0 A p e s m args below meth c H locs ls hd hB hWd hag hn hA hS hl
  obtain ⟨h1, rfl⟩ := zI_dec hd h
  subst hl'
  exact lv_astore hB.1 hB.2.1 h1  hl hi (zst1_map ad i (.ref x)) (fun ls' hl2 => kk D cI cL ad ad0 n0 A p e s m args below meth c H locs ls' hd hB hWd hag hn hA hS hl2)

theorem Z_iinc (k : Nat) {i : Nat} {d : Int} {x : Int} {lv' : List (Nat × Value)} (h : X.I[k]? = some (pc, .iinc i d, 3, n)) (hx : zlk lv i = some (.int (iI x))) (hi : i < X.M.2.2.1) (hl' : zst1 lv i (.int (iI (x + d))) = lv') (kk : Z X kc ks mem n lv' st) : Z X kc ks mem pc lv st := by
  intro D cI cL ad ad0 n0 A p e s m args below meth c H locs ls hd hB hWd hag hn hA hS hl
  obtain ⟨h1, rfl⟩ := zI_dec hd h
  subst hl'
  obtain ⟨k', hk'⟩ := List.getElem?_of_mem (List.mem_map.mpr ⟨(i, Value.int (iI x)), zlk_mem hx, rfl⟩ : zq ad (i, Value.int (iI x)) ∈ lv.map (zq ad))
  exact lv_iinc hB.1 hB.2.1 h1 hl hk' (iI_add x d) hi (zst1_map ad i (.int (iI (x + d)))) (fun ls' hl2 => kk D cI cL ad ad0 n0 A p e s m args below meth c H locs ls' hd hB hWd hag hn hA hS hl2)

theorem Z_iadd (k : Nat) {x y : Int} (h : X.I[k]? = some (pc, .iadd, 1, n))  (kk : Z X kc ks mem n lv (.int (iI (x + y)) :: st)) : Z X kc ks mem pc lv (.int (iI y) :: .int (iI x) :: st) := by
  intro D cI cL ad ad0 n0 A p e s m args below meth c H locs ls hd hB hWd hag hn hA hS hl
  obtain ⟨h1, rfl⟩ := zI_dec hd h
  rw [← iI_add] at kk
  exact lv_iadd hB.1 hB.2.1 h1 (kk D cI cL ad ad0 n0 A p e s m args below meth c H locs ls hd hB hWd hag hn hA hS hl)

theorem Z_isub (k : Nat) {x y : Int} (h : X.I[k]? = some (pc, .isub, 1, n))  (kk : Z X kc ks mem n lv (.int (iI (x - y)) :: st)) : Z X kc ks mem pc lv (.int (iI y) :: .int (iI x) :: st) := by
  intro D cI cL ad ad0 n0 A p e s m args below meth c H locs ls hd hB hWd hag hn hA hS hl
  obtain ⟨h1, rfl⟩ := zI_dec hd h
  rw [← iI_sub] at kk
  exact lv_isub hB.1 hB.2.1 h1 (kk D cI cL ad ad0 n0 A p e s m args below meth c H locs ls hd hB hWd hag hn hA hS hl)

theorem Z_imul (k : Nat) {x y : Int} (h : X.I[k]? = some (pc, .imul, 1, n))  (kk : Z X kc ks mem n lv (.int (iI (x * y)) :: st)) : Z X kc ks mem pc lv (.int (iI y) :: .int (iI x) :: st) := by
  intro D cI cL ad ad0 n0 A p e s m args below meth c H locs ls hd hB hWd hag hn hA hS hl
  obtain ⟨h1, rfl⟩ := zI_dec hd h
  rw [← iI_mul] at kk
  exact lv_imul hB.1 hB.2.1 h1 (kk D cI cL ad ad0 n0 A p e s m args below meth c H locs ls hd hB hWd hag hn hA hS hl)

theorem Z_iand (k : Nat) {x y : Int32} (h : X.I[k]? = some (pc, .iand, 1, n))  (kk : Z X kc ks mem n lv (.int (x &&& y) :: st)) : Z X kc ks mem pc lv (.int y :: .int x :: st) := by
  intro D cI cL ad ad0 n0 A p e s m args below meth c H locs ls hd hB hWd hag hn hA hS hl
  obtain ⟨h1, rfl⟩ := zI_dec hd h
  exact lv_iand hB.1 hB.2.1 h1 (kk D cI cL ad ad0 n0 A p e s m args below meth c H locs ls hd hB hWd hag hn hA hS hl)

theorem Z_ior (k : Nat) {x y : Int32} (h : X.I[k]? = some (pc, .ior, 1, n))  (kk : Z X kc ks mem n lv (.int (x ||| y) :: st)) : Z X kc ks mem pc lv (.int y :: .int x :: st) := by
  intro D cI cL ad ad0 n0 A p e s m args below meth c H locs ls hd hB hWd hag hn hA hS hl
  obtain ⟨h1, rfl⟩ := zI_dec hd h
  exact lv_ior hB.1 hB.2.1 h1 (kk D cI cL ad ad0 n0 A p e s m args below meth c H locs ls hd hB hWd hag hn hA hS hl)

theorem Z_ixor (k : Nat) {x y : Int32} (h : X.I[k]? = some (pc, .ixor, 1, n))  (kk : Z X kc ks mem n lv (.int (x ^^^ y) :: st)) : Z X kc ks mem pc lv (.int y :: .int x :: st) := by
  intro D cI cL ad ad0 n0 A p e s m args below meth c H locs ls hd hB hWd hag hn hA hS hl
  obtain ⟨h1, rfl⟩ := zI_dec hd h
  exact lv_ixor hB.1 hB.2.1 h1 (kk D cI cL ad ad0 n0 A p e s m args below meth c H locs ls hd hB hWd hag hn hA hS hl)

theorem Z_ishl (k : Nat) {x y : Int32} (h : X.I[k]? = some (pc, .ishl, 1, n))  (kk : Z X kc ks mem n lv (.int (x <<< (y &&& 31)) :: st)) : Z X kc ks mem pc lv (.int y :: .int x :: st) := by
  intro D cI cL ad ad0 n0 A p e s m args below meth c H locs ls hd hB hWd hag hn hA hS hl
  obtain ⟨h1, rfl⟩ := zI_dec hd h
  exact lv_ishl hB.1 hB.2.1 h1 (kk D cI cL ad ad0 n0 A p e s m args below meth c H locs ls hd hB hWd hag hn hA hS hl)

theorem Z_ishr (k : Nat) {x y : Int32} (h : X.I[k]? = some (pc, .ishr, 1, n))  (kk : Z X kc ks mem n lv (.int (x >>> (y &&& 31)) :: st)) : Z X kc ks mem pc lv (.int y :: .int x :: st) := by
  intro D cI cL ad ad0 n0 A p e s m args below meth c H locs ls hd hB hWd hag hn hA hS hl
  obtain ⟨h1, rfl⟩ := zI_dec hd h
  exact lv_ishr hB.1 hB.2.1 h1 (kk D cI cL ad ad0 n0 A p e s m args below meth c H locs ls hd hB hWd hag hn hA hS hl)

theorem Z_iushr (k : Nat) {x y : Int32} (h : X.I[k]? = some (pc, .iushr, 1, n))  (kk : Z X kc ks mem n lv (.int ((x.toUInt32 >>> (y.toUInt32 &&& Int32.toUInt32 31)).toInt32) :: st)) : Z X kc ks mem pc lv (.int y :: .int x :: st) := by
  intro D cI cL ad ad0 n0 A p e s m args below meth c H locs ls hd hB hWd hag hn hA hS hl
  obtain ⟨h1, rfl⟩ := zI_dec hd h
  exact lv_iushr hB.1 hB.2.1 h1 rfl (kk D cI cL ad ad0 n0 A p e s m args below meth c H locs ls hd hB hWd hag hn hA hS hl)

theorem Z_lshl (k : Nat) {x : Int64} {y : Int32} (h : X.I[k]? = some (pc, .lshl, 1, n))  (kk : Z X kc ks mem n lv (.long (x <<< (y.toInt64 &&& 63)) :: st)) : Z X kc ks mem pc lv (.int y :: .long x :: st) := by
  intro D cI cL ad ad0 n0 A p e s m args below meth c H locs ls hd hB hWd hag hn hA hS hl
  obtain ⟨h1, rfl⟩ := zI_dec hd h
  exact lv_lshl hB.1 hB.2.1 h1 rfl (kk D cI cL ad ad0 n0 A p e s m args below meth c H locs ls hd hB hWd hag hn hA hS hl)

theorem Z_ladd (k : Nat) {x y : Int} (h : X.I[k]? = some (pc, .ladd, 1, n))  (kk : Z X kc ks mem n lv (.long (lI (x + y)) :: st)) : Z X kc ks mem pc lv (.long (lI y) :: .long (lI x) :: st) := by
  intro D cI cL ad ad0 n0 A p e s m args below meth c H locs ls hd hB hWd hag hn hA hS hl
  obtain ⟨h1, rfl⟩ := zI_dec hd h
  rw [← lI_add] at kk
  exact lv_ladd hB.1 hB.2.1 h1 (kk D cI cL ad ad0 n0 A p e s m args below meth c H locs ls hd hB hWd hag hn hA hS hl)

theorem Z_lsub (k : Nat) {x y : Int} (h : X.I[k]? = some (pc, .lsub, 1, n))  (kk : Z X kc ks mem n lv (.long (lI (x - y)) :: st)) : Z X kc ks mem pc lv (.long (lI y) :: .long (lI x) :: st) := by
  intro D cI cL ad ad0 n0 A p e s m args below meth c H locs ls hd hB hWd hag hn hA hS hl
  obtain ⟨h1, rfl⟩ := zI_dec hd h
  rw [← lI_sub] at kk
  exact lv_lsub hB.1 hB.2.1 h1 (kk D cI cL ad ad0 n0 A p e s m args below meth c H locs ls hd hB hWd hag hn hA hS hl)

theorem Z_lmul (k : Nat) {x y : Int} (h : X.I[k]? = some (pc, .lmul, 1, n))  (kk : Z X kc ks mem n lv (.long (lI (x * y)) :: st)) : Z X kc ks mem pc lv (.long (lI y) :: .long (lI x) :: st) := by
  intro D cI cL ad ad0 n0 A p e s m args below meth c H locs ls hd hB hWd hag hn hA hS hl
  obtain ⟨h1, rfl⟩ := zI_dec hd h
  rw [← lI_mul] at kk
  exact lv_lmul hB.1 hB.2.1 h1 (kk D cI cL ad ad0 n0 A p e s m args below meth c H locs ls hd hB hWd hag hn hA hS hl)

theorem Z_land (k : Nat) {x y : Int64} (h : X.I[k]? = some (pc, .land, 1, n))  (kk : Z X kc ks mem n lv (.long (x &&& y) :: st)) : Z X kc ks mem pc lv (.long y :: .long x :: st) := by
  intro D cI cL ad ad0 n0 A p e s m args below meth c H locs ls hd hB hWd hag hn hA hS hl
  obtain ⟨h1, rfl⟩ := zI_dec hd h
  exact lv_land hB.1 hB.2.1 h1 (kk D cI cL ad ad0 n0 A p e s m args below meth c H locs ls hd hB hWd hag hn hA hS hl)

theorem Z_lor (k : Nat) {x y : Int64} (h : X.I[k]? = some (pc, .lor, 1, n))  (kk : Z X kc ks mem n lv (.long (x ||| y) :: st)) : Z X kc ks mem pc lv (.long y :: .long x :: st) := by
  intro D cI cL ad ad0 n0 A p e s m args below meth c H locs ls hd hB hWd hag hn hA hS hl
  obtain ⟨h1, rfl⟩ := zI_dec hd h
  exact lv_lor hB.1 hB.2.1 h1 (kk D cI cL ad ad0 n0 A p e s m args below meth c H locs ls hd hB hWd hag hn hA hS hl)

theorem Z_lxor (k : Nat) {x y : Int64} (h : X.I[k]? = some (pc, .lxor, 1, n))  (kk : Z X kc ks mem n lv (.long (x ^^^ y) :: st)) : Z X kc ks mem pc lv (.long y :: .long x :: st) := by
  intro D cI cL ad ad0 n0 A p e s m args below meth c H locs ls hd hB hWd hag hn hA hS hl
  obtain ⟨h1, rfl⟩ := zI_dec hd h
  exact lv_lxor hB.1 hB.2.1 h1 (kk D cI cL ad ad0 n0 A p e s m args below meth c H locs ls hd hB hWd hag hn hA hS hl)

theorem Z_ineg (k : Nat) {x : Int} (h : X.I[k]? = some (pc, .ineg, 1, n))  (kk : Z X kc ks mem n lv (.int (iI (-x)) :: st)) : Z X kc ks mem pc lv (.int (iI x) :: st) := by
  intro D cI cL ad ad0 n0 A p e s m args below meth c H locs ls hd hB hWd hag hn hA hS hl
  obtain ⟨h1, rfl⟩ := zI_dec hd h
  rw [← iI_neg] at kk
  exact lv_ineg hB.1 hB.2.1 h1 (kk D cI cL ad ad0 n0 A p e s m args below meth c H locs ls hd hB hWd hag hn hA hS hl)

theorem Z_lneg (k : Nat) {x : Int} (h : X.I[k]? = some (pc, .lneg, 1, n))  (kk : Z X kc ks mem n lv (.long (lI (-x)) :: st)) : Z X kc ks mem pc lv (.long (lI x) :: st) := by
  intro D cI cL ad ad0 n0 A p e s m args below meth c H locs ls hd hB hWd hag hn hA hS hl
  obtain ⟨h1, rfl⟩ := zI_dec hd h
  rw [← lI_neg] at kk
  exact lv_lneg hB.1 hB.2.1 h1 (kk D cI cL ad ad0 n0 A p e s m args below meth c H locs ls hd hB hWd hag hn hA hS hl)

theorem Z_i2l (k : Nat) {x : Int} (h : X.I[k]? = some (pc, .i2l, 1, n)) (hx : inI x) (kk : Z X kc ks mem n lv (.long (lI x) :: st)) : Z X kc ks mem pc lv (.int (iI x) :: st) := by
  intro D cI cL ad ad0 n0 A p e s m args below meth c H locs ls hd hB hWd hag hn hA hS hl
  obtain ⟨h1, rfl⟩ := zI_dec hd h
  exact lv_i2l hB.1 hB.2.1 h1 (iI_l hx) (kk D cI cL ad ad0 n0 A p e s m args below meth c H locs ls hd hB hWd hag hn hA hS hl)

theorem Z_l2i (k : Nat) {x : Int} (h : X.I[k]? = some (pc, .l2i, 1, n))  (kk : Z X kc ks mem n lv (.int (iI x) :: st)) : Z X kc ks mem pc lv (.long (lI x) :: st) := by
  intro D cI cL ad ad0 n0 A p e s m args below meth c H locs ls hd hB hWd hag hn hA hS hl
  obtain ⟨h1, rfl⟩ := zI_dec hd h
  exact lv_l2i hB.1 hB.2.1 h1 (lI_i x) (kk D cI cL ad ad0 n0 A p e s m args below meth c H locs ls hd hB hWd hag hn hA hS hl)

theorem Z_ldiv (k : Nat) {x y : Int} (h : X.I[k]? = some (pc, .ldiv, 1, n)) (hx : inL x) (hy : inL y) (h0 : 0 < y) (kk : Z X kc ks mem n lv (.long (lI (x.tdiv y)) :: st)) : Z X kc ks mem pc lv (.long (lI y) :: .long (lI x) :: st) := by
  intro D cI cL ad ad0 n0 A p e s m args below meth c H locs ls hd hB hWd hag hn hA hS hl
  obtain ⟨h1, rfl⟩ := zI_dec hd h
  rw [← lI_div hx hy h0] at kk
  exact lv_ldiv hB.1 hB.2.1 h1 (fun z => by have := (lI_eq hy (by omega)).mp (z.trans lI_0.symm); omega) (kk D cI cL ad ad0 n0 A p e s m args below meth c H locs ls hd hB hWd hag hn hA hS hl)

theorem Z_lrem (k : Nat) {x y : Int} (h : X.I[k]? = some (pc, .lrem, 1, n)) (hx : inL x) (hy : inL y) (h0 : 0 < y) (kk : Z X kc ks mem n lv (.long (lI (x.tmod y)) :: st)) : Z X kc ks mem pc lv (.long (lI y) :: .long (lI x) :: st) := by
  intro D cI cL ad ad0 n0 A p e s m args below meth c H locs ls hd hB hWd hag hn hA hS hl
  obtain ⟨h1, rfl⟩ := zI_dec hd h
  rw [← lI_rem hx hy h0] at kk
  exact lv_lrem hB.1 hB.2.1 h1 (fun z => by have := (lI_eq hy (by omega)).mp (z.trans lI_0.symm); omega) (kk D cI cL ad ad0 n0 A p e s m args below meth c H locs ls hd hB hWd hag hn hA hS hl)

theorem Z_irem (k : Nat) {x y : Int} (h : X.I[k]? = some (pc, .irem, 1, n)) (hx : inI x) (hy : inI y) (h0 : 0 < y) (kk : Z X kc ks mem n lv (.int (iI (x.tmod y)) :: st)) : Z X kc ks mem pc lv (.int (iI y) :: .int (iI x) :: st) := by
  intro D cI cL ad ad0 n0 A p e s m args below meth c H locs ls hd hB hWd hag hn hA hS hl
  obtain ⟨h1, rfl⟩ := zI_dec hd h
  rw [← iI_rem hx hy h0] at kk
  exact lv_irem hB.1 hB.2.1 h1 (fun z => by have := (iI_eq hy (by omega)).mp (z.trans iI_0.symm); omega) (kk D cI cL ad ad0 n0 A p e s m args below meth c H locs ls hd hB hWd hag hn hA hS hl)

theorem Z_dup (k : Nat) {v : Value} (h : X.I[k]? = some (pc, .dup, 1, n)) (hc : v.category = 1) (kk : Z X kc ks mem n lv (v :: v :: st)) : Z X kc ks mem pc lv (v :: st) := by
  intro D cI cL ad ad0 n0 A p e s m args below meth c H locs ls hd hB hWd hag hn hA hS hl
  obtain ⟨h1, rfl⟩ := zI_dec hd h
  exact lv_dup hB.1 hB.2.1 h1 ((zv_cat ad v).trans hc) (kk D cI cL ad ad0 n0 A p e s m args below meth c H locs ls hd hB hWd hag hn hA hS hl)

theorem Z_pop (k : Nat) {v : Value} (h : X.I[k]? = some (pc, .pop, 1, n)) (hc : v.category = 1) (kk : Z X kc ks mem n lv (st)) : Z X kc ks mem pc lv (v :: st) := by
  intro D cI cL ad ad0 n0 A p e s m args below meth c H locs ls hd hB hWd hag hn hA hS hl
  obtain ⟨h1, rfl⟩ := zI_dec hd h
  exact lv_pop hB.1 hB.2.1 h1 ((zv_cat ad v).trans hc) (kk D cI cL ad ad0 n0 A p e s m args below meth c H locs ls hd hB hWd hag hn hA hS hl)

theorem Z_dup_x1 (k : Nat) {v w : Value} (h : X.I[k]? = some (pc, .dup_x1, 1, n)) (hc : v.category = 1) (hc2 : w.category = 1) (kk : Z X kc ks mem n lv (v :: w :: v :: st)) : Z X kc ks mem pc lv (v :: w :: st) := by
  intro D cI cL ad ad0 n0 A p e s m args below meth c H locs ls hd hB hWd hag hn hA hS hl
  obtain ⟨h1, rfl⟩ := zI_dec hd h
  exact lv_dup_x1 hB.1 hB.2.1 h1 ((zv_cat ad v).trans hc) ((zv_cat ad w).trans hc2) (kk D cI cL ad ad0 n0 A p e s m args below meth c H locs ls hd hB hWd hag hn hA hS hl)

theorem Z_dup2_2 (k : Nat) {v : Value} (h : X.I[k]? = some (pc, .dup2, 1, n)) (hc : v.category = 2) (kk : Z X kc ks mem n lv (v :: v :: st)) : Z X kc ks mem pc lv (v :: st) := by
  intro D cI cL ad ad0 n0 A p e s m args below meth c H locs ls hd hB hWd hag hn hA hS hl
  obtain ⟨h1, rfl⟩ := zI_dec hd h
  exact lv_dup2_2 hB.1 hB.2.1 h1 ((zv_cat ad v).trans hc) (kk D cI cL ad ad0 n0 A p e s m args below meth c H locs ls hd hB hWd hag hn hA hS hl)

theorem Z_dup2_11 (k : Nat) {v w : Value} (h : X.I[k]? = some (pc, .dup2, 1, n)) (hc : v.category = 1) (hc2 : w.category = 1) (kk : Z X kc ks mem n lv (v :: w :: v :: w :: st)) : Z X kc ks mem pc lv (v :: w :: st) := by
  intro D cI cL ad ad0 n0 A p e s m args below meth c H locs ls hd hB hWd hag hn hA hS hl
  obtain ⟨h1, rfl⟩ := zI_dec hd h
  exact lv_dup2_11 hB.1 hB.2.1 h1 ((zv_cat ad v).trans hc) ((zv_cat ad w).trans hc2) (kk D cI cL ad ad0 n0 A p e s m args below meth c H locs ls hd hB hWd hag hn hA hS hl)

theorem Z_goto (k : Nat) {off : Int} {tgt : Nat} (h : X.I[k]? = some (pc, .goto off, 3, n)) (ht : (pc : Int) + off = (tgt : Int)) (kk : Z X kc ks mem tgt lv st) : Z X kc ks mem pc lv st := by
  intro D cI cL ad ad0 n0 A p e s m args below meth c H locs ls hd hB hWd hag hn hA hS hl
  obtain ⟨h1, rfl⟩ := zI_dec hd h
  exact lv_goto hB.1 hB.2.1 h1 ht (kk D cI cL ad ad0 n0 A p e s m args below meth c H locs ls hd hB hWd hag hn hA hS hl)

theorem Z_icmp_eq (k : Nat) {x y off : Int} {tgt : Nat} (h : X.I[k]? = some (pc, .if_icmp .eq off, 3, n)) (ht : (pc : Int) + off = (tgt : Int)) (hx : inI x) (hy : inI y) (kt : x = y → Z X kc ks mem tgt lv st) (kf : x ≠ y → Z X kc ks mem n lv st) : Z X kc ks mem pc lv (.int (iI y) :: .int (iI x) :: st) := by
  intro D cI cL ad ad0 n0 A p e s m args below meth c H locs ls hd hB hWd hag hn hA hS hl
  obtain ⟨h1, rfl⟩ := zI_dec hd h
  exact lv_icmp_eq hB.1 hB.2.1 h1 ht (fun z => (kt ((iI_eq hx hy).mp z)) D cI cL ad ad0 n0 A p e s m args below meth c H locs ls hd hB hWd hag hn hA hS hl) (fun z => (kf (fun e0 => z ((iI_eq hx hy).mpr e0))) D cI cL ad ad0 n0 A p e s m args below meth c H locs ls hd hB hWd hag hn hA hS hl)

theorem Z_icmp_ne (k : Nat) {x y off : Int} {tgt : Nat} (h : X.I[k]? = some (pc, .if_icmp .ne off, 3, n)) (ht : (pc : Int) + off = (tgt : Int)) (hx : inI x) (hy : inI y) (kt : x ≠ y → Z X kc ks mem tgt lv st) (kf : x = y → Z X kc ks mem n lv st) : Z X kc ks mem pc lv (.int (iI y) :: .int (iI x) :: st) := by
  intro D cI cL ad ad0 n0 A p e s m args below meth c H locs ls hd hB hWd hag hn hA hS hl
  obtain ⟨h1, rfl⟩ := zI_dec hd h
  exact lv_icmp_ne hB.1 hB.2.1 h1 ht (fun z => (kt (fun e0 => z ((iI_eq hx hy).mpr e0))) D cI cL ad ad0 n0 A p e s m args below meth c H locs ls hd hB hWd hag hn hA hS hl) (fun z => (kf ((iI_eq hx hy).mp z)) D cI cL ad ad0 n0 A p e s m args below meth c H locs ls hd hB hWd hag hn hA hS hl)

theorem Z_icmp_lt (k : Nat) {x y off : Int} {tgt : Nat} (h : X.I[k]? = some (pc, .if_icmp .lt off, 3, n)) (ht : (pc : Int) + off = (tgt : Int)) (hx : inI x) (hy : inI y) (kt : x < y → Z X kc ks mem tgt lv st) (kf : ¬ x < y → Z X kc ks mem n lv st) : Z X kc ks mem pc lv (.int (iI y) :: .int (iI x) :: st) := by
  intro D cI cL ad ad0 n0 A p e s m args below meth c H locs ls hd hB hWd hag hn hA hS hl
  obtain ⟨h1, rfl⟩ := zI_dec hd h
  exact lv_icmp_lt hB.1 hB.2.1 h1 ht (fun z => (kt ((iI_lt hx hy).mp z)) D cI cL ad ad0 n0 A p e s m args below meth c H locs ls hd hB hWd hag hn hA hS hl) (fun z => (kf (fun e0 => z ((iI_lt hx hy).mpr e0))) D cI cL ad ad0 n0 A p e s m args below meth c H locs ls hd hB hWd hag hn hA hS hl)

theorem Z_icmp_ge (k : Nat) {x y off : Int} {tgt : Nat} (h : X.I[k]? = some (pc, .if_icmp .ge off, 3, n)) (ht : (pc : Int) + off = (tgt : Int)) (hx : inI x) (hy : inI y) (kt : y ≤ x → Z X kc ks mem tgt lv st) (kf : ¬ y ≤ x → Z X kc ks mem n lv st) : Z X kc ks mem pc lv (.int (iI y) :: .int (iI x) :: st) := by
  intro D cI cL ad ad0 n0 A p e s m args below meth c H locs ls hd hB hWd hag hn hA hS hl
  obtain ⟨h1, rfl⟩ := zI_dec hd h
  exact lv_icmp_ge hB.1 hB.2.1 h1 ht (fun z => (kt ((iI_le hy hx).mp z)) D cI cL ad ad0 n0 A p e s m args below meth c H locs ls hd hB hWd hag hn hA hS hl) (fun z => (kf (fun e0 => z ((iI_le hy hx).mpr e0))) D cI cL ad ad0 n0 A p e s m args below meth c H locs ls hd hB hWd hag hn hA hS hl)

theorem Z_icmp_gt (k : Nat) {x y off : Int} {tgt : Nat} (h : X.I[k]? = some (pc, .if_icmp .gt off, 3, n)) (ht : (pc : Int) + off = (tgt : Int)) (hx : inI x) (hy : inI y) (kt : y < x → Z X kc ks mem tgt lv st) (kf : ¬ y < x → Z X kc ks mem n lv st) : Z X kc ks mem pc lv (.int (iI y) :: .int (iI x) :: st) := by
  intro D cI cL ad ad0 n0 A p e s m args below meth c H locs ls hd hB hWd hag hn hA hS hl
  obtain ⟨h1, rfl⟩ := zI_dec hd h
  exact lv_icmp_gt hB.1 hB.2.1 h1 ht (fun z => (kt ((iI_lt hy hx).mp z)) D cI cL ad ad0 n0 A p e s m args below meth c H locs ls hd hB hWd hag hn hA hS hl) (fun z => (kf (fun e0 => z ((iI_lt hy hx).mpr e0))) D cI cL ad ad0 n0 A p e s m args below meth c H locs ls hd hB hWd hag hn hA hS hl)

theorem Z_icmp_le (k : Nat) {x y off : Int} {tgt : Nat} (h : X.I[k]? = some (pc, .if_icmp .le off, 3, n)) (ht : (pc : Int) + off = (tgt : Int)) (hx : inI x) (hy : inI y) (kt : x ≤ y → Z X kc ks mem tgt lv st) (kf : ¬ x ≤ y → Z X kc ks mem n lv st) : Z X kc ks mem pc lv (.int (iI y) :: .int (iI x) :: st) := by
  intro D cI cL ad ad0 n0 A p e s m args below meth c H locs ls hd hB hWd hag hn hA hS hl
  obtain ⟨h1, rfl⟩ := zI_dec hd h
  exact lv_icmp_le hB.1 hB.2.1 h1 ht (fun z => (kt ((iI_le hx hy).mp z)) D cI cL ad ad0 n0 A p e s m args below meth c H locs ls hd hB hWd hag hn hA hS hl) (fun z => (kf (fun e0 => z ((iI_le hx hy).mpr e0))) D cI cL ad ad0 n0 A p e s m args below meth c H locs ls hd hB hWd hag hn hA hS hl)

theorem Z_if_eq (k : Nat) {x off : Int} {tgt : Nat} (h : X.I[k]? = some (pc, .ifCond .eq off, 3, n)) (ht : (pc : Int) + off = (tgt : Int)) (hx : inI x) (kt : x = 0 → Z X kc ks mem tgt lv st) (kf : x ≠ 0 → Z X kc ks mem n lv st) : Z X kc ks mem pc lv (.int (iI x) :: st) := by
  intro D cI cL ad ad0 n0 A p e s m args below meth c H locs ls hd hB hWd hag hn hA hS hl
  obtain ⟨h1, rfl⟩ := zI_dec hd h
  exact lv_if_eq hB.1 hB.2.1 h1 ht (fun z => (kt ((iI_eq hx (show inI 0 by omega)).mp z)) D cI cL ad ad0 n0 A p e s m args below meth c H locs ls hd hB hWd hag hn hA hS hl) (fun z => (kf (fun e0 => z ((iI_eq hx (show inI 0 by omega)).mpr e0))) D cI cL ad ad0 n0 A p e s m args below meth c H locs ls hd hB hWd hag hn hA hS hl)

theorem Z_if_ne (k : Nat) {x off : Int} {tgt : Nat} (h : X.I[k]? = some (pc, .ifCond .ne off, 3, n)) (ht : (pc : Int) + off = (tgt : Int)) (hx : inI x) (kt : x ≠ 0 → Z X kc ks mem tgt lv st) (kf : x = 0 → Z X kc ks mem n lv st) : Z X kc ks mem pc lv (.int (iI x) :: st) := by
  intro D cI cL ad ad0 n0 A p e s m args below meth c H locs ls hd hB hWd hag hn hA hS hl
  obtain ⟨h1, rfl⟩ := zI_dec hd h
  exact lv_if_ne hB.1 hB.2.1 h1 ht (fun z => (kt (fun e0 => z ((iI_eq hx (show inI 0 by omega)).mpr e0))) D cI cL ad ad0 n0 A p e s m args below meth c H locs ls hd hB hWd hag hn hA hS hl) (fun z => (kf ((iI_eq hx (show inI 0 by omega)).mp z)) D cI cL ad ad0 n0 A p e s m args below meth c H locs ls hd hB hWd hag hn hA hS hl)

theorem Z_if_lt (k : Nat) {x off : Int} {tgt : Nat} (h : X.I[k]? = some (pc, .ifCond .lt off, 3, n)) (ht : (pc : Int) + off = (tgt : Int)) (hx : inI x) (kt : x < 0 → Z X kc ks mem tgt lv st) (kf : ¬ x < 0 → Z X kc ks mem n lv st) : Z X kc ks mem pc lv (.int (iI x) :: st) := by
  intro D cI cL ad ad0 n0 A p e s m args below meth c H locs ls hd hB hWd hag hn hA hS hl
  obtain ⟨h1, rfl⟩ := zI_dec hd h
  exact lv_if_lt hB.1 hB.2.1 h1 ht (fun z => (kt ((iI_lt hx (show inI 0 by omega)).mp z)) D cI cL ad ad0 n0 A p e s m args below meth c H locs ls hd hB hWd hag hn hA hS hl) (fun z => (kf (fun e0 => z ((iI_lt hx (show inI 0 by omega)).mpr e0))) D cI cL ad ad0 n0 A p e s m args below meth c H locs ls hd hB hWd hag hn hA hS hl)

theorem Z_if_ge (k : Nat) {x off : Int} {tgt : Nat} (h : X.I[k]? = some (pc, .ifCond .ge off, 3, n)) (ht : (pc : Int) + off = (tgt : Int)) (hx : inI x) (kt : 0 ≤ x → Z X kc ks mem tgt lv st) (kf : ¬ 0 ≤ x → Z X kc ks mem n lv st) : Z X kc ks mem pc lv (.int (iI x) :: st) := by
  intro D cI cL ad ad0 n0 A p e s m args below meth c H locs ls hd hB hWd hag hn hA hS hl
  obtain ⟨h1, rfl⟩ := zI_dec hd h
  exact lv_if_ge hB.1 hB.2.1 h1 ht (fun z => (kt ((iI_le (show inI 0 by omega) hx).mp z)) D cI cL ad ad0 n0 A p e s m args below meth c H locs ls hd hB hWd hag hn hA hS hl) (fun z => (kf (fun e0 => z ((iI_le (show inI 0 by omega) hx).mpr e0))) D cI cL ad ad0 n0 A p e s m args below meth c H locs ls hd hB hWd hag hn hA hS hl)

theorem Z_if_gt (k : Nat) {x off : Int} {tgt : Nat} (h : X.I[k]? = some (pc, .ifCond .gt off, 3, n)) (ht : (pc : Int) + off = (tgt : Int)) (hx : inI x) (kt : 0 < x → Z X kc ks mem tgt lv st) (kf : ¬ 0 < x → Z X kc ks mem n lv st) : Z X kc ks mem pc lv (.int (iI x) :: st) := by
  intro D cI cL ad ad0 n0 A p e s m args below meth c H locs ls hd hB hWd hag hn hA hS hl
  obtain ⟨h1, rfl⟩ := zI_dec hd h
  exact lv_if_gt hB.1 hB.2.1 h1 ht (fun z => (kt ((iI_lt (show inI 0 by omega) hx).mp z)) D cI cL ad ad0 n0 A p e s m args below meth c H locs ls hd hB hWd hag hn hA hS hl) (fun z => (kf (fun e0 => z ((iI_lt (show inI 0 by omega) hx).mpr e0))) D cI cL ad ad0 n0 A p e s m args below meth c H locs ls hd hB hWd hag hn hA hS hl)

theorem Z_if_le (k : Nat) {x off : Int} {tgt : Nat} (h : X.I[k]? = some (pc, .ifCond .le off, 3, n)) (ht : (pc : Int) + off = (tgt : Int)) (hx : inI x) (kt : x ≤ 0 → Z X kc ks mem tgt lv st) (kf : ¬ x ≤ 0 → Z X kc ks mem n lv st) : Z X kc ks mem pc lv (.int (iI x) :: st) := by
  intro D cI cL ad ad0 n0 A p e s m args below meth c H locs ls hd hB hWd hag hn hA hS hl
  obtain ⟨h1, rfl⟩ := zI_dec hd h
  exact lv_if_le hB.1 hB.2.1 h1 ht (fun z => (kt ((iI_le hx (show inI 0 by omega)).mp z)) D cI cL ad ad0 n0 A p e s m args below meth c H locs ls hd hB hWd hag hn hA hS hl) (fun z => (kf (fun e0 => z ((iI_le hx (show inI 0 by omega)).mpr e0))) D cI cL ad ad0 n0 A p e s m args below meth c H locs ls hd hB hWd hag hn hA hS hl)

theorem Z_ifr_eq (k : Nat) {x : Int32} {off : Int} {tgt : Nat} (h : X.I[k]? = some (pc, .ifCond .eq off, 3, n)) (ht : (pc : Int) + off = (tgt : Int)) (kt : x = 0 → Z X kc ks mem tgt lv st) (kf : ¬ x = 0 → Z X kc ks mem n lv st) : Z X kc ks mem pc lv (.int x :: st) := by
  intro D cI cL ad ad0 n0 A p e s m args below meth c H locs ls hd hB hWd hag hn hA hS hl
  obtain ⟨h1, rfl⟩ := zI_dec hd h
  exact lv_if_eq hB.1 hB.2.1 h1 ht (fun z => (kt z) D cI cL ad ad0 n0 A p e s m args below meth c H locs ls hd hB hWd hag hn hA hS hl) (fun z => (kf z) D cI cL ad ad0 n0 A p e s m args below meth c H locs ls hd hB hWd hag hn hA hS hl)

theorem Z_ifr_ne (k : Nat) {x : Int32} {off : Int} {tgt : Nat} (h : X.I[k]? = some (pc, .ifCond .ne off, 3, n)) (ht : (pc : Int) + off = (tgt : Int)) (kt : ¬ x = 0 → Z X kc ks mem tgt lv st) (kf : x = 0 → Z X kc ks mem n lv st) : Z X kc ks mem pc lv (.int x :: st) := by
  intro D cI cL ad ad0 n0 A p e s m args below meth c H locs ls hd hB hWd hag hn hA hS hl
  obtain ⟨h1, rfl⟩ := zI_dec hd h
  exact lv_if_ne hB.1 hB.2.1 h1 ht (fun z => (kt z) D cI cL ad ad0 n0 A p e s m args below meth c H locs ls hd hB hWd hag hn hA hS hl) (fun z => (kf z) D cI cL ad ad0 n0 A p e s m args below meth c H locs ls hd hB hWd hag hn hA hS hl)

theorem lg_cmp_i {x y : Int} (hx : inL x) (hy : inL y) : lg_cmp (lI x) (lI y) = iI (if y < x then 1 else if x = y then 0 else -1) := by
  unfold lg_cmp
  simp only [lI_lt hy hx, lI_eq hx hy, lI_lt hx hy]
  repeat' split
  all_goals first | rfl | (exfalso; omega)

theorem Z_lcmp (k : Nat) {x y : Int} (h : X.I[k]? = some (pc, .lcmp, 1, n)) (hx : inL x) (hy : inL y) (kk : Z X kc ks mem n lv (.int (iI (if y < x then 1 else if x = y then 0 else -1)) :: st)) : Z X kc ks mem pc lv (.long (lI y) :: .long (lI x) :: st) := by
  intro D cI cL ad ad0 n0 A p e s m args below meth c H locs ls hd hB hWd hag hn hA hS hl
  obtain ⟨h1, rfl⟩ := zI_dec hd h
  rw [← lg_cmp_i hx hy] at kk
  exact W.lcmp hB.1 hB.2.1 h1 (kk D cI cL ad ad0 n0 A p e s m args below meth c H locs ls hd hB hWd hag hn hA hS hl)

theorem Z_lc_eq (k : Nat) {x y off : Int} {tgt n1 : Nat} (h : X.I[k]? = some (pc, .lcmp, 1, n1)) (h2 : X.I[k + 1]? = some (n1, .ifCond .eq off, 3, n)) (ht : (n1 : Int) + off = (tgt : Int)) (hx : inL x) (hy : inL y) (kt : x = y → Z X kc ks mem tgt lv st) (kf : x ≠ y → Z X kc ks mem n lv st) : Z X kc ks mem pc lv (.long (lI y) :: .long (lI x) :: st) :=
  Z_lcmp k h hx hy (Z_if_eq (k + 1) h2 ht (by split <;> (try split) <;> omega) (fun z => kt (by split at z <;> (try split at z) <;> omega)) (fun z => kf (by split at z <;> (try split at z) <;> omega)))

theorem Z_lc_ne (k : Nat) {x y off : Int} {tgt n1 : Nat} (h : X.I[k]? = some (pc, .lcmp, 1, n1)) (h2 : X.I[k + 1]? = some (n1, .ifCond .ne off, 3, n)) (ht : (n1 : Int) + off = (tgt : Int)) (hx : inL x) (hy : inL y) (kt : x ≠ y → Z X kc ks mem tgt lv st) (kf : x = y → Z X kc ks mem n lv st) : Z X kc ks mem pc lv (.long (lI y) :: .long (lI x) :: st) :=
  Z_lcmp k h hx hy (Z_if_ne (k + 1) h2 ht (by split <;> (try split) <;> omega) (fun z => kt (by split at z <;> (try split at z) <;> omega)) (fun z => kf (by split at z <;> (try split at z) <;> omega)))

theorem Z_lc_lt (k : Nat) {x y off : Int} {tgt n1 : Nat} (h : X.I[k]? = some (pc, .lcmp, 1, n1)) (h2 : X.I[k + 1]? = some (n1, .ifCond .lt off, 3, n)) (ht : (n1 : Int) + off = (tgt : Int)) (hx : inL x) (hy : inL y) (kt : x < y → Z X kc ks mem tgt lv st) (kf : ¬ x < y → Z X kc ks mem n lv st) : Z X kc ks mem pc lv (.long (lI y) :: .long (lI x) :: st) :=
  Z_lcmp k h hx hy (Z_if_lt (k + 1) h2 ht (by split <;> (try split) <;> omega) (fun z => kt (by split at z <;> (try split at z) <;> omega)) (fun z => kf (by split at z <;> (try split at z) <;> omega)))

theorem Z_lc_ge (k : Nat) {x y off : Int} {tgt n1 : Nat} (h : X.I[k]? = some (pc, .lcmp, 1, n1)) (h2 : X.I[k + 1]? = some (n1, .ifCond .ge off, 3, n)) (ht : (n1 : Int) + off = (tgt : Int)) (hx : inL x) (hy : inL y) (kt : y ≤ x → Z X kc ks mem tgt lv st) (kf : ¬ y ≤ x → Z X kc ks mem n lv st) : Z X kc ks mem pc lv (.long (lI y) :: .long (lI x) :: st) :=
  Z_lcmp k h hx hy (Z_if_ge (k + 1) h2 ht (by split <;> (try split) <;> omega) (fun z => kt (by split at z <;> (try split at z) <;> omega)) (fun z => kf (by split at z <;> (try split at z) <;> omega)))

theorem Z_lc_gt (k : Nat) {x y off : Int} {tgt n1 : Nat} (h : X.I[k]? = some (pc, .lcmp, 1, n1)) (h2 : X.I[k + 1]? = some (n1, .ifCond .gt off, 3, n)) (ht : (n1 : Int) + off = (tgt : Int)) (hx : inL x) (hy : inL y) (kt : y < x → Z X kc ks mem tgt lv st) (kf : ¬ y < x → Z X kc ks mem n lv st) : Z X kc ks mem pc lv (.long (lI y) :: .long (lI x) :: st) :=
  Z_lcmp k h hx hy (Z_if_gt (k + 1) h2 ht (by split <;> (try split) <;> omega) (fun z => kt (by split at z <;> (try split at z) <;> omega)) (fun z => kf (by split at z <;> (try split at z) <;> omega)))

theorem Z_lc_le (k : Nat) {x y off : Int} {tgt n1 : Nat} (h : X.I[k]? = some (pc, .lcmp, 1, n1)) (h2 : X.I[k + 1]? = some (n1, .ifCond .le off, 3, n)) (ht : (n1 : Int) + off = (tgt : Int)) (hx : inL x) (hy : inL y) (kt : x ≤ y → Z X kc ks mem tgt lv st) (kf : ¬ x ≤ y → Z X kc ks mem n lv st) : Z X kc ks mem pc lv (.long (lI y) :: .long (lI x) :: st) :=
  Z_lcmp k h hx hy (Z_if_le (k + 1) h2 ht (by split <;> (try split) <;> omega) (fun z => kt (by split at z <;> (try split at z) <;> omega)) (fun z => kf (by split at z <;> (try split at z) <;> omega)))

end ZR
end
section
/-! the rows of Z on cells, and a method's end -/
/-- class number ci is C, with its fields' table, how many, their types -/
def zCK (ci : Nat) (C : String) (T : u_T) (N : Nat) (ty : Nat → FieldType) : Prop := zCls[ci]? = some (C, T, N) ∧ (∀ w ∈ u_ws C T N, w ∈ zTB) ∧ (∀ k, k < N → parseFieldDescriptor (T k).2.2.1 = some (ty k)) ∧ ∀ a, a < N → ∀ b, b < N → a ≠ b → (T a).2.1 ≠ (T b).2.1
theorem zck_0 : zCK 0 RX0 TX0 3 tyX0 := ⟨rfl, inX0, tyX0_ok, nmX0⟩
theorem zck_1 : zCK 1 RX1 TX1 2 tyX1 := ⟨rfl, inX1, tyX1_ok, nmX1⟩
theorem zck_2 : zCK 2 RX2 TX2 8 tyX2 := ⟨rfl, inX2, tyX2_ok, nmX2⟩
theorem zck_3 : zCK 3 RX3 TX3 2 tyX3 := ⟨rfl, inX3, tyX3_ok, nmX3⟩
theorem zck_4 : zCK 4 RX4 TX4 5 tyX4 := ⟨rfl, inX4, tyX4_ok, nmX4⟩
theorem zck_5 : zCK 5 RX5 TX5 4 tyX5 := ⟨rfl, inX5, tyX5_ok, nmX5⟩
theorem zck_6 : zCK 6 RX6 TX6 6 tyX6 := ⟨rfl, inX6, tyX6_ok, nmX6⟩
theorem zck_7 : zCK 7 RX7 TX7 15 tyX7 := ⟨rfl, inX7, tyX7_ok, nmX7⟩
theorem zck_8 : zCK 8 RX8 TX8 35 tyX8 := ⟨rfl, inX8, tyX8_ok, nmX8⟩
/-- entry idx of own's file is field j of class ci, of type fty; a nest mate's -/
def zF (own : String) (idx ci j : Nat) (fty : FieldType) (fin : Bool) : Prop := ∃ (C : String) (T : u_T) (N : Nat) (ty : Nat → FieldType), zCK ci C T N ty ∧ j < N ∧ ty j = fty ∧ (T j).2.2.2 = fin ∧ Cond.fieldLink own idx (T j).1 (T j).2.1 (T j).2.2.1 ∈ zTB
def zFN (own : String) (idx ci j : Nat) (fty : FieldType) (fin : Bool) : Prop := ∃ (C : String) (T : u_T) (N : Nat) (ty : Nat → FieldType) (host : String), zCK ci C T N ty ∧ j < N ∧ ty j = fty ∧ (T j).2.2.2 = fin ∧ Cond.fieldLinkNest own idx (T j).1 (T j).2.1 (T j).2.2.1 host ∈ zNW
section ZH
variable {X : zX} {kc ks : Nat} {mem : List zE} {pc n : Nat} {lv : List (Nat × Value)} {st : List Value}
theorem zP1 {D : va_G} {cI cL : ClassId} {ad : Nat → Nat} {A : Nat → Prop} {U : State} {H : Heap} {a ci : Nat} {fs : List Value} (h : zat D cI cL ad A U H a (zO ci fs)) : va_P D zCls [(a, .inr (ci, fs.map (zv ad)))] H := by
  intro k q hk
  have hz : k < 1 := (List.getElem?_eq_some_iff.mp hk).1
  rw [show k = 0 by omega] at hk
  cases hk
  exact h.2
theorem Z_get (k : Nat) {idx ci j : Nat} {fty : FieldType} {fin : Bool} {q : Nat} {fs : List Value} {v : Value} (h : X.I[k]? = some (pc, .getfield idx, 3, n)) (hf : zF X.M.1.cls idx ci j fty fin) (hq : mem[q]? = some (zO ci fs)) (hv : fs[j]? = some v) (kk : Z X kc ks mem n lv (v :: st)) : Z X kc ks mem pc lv (.ref q :: st) := by
  intro D cI cL ad ad0 n0 A p e s m args below meth c H locs ls hd hB hWd hag hn hA hS hl
  obtain ⟨h1, rfl⟩ := zI_dec hd h
  obtain ⟨C, T, N, ty, ⟨c1, c2, c3, c4⟩, hj, rfl, rfl, hlk⟩ := hf
  have hP := zP1 (hWd.1 q _ hq)
  exact va_get hB.1 hB.2.1 hB.2.2.2.2.2.2.2.1 c2 hB.2.2.2.2.2.1 hB.2.2.2.2.2.2.2.2.2 hP 0 rfl c1 j hj (hB.2.2.2.2.2.2.2.1 _ hlk) (fun _ z => z) (by rw [List.getElem?_map, hv]; rfl) h1 (kk D cI cL ad ad0 n0 A p e s m args below meth c H locs ls hd hB hWd hag hn hA hS hl)
theorem Z_getN (k : Nat) {idx ci j : Nat} {fty : FieldType} {fin : Bool} {q : Nat} {fs : List Value} {v : Value} (h : X.I[k]? = some (pc, .getfield idx, 3, n)) (hf : zFN X.M.1.cls idx ci j fty fin) (hq : mem[q]? = some (zO ci fs)) (hv : fs[j]? = some v) (kk : Z X kc ks mem n lv (v :: st)) : Z X kc ks mem pc lv (.ref q :: st) := by
  intro D cI cL ad ad0 n0 A p e s m args below meth c H locs ls hd hB hWd hag hn hA hS hl
  obtain ⟨h1, rfl⟩ := zI_dec hd h
  obtain ⟨C, T, N, ty, host, ⟨c1, c2, c3, c4⟩, hj, rfl, rfl, hlk⟩ := hf
  have hP := zP1 (hWd.1 q _ hq)
  exact va_getN hB.1 hB.2.1 hB.2.2.2.2.2.2.2.1 c2 hB.2.2.2.2.2.1 hB.2.2.2.2.2.2.2.2.2 hP 0 rfl c1 j hj ((hB.2.2.2.2.2.2.2.2.1 _ hlk).use rfl) (fun _ z => z) (by rw [List.getElem?_map, hv]; rfl) h1 (kk D cI cL ad ad0 n0 A p e s m args below meth c H locs ls hd hB hWd hag hn hA hS hl)
theorem Z_put (k : Nat) {idx ci j : Nat} {fty : FieldType} {q : Nat} {fs fs' : List Value} {v : Value} {mem' : List zE} (h : X.I[k]? = some (pc, .putfield idx, 3, n)) (hf : zF X.M.1.cls idx ci j fty false) (hq : mem[q]? = some (zO ci fs)) (hj2 : j < fs.length) (hv : ∀ ad, narrow fty (zv ad v) = zv ad v ∧ fits fty (zv ad v) = true) (hm : mem.set q (zO ci (fs.set j v)) = mem') (kk : Z X kc ks mem' n lv st) : Z X kc ks mem pc lv (v :: .ref q :: st) := by
  intro D cI cL ad ad0 n0 A p e s m args below meth c H locs ls hd hB hWd hag hn hA hS hl
  obtain ⟨h1, rfl⟩ := zI_dec hd h
  subst hm
  obtain ⟨C, T, N, ty, ⟨c1, c2, c3, c4⟩, hj, rfl, hfin, hlk⟩ := hf
  have hts := hB.2.2.2.2.2.2.2.1
  have hK := hB.2.2.2.2.2.2.2.2.2
  have hap := va_apart (own := X.M.1.cls) hts c2 ty c3 c4 hK c1
  obtain ⟨hAa, r, g1, cell, q1, q2, q3, q4⟩ := hWd.1 q _ hq
  have hr : r = (C, T, N) := Option.some.inj (g1.symm.trans c1)
  subst hr
  obtain ⟨hSl, hfc, kC, hkC, hkind⟩ := hK.1 ci _ c1
  obtain ⟨cf, kf, fi, f, hi, hsl⟩ := hSl j hj
  have hlay := hts _ (c2 _ (u_in_lay hj))
  unfold u_lay at hlay
  rw [if_neg (by rw [hfin]; decide)] at hlay
  have hst := (u_facts hfc hkC (u_lays hts c2 hj) hi).1
  have h6 := u_store hfc hkC hkind hlay hi (c3 j hj) (hv ad).1 (hv ad).2
  refine W.putK hB.1 hB.2.1 (f := f) ⟨hB.2.2.2.2.2.1, hts _ hlk, ⟨_, _, _, hi⟩, hst⟩ (by rw [q2]; exact h6) q1 q3 (by rw [hsl]; exact k2_hasslot (q4 j hj)) rfl rfl h1 fun H' e1 e2 e3 => ?_
  rw [hsl] at e1 ⊢
  refine kk D cI cL ad ad0 n0 A p e s m args below meth c H' _ ls hd hB (hWd.set hq rfl ⟨hAa, _, c1, t_OB.to (V := updV (vp_V (fs.map (zv ad))) j (zv ad v)) ⟨_, e1, q2, q3, t_set q4 hap hj _⟩ (fun i _ => ?_)⟩ rfl e2 e3) hag (by simpa using hn) hA (hS.put e2 e3 hAa) hl
  rw [List.map_set]
  exact vp_updV_set (by simpa using hj2) _ i
theorem Z_putN (k : Nat) {idx ci j : Nat} {fty : FieldType} {q : Nat} {fs fs' : List Value} {v : Value} {mem' : List zE} (h : X.I[k]? = some (pc, .putfield idx, 3, n)) (hf : zFN X.M.1.cls idx ci j fty false) (hq : mem[q]? = some (zO ci fs)) (hj2 : j < fs.length) (hv : ∀ ad, narrow fty (zv ad v) = zv ad v ∧ fits fty (zv ad v) = true) (hm : mem.set q (zO ci (fs.set j v)) = mem') (kk : Z X kc ks mem' n lv st) : Z X kc ks mem pc lv (v :: .ref q :: st) := by
  intro D cI cL ad ad0 n0 A p e s m args below meth c H locs ls hd hB hWd hag hn hA hS hl
  obtain ⟨h1, rfl⟩ := zI_dec hd h
  subst hm
  obtain ⟨C, T, N, ty, host, ⟨c1, c2, c3, c4⟩, hj, rfl, hfin, hlk⟩ := hf
  have hts := hB.2.2.2.2.2.2.2.1
  have hK := hB.2.2.2.2.2.2.2.2.2
  have hap := va_apart (own := X.M.1.cls) hts c2 ty c3 c4 hK c1
  obtain ⟨hAa, r, g1, cell, q1, q2, q3, q4⟩ := hWd.1 q _ hq
  have hr : r = (C, T, N) := Option.some.inj (g1.symm.trans c1)
  subst hr
  obtain ⟨hSl, hfc, kC, hkC, hkind⟩ := hK.1 ci _ c1
  obtain ⟨cf, kf, fi, f, hi, hsl⟩ := hSl j hj
  have hlay := hts _ (c2 _ (u_in_lay hj))
  unfold u_lay at hlay
  rw [if_neg (by rw [hfin]; decide)] at hlay
  have hst := (u_facts hfc hkC (u_lays hts c2 hj) hi).1
  have h6 := u_store hfc hkC hkind hlay hi (c3 j hj) (hv ad).1 (hv ad).2
  refine va_WputK hB.1 hB.2.1 (f := f) hB.2.2.2.2.2.1 ((hB.2.2.2.2.2.2.2.2.1 _ hlk).use rfl) hi hst (by rw [q2]; exact h6) q1 q3 (by rw [hsl]; exact k2_hasslot (q4 j hj)) rfl rfl h1 fun H' e1 e2 e3 => ?_
  rw [hsl] at e1 ⊢
  refine kk D cI cL ad ad0 n0 A p e s m args below meth c H' _ ls hd hB (hWd.set hq rfl ⟨hAa, _, c1, t_OB.to (V := updV (vp_V (fs.map (zv ad))) j (zv ad v)) ⟨_, e1, q2, q3, t_set q4 hap hj _⟩ (fun i _ => ?_)⟩ rfl e2 e3) hag (by simpa using hn) hA (hS.put e2 e3 hAa) hl
  rw [List.map_set]
  exact vp_updV_set (by simpa using hj2) _ i
/-- a final field, in its class's constructor -/
theorem Z_putF (k : Nat) {idx ci j : Nat} {fty : FieldType} {q : Nat} {fs fs' : List Value} {v : Value} {mem' : List zE} {C : String} {T : u_T} {N : Nat} {ty : Nat → FieldType} (h : X.I[k]? = some (pc, .putfield idx, 3, n)) (hck : zCK ci C T N ty) (hj : j < N) (hlk : Cond.fieldLink X.M.1.cls idx (T j).1 (T j).2.1 (T j).2.2.1 ∈ zTB) (hfin : (T j).2.2.2 = true) (hdecl : (T j).1 = X.M.1.cls) (hini : X.M.1.name = "<init>") (hq : mem[q]? = some (zO ci fs)) (hj2 : j < fs.length) (hv : ∀ ad, narrow (ty j) (zv ad v) = zv ad v ∧ fits (ty j) (zv ad v) = true) (hm : mem.set q (zO ci (fs.set j v)) = mem') (kk : Z X kc ks mem' n lv st) : Z X kc ks mem pc lv (v :: .ref q :: st) := by
  intro D cI cL ad ad0 n0 A p e s m args below meth c H locs ls hd hB hWd hag hn hA hS hl
  obtain ⟨h1, rfl⟩ := zI_dec hd h
  subst hm
  obtain ⟨c1, c2, c3, c4⟩ := hck
  have hts := hB.2.2.2.2.2.2.2.1
  have hK := hB.2.2.2.2.2.2.2.2.2
  have hown := hB.2.2.2.2.2.1
  have hap := va_apart (own := X.M.1.cls) hts c2 ty c3 c4 hK c1
  obtain ⟨hAa, r, g1, cell, q1, q2, q3, q4⟩ := hWd.1 q _ hq
  have hr : r = (C, T, N) := Option.some.inj (g1.symm.trans c1)
  subst hr
  obtain ⟨hSl, hfc, kC, hkC, hkind⟩ := hK.1 ci _ c1
  obtain ⟨cf, kf, fi, f, hi, hsl⟩ := hSl j hj
  have hlay := hts _ (c2 _ (u_in_lay hj))
  unfold u_lay at hlay
  rw [if_pos hfin] at hlay
  have hst := (u_facts hfc hkC (u_lays hts c2 hj) hi).1
  have hcf : m.cls = cf := by
    obtain ⟨_, _, c', _, _, _, -, -, hf', -, -, -, hown2, -⟩ := Cond.laysFinal_spec hlay
    have e1 : c' = cf := by have := hi.symm.trans hf'; simp at this; exact this.1.symm
    rw [hdecl] at hown2
    rw [← e1]; exact Option.some.inj (hown.symm.trans hown2)
  have h6 := u_fits hfc hkC hkind (Or.inr hlay) hi (c3 j hj) (hv ad).1 (hv ad).2
  refine W.putFinK hB.1 hB.2.1 hown (hts _ hlk) hi hst hcf (hB.2.2.2.2.2.2.1.trans hini) (by rw [q2]; exact h6) q1 q3 (by rw [hsl]; exact k2_hasslot (q4 j hj)) rfl rfl h1 fun H' e1 e2 e3 => ?_
  rw [hsl] at e1 ⊢
  refine kk D cI cL ad ad0 n0 A p e s m args below meth c H' _ ls hd hB (hWd.set hq rfl ⟨hAa, _, c1, t_OB.to (V := updV (vp_V (fs.map (zv ad))) j (zv ad v)) ⟨_, e1, q2, q3, t_set q4 hap hj _⟩ (fun i _ => ?_)⟩ rfl e2 e3) hag (by simpa using hn) hA (hS.put e2 e3 hAa) hl
  rw [List.map_set]
  exact vp_updV_set (by simpa using hj2) _ i
theorem Z_ia (k : Nat) {q N : Nat} {F : Int → Int} {i : Int} (h : X.I[k]? = some (pc, .iaload, 1, n)) (hq : mem[q]? = some (aI N F)) (hi : 0 ≤ i ∧ i < (N : Int)) (hN : N < 2147483648) (kk : Z X kc ks mem n lv (.int (iI (F i)) :: st)) : Z X kc ks mem pc lv (.int (iI i) :: .ref q :: st) := by
  intro D cI cL ad ad0 n0 A p e s m args below meth c H locs ls hd hB hWd hag hn hA hS hl
  obtain ⟨h1, rfl⟩ := zI_dec hd h
  obtain ⟨x1, x2⟩ := iI_ix hi hN
  have hK := hB.2.2.2.2.2.2.2.2.2
  refine W.iald (v := .int (iI (F i))) hB.1 hB.2.1 (hWd.1 q _ hq).2 ((hK.2 0 _ rfl).1 N (fun j => .int (iI (F (j : Int))))) (fun z => by cases z) (by show ¬ (_ < 0 ∨ (arrV _ _ _).slots.size ≤ _); rw [arrV_size]; exact x1) ?_ rfl rfl h1 (kk D cI cL ad ad0 n0 A p e s m args below meth c H locs ls hd hB hWd hag hn hA hS hl)
  show (arrV _ _ _).slots[_]? = _
  rw [x2, arrV_read _ _ (show i.toNat < N by omega)]
  show some (Value.int (iI (F (i.toNat : Int)))) = _
  rw [Int.toNat_of_nonneg hi.1]
theorem Z_iaR (k : Nat) {q N : Nat} {F : Int → Int} {i : Int} (h : X.I[k]? = some (pc, .iaload, 1, n)) (hq : mem[q]? = some (aR N F)) (hi : 0 ≤ i ∧ i < (N : Int)) (hN : N < 2147483648) (kk : Z X kc ks mem n lv (.int (iI (F i)) :: st)) : Z X kc ks mem pc lv (.int (iI i) :: .ref q :: st) := by
  intro D cI cL ad ad0 n0 A p e s m args below meth c H locs ls hd hB hWd hag hn hA hS hl
  obtain ⟨h1, rfl⟩ := zI_dec hd h
  obtain ⟨x1, x2⟩ := iI_ix hi hN
  obtain ⟨cell, g1, g2, g3, g4, g5, g6, g7⟩ := hWd.1 q _ hq
  refine W.iald (v := .int (iI (F i))) hB.1 hB.2.1 g1 g2 g3 (fun z => x1 (z.imp (fun z => z) (fun z => by show N ≤ _; have g4' : N ≤ cell.slots.size := g4; omega))) ?_ rfl rfl h1 (kk D cI cL ad ad0 n0 A p e s m args below meth c H locs ls hd hB hWd hag hn hA hS hl)
  rw [x2, g6 _ (show i.toNat < N by omega)]
  show some (Value.int (iI (F (i.toNat : Int)))) = _
  rw [Int.toNat_of_nonneg hi.1]
theorem Z_baR (k : Nat) {q N : Nat} {F : Int → Int} {i : Int} (h : X.I[k]? = some (pc, .baload, 1, n)) (hq : mem[q]? = some (aB N F)) (hi : 0 ≤ i ∧ i < (N : Int)) (hN : N < 2147483648) (kk : Z X kc ks mem n lv (.int (iI (F i)) :: st)) : Z X kc ks mem pc lv (.int (iI i) :: .ref q :: st) := by
  intro D cI cL ad ad0 n0 A p e s m args below meth c H locs ls hd hB hWd hag hn hA hS hl
  obtain ⟨h1, rfl⟩ := zI_dec hd h
  obtain ⟨x1, x2⟩ := iI_ix hi hN
  obtain ⟨cell, g1, g2, g3, g4, g5, g6, g7⟩ := hWd.1 q _ hq
  refine W.bald (v := .int (iI (F i))) hB.1 hB.2.1 g1 g2 g3 (fun z => x1 (z.imp (fun z => z) (fun z => by show N ≤ _; have g4' : N ≤ cell.slots.size := g4; omega))) ?_ rfl rfl h1 (kk D cI cL ad ad0 n0 A p e s m args below meth c H locs ls hd hB hWd hag hn hA hS hl)
  rw [x2, g6 _ (show i.toNat < N by omega)]
  show some (Value.int (iI (F (i.toNat : Int)))) = _
  rw [Int.toNat_of_nonneg hi.1]
theorem Z_la (k : Nat) {q N : Nat} {F : Int → Int} {i : Int} (h : X.I[k]? = some (pc, .laload, 1, n)) (hq : mem[q]? = some (aL N F)) (hi : 0 ≤ i ∧ i < (N : Int)) (hN : N < 2147483648) (kk : Z X kc ks mem n lv (.long (lI (F i)) :: st)) : Z X kc ks mem pc lv (.int (iI i) :: .ref q :: st) := by
  intro D cI cL ad ad0 n0 A p e s m args below meth c H locs ls hd hB hWd hag hn hA hS hl
  obtain ⟨h1, rfl⟩ := zI_dec hd h
  obtain ⟨x1, x2⟩ := iI_ix hi hN
  have hK := hB.2.2.2.2.2.2.2.2.2
  refine W.lald (v := .long (lI (F i))) hB.1 hB.2.1 (hWd.1 q _ hq).2 ((hK.2 1 _ rfl).1 N (fun j => .long (lI (F (j : Int))))) (fun z => by cases z) (by show ¬ (_ < 0 ∨ (arrV _ _ _).slots.size ≤ _); rw [arrV_size]; exact x1) ?_ rfl rfl h1 (kk D cI cL ad ad0 n0 A p e s m args below meth c H locs ls hd hB hWd hag hn hA hS hl)
  show (arrV _ _ _).slots[_]? = _
  rw [x2, arrV_read _ _ (show i.toNat < N by omega)]
  show some (Value.long (lI (F (i.toNat : Int)))) = _
  rw [Int.toNat_of_nonneg hi.1]
theorem Z_ias (k : Nat) {q N : Nat} {F : Int → Int} {i v : Int} {mem' : List zE} (h : X.I[k]? = some (pc, .iastore, 1, n)) (hq : mem[q]? = some (aI N F)) (hi : 0 ≤ i ∧ i < (N : Int)) (hN : N < 2147483648) (hm : mem.set q (aI N (uI F i v)) = mem') (kk : Z X kc ks mem' n lv st) : Z X kc ks mem pc lv (.int (iI v) :: .int (iI i) :: .ref q :: st) := by
  intro D cI cL ad ad0 n0 A p e s m args below meth c H locs ls hd hB hWd hag hn hA hS hl
  obtain ⟨h1, rfl⟩ := zI_dec hd h
  subst hm
  obtain ⟨x1, x2⟩ := iI_ix hi hN
  have hK := hB.2.2.2.2.2.2.2.2.2
  obtain ⟨hAa, hc⟩ := hWd.1 q _ hq
  refine W.iast hB.1 hB.2.1 hc ((hK.2 0 _ rfl).1 N (fun j => .int (iI (F (j : Int))))) (fun z => by cases z) (by show ¬ (_ < 0 ∨ (arrV _ _ _).slots.size ≤ _); rw [arrV_size]; exact x1) rfl rfl h1 fun H1 e1 z oq => ?_
  refine kk D cI cL ad ad0 n0 A p e s m args below meth c H1 _ ls hd hB (hWd.set hq rfl ⟨hAa, ?_⟩ rfl z oq) hag (by simpa using hn) hA (hS.put z oq hAa) hl
  show H1[ad q]? = some (vp_cell _ _)
  rw [e1, vp_cell_i, vp_cell_i, arrV_store, x2]
  congr 2
  funext j
  show updV _ _ _ j = Value.int (iI (uI F i v (j : Int)))
  by_cases hj : j = i.toNat
  · subst hj
    rw [Int.toNat_of_nonneg hi.1, uI_s]
    simp [updV]
  · rw [uI_n F v (by omega)]
    simp [updV, hj]
theorem Z_las (k : Nat) {q N : Nat} {F : Int → Int} {i v : Int} {mem' : List zE} (h : X.I[k]? = some (pc, .lastore, 1, n)) (hq : mem[q]? = some (aL N F)) (hi : 0 ≤ i ∧ i < (N : Int)) (hN : N < 2147483648) (hm : mem.set q (aL N (uI F i v)) = mem') (kk : Z X kc ks mem' n lv st) : Z X kc ks mem pc lv (.long (lI v) :: .int (iI i) :: .ref q :: st) := by
  intro D cI cL ad ad0 n0 A p e s m args below meth c H locs ls hd hB hWd hag hn hA hS hl
  obtain ⟨h1, rfl⟩ := zI_dec hd h
  subst hm
  obtain ⟨x1, x2⟩ := iI_ix hi hN
  have hK := hB.2.2.2.2.2.2.2.2.2
  obtain ⟨hAa, hc⟩ := hWd.1 q _ hq
  refine W.last hB.1 hB.2.1 hc ((hK.2 1 _ rfl).1 N (fun j => .long (lI (F (j : Int))))) (fun z => by cases z) (by show ¬ (_ < 0 ∨ (arrV _ _ _).slots.size ≤ _); rw [arrV_size]; exact x1) rfl rfl h1 fun H1 e1 z oq => ?_
  refine kk D cI cL ad ad0 n0 A p e s m args below meth c H1 _ ls hd hB (hWd.set hq rfl ⟨hAa, ?_⟩ rfl z oq) hag (by simpa using hn) hA (hS.put z oq hAa) hl
  show H1[ad q]? = some (vp_cell _ _)
  rw [e1, vp_cell_l, vp_cell_l, arrV_store, x2]
  congr 2
  funext j
  show updV _ _ _ j = Value.long (lI (uI F i v (j : Int)))
  by_cases hj : j = i.toNat
  · subst hj
    rw [Int.toNat_of_nonneg hi.1, uI_s]
    simp [updV]
  · rw [uI_n F v (by omega)]
    simp [updV, hj]
theorem Z_alI (k : Nat) {q N : Nat} {F : Int → Int} (h : X.I[k]? = some (pc, .arraylength, 1, n)) (hq : mem[q]? = some (aI N F)) (kk : Z X kc ks mem n lv (.int (iI (N : Int)) :: st)) : Z X kc ks mem pc lv (.ref q :: st) := by
  intro D cI cL ad ad0 n0 A p e s m args below meth c H locs ls hd hB hWd hag hn hA hS hl
  obtain ⟨h1, rfl⟩ := zI_dec hd h
  have hK := hB.2.2.2.2.2.2.2.2.2
  refine W.alen (n := iI (N : Int)) hB.1 hB.2.1 (hWd.1 q _ hq).2 ((hK.2 0 _ rfl).1 N (fun j => .int (iI (F (j : Int))))) (by show (arrV _ _ _).slots.size.toInt32 = _; rw [arrV_size]; rfl) rfl rfl h1 (kk D cI cL ad ad0 n0 A p e s m args below meth c H locs ls hd hB hWd hag hn hA hS hl)
theorem Z_alL (k : Nat) {q N : Nat} {F : Int → Int} (h : X.I[k]? = some (pc, .arraylength, 1, n)) (hq : mem[q]? = some (aL N F)) (kk : Z X kc ks mem n lv (.int (iI (N : Int)) :: st)) : Z X kc ks mem pc lv (.ref q :: st) := by
  intro D cI cL ad ad0 n0 A p e s m args below meth c H locs ls hd hB hWd hag hn hA hS hl
  obtain ⟨h1, rfl⟩ := zI_dec hd h
  have hK := hB.2.2.2.2.2.2.2.2.2
  refine W.alen (n := iI (N : Int)) hB.1 hB.2.1 (hWd.1 q _ hq).2 ((hK.2 1 _ rfl).1 N (fun j => .long (lI (F (j : Int))))) (by show (arrV _ _ _).slots.size.toInt32 = _; rw [arrV_size]; rfl) rfl rfl h1 (kk D cI cL ad ad0 n0 A p e s m args below meth c H locs ls hd hB hWd hag hn hA hS hl)
theorem zlen_i (N : Nat) : Int32.ofNat N = iI (N : Int) := rfl
theorem Z_alR (k : Nat) {q N : Nat} {F : Int → Int} (h : X.I[k]? = some (pc, .arraylength, 1, n)) (hq : mem[q]? = some (aR N F)) (kk : Z X kc ks mem n lv (.int (iI (N : Int)) :: st)) : Z X kc ks mem pc lv (.ref q :: st) := by
  intro D cI cL ad ad0 n0 A p e s m args below meth c H locs ls hd hB hWd hag hn hA hS hl
  obtain ⟨h1, rfl⟩ := zI_dec hd h
  obtain ⟨cell, g1, g2, g3, g4, g5, g6, g7⟩ := hWd.1 q _ hq
  exact W.alen (n := iI (N : Int)) hB.1 hB.2.1 g1 g2 g5 rfl rfl h1 (kk D cI cL ad ad0 n0 A p e s m args below meth c H locs ls hd hB hWd hag hn hA hS hl)
theorem Z_alB (k : Nat) {q N : Nat} {F : Int → Int} (h : X.I[k]? = some (pc, .arraylength, 1, n)) (hq : mem[q]? = some (aB N F)) (kk : Z X kc ks mem n lv (.int (iI (N : Int)) :: st)) : Z X kc ks mem pc lv (.ref q :: st) := by
  intro D cI cL ad ad0 n0 A p e s m args below meth c H locs ls hd hB hWd hag hn hA hS hl
  obtain ⟨h1, rfl⟩ := zI_dec hd h
  obtain ⟨cell, g1, g2, g3, g4, g5, g6, g7⟩ := hWd.1 q _ hq
  exact W.alen (n := iI (N : Int)) hB.1 hB.2.1 g1 g2 g5 rfl rfl h1 (kk D cI cL ad ad0 n0 A p e s m args below meth c H locs ls hd hB hWd hag hn hA hS hl)
/-- a static field, of those that the world tells -/
theorem Z_gets (k : Nat) {idx q : Nat} {l : List (String × String × String × Value)} {C f d : String} {v : Value} (h : X.I[k]? = some (pc, .getstatic idx, 3, n)) (hlk : Cond.fieldLink X.M.1.cls idx C f d ∈ zTB) (hq : mem[q]? = some (zT l)) (hv : (C, f, d, v) ∈ l) (kk : Z X kc ks mem n lv (v :: st)) : Z X kc ks mem pc lv st := by
  intro D cI cL ad ad0 n0 A p e s m args below meth c H locs ls hd hB hWd hag hn hA hS hl
  obtain ⟨h1, rfl⟩ := zI_dec hd h
  obtain ⟨cf, kf, fi, fl, a, cell, g1, g2, g3, g4, g5, g6, g7, g8⟩ := (hWd.1 q _ hq).1 _ hv
  exact W.gets hB.1 hB.2.1 hB.2.2.2.2.2.1 (hB.2.2.2.2.2.2.2.1 _ hlk) g1 g2 g3 g4 g5 (fun z => by rw [z] at g6; cases g6) g7 rfl h1 (kk D cI cL ad ad0 n0 A p e s m args below meth c H locs ls hd hB hWd hag hn hA hS hl)
/-- String constants: ldc, the two fields of a String -/
theorem Z_ldcS (k : Nat) {idx q i j : Nat} {tx : String} (h : X.I[k]? = some (pc, .ldc idx, 2, n)) (hown : X.M.1.cls = "CamPieces$Reader") (hq : mem[q]? = some (zS i j)) (hs : zStr[i]? = some (tx, idx)) (kk : Z X kc ks mem n lv (.ref q :: st)) : Z X kc ks mem pc lv st := by
  intro D cI cL ad ad0 n0 A p e s m args below meth c H locs ls hd hB hWd hag hn hA hS hl
  obtain ⟨h1, rfl⟩ := zI_dec hd h
  have ho := hB.2.2.2.2.2.1
  rw [hown] at ho
  exact va_ldcS hB.1 hB.2.1 ho ((hWd.1 q _ hq).1 _ hs) h1 (kk D cI cL ad ad0 n0 A p e s m args below meth c H locs ls hd hB hWd hag hn hA hS hl)
theorem Z_getSv (k : Nat) {idx q i j : Nat} (h : X.I[k]? = some (pc, .getfield idx, 3, n)) (hlk : Cond.fieldLink X.M.1.cls idx "java/lang/String" "value" "[B" ∈ zTB) (hq : mem[q]? = some (zS i j)) (kk : Z X kc ks mem n lv (.ref j :: st)) : Z X kc ks mem pc lv (.ref q :: st) := by
  intro D cI cL ad ad0 n0 A p e s m args below meth c H locs ls hd hB hWd hag hn hA hS hl
  obtain ⟨h1, rfl⟩ := zI_dec hd h
  obtain ⟨cf, kf, fi, f, cell, g1, g2, g3, g4, g5, g6⟩ := (hWd.1 q _ hq).2.2.2
  exact W.getf hB.1 hB.2.1 hB.2.2.2.2.2.1 (hB.2.2.2.2.2.2.2.1 _ hlk) g1 g2 g3 g4 g5 rfl rfl h1 (kk D cI cL ad ad0 n0 A p e s m args below meth c H locs ls hd hB hWd hag hn hA hS hl)
theorem Z_getSc (k : Nat) {idx q i j : Nat} (h : X.I[k]? = some (pc, .getfield idx, 3, n)) (hlk : Cond.fieldLink X.M.1.cls idx "java/lang/String" "coder" "B" ∈ zTB) (hq : mem[q]? = some (zS i j)) (kk : Z X kc ks mem n lv (.int (iI 0) :: st)) : Z X kc ks mem pc lv (.ref q :: st) := by
  intro D cI cL ad ad0 n0 A p e s m args below meth c H locs ls hd hB hWd hag hn hA hS hl
  obtain ⟨h1, rfl⟩ := zI_dec hd h
  obtain ⟨cf, kf, fi, f, cell, g1, g2, g3, g4, g5, g6⟩ := (hWd.1 q _ hq).2.2.1
  exact W.getf hB.1 hB.2.1 hB.2.2.2.2.2.1 (hB.2.2.2.2.2.2.2.1 _ hlk) g1 g2 g3 g4 g5 rfl rfl h1 (kk D cI cL ad ad0 n0 A p e s m args below meth c H locs ls hd hB hWd hag hn hA hS hl)
/-- switches -/
theorem Z_tabIn (k : Nat) {dflt lo hi off x : Int} {offs : Array Int} {len tgt : Nat} (h : X.I[k]? = some (pc, .tableswitch dflt lo hi offs, len, n)) (hx : inI x) (h1 : ¬ x < lo) (h2 : ¬ hi < x) (ho : offs[(x - lo).toNat]? = some off) (ht : (pc : Int) + off = (tgt : Int)) (kk : Z X kc ks mem tgt lv st) : Z X kc ks mem pc lv (.int (iI x) :: st) := by
  intro D cI cL ad ad0 n0 A p e s m args below meth c H locs ls hd hB hWd hag hn hA hS hl
  obtain ⟨g1, rfl⟩ := zI_dec hd h
  exact lv_tableIn hB.1 hB.2.1 g1 (by rw [iI_t hx]; exact h1) (by rw [iI_t hx]; exact h2) (by rw [iI_t hx]; exact ho) ht (kk D cI cL ad ad0 n0 A p e s m args below meth c H locs ls hd hB hWd hag hn hA hS hl)
theorem Z_tabOut (k : Nat) {dflt lo hi x : Int} {offs : Array Int} {len tgt : Nat} (h : X.I[k]? = some (pc, .tableswitch dflt lo hi offs, len, n)) (hx : inI x) (h1 : x < lo ∨ hi < x) (ht : (pc : Int) + dflt = (tgt : Int)) (kk : Z X kc ks mem tgt lv st) : Z X kc ks mem pc lv (.int (iI x) :: st) := by
  intro D cI cL ad ad0 n0 A p e s m args below meth c H locs ls hd hB hWd hag hn hA hS hl
  obtain ⟨g1, rfl⟩ := zI_dec hd h
  exact lv_tableOut hB.1 hB.2.1 g1 (by rw [iI_t hx]; exact h1) ht (kk D cI cL ad ad0 n0 A p e s m args below meth c H locs ls hd hB hWd hag hn hA hS hl)
/-- a method's end -/
theorem zend {D : va_G} {cI cL : ClassId} {ad ad0 : Nat → Nat} {n0 : Nat} {A : Nat → Prop} {s : State} {args : Array Value} {H : Heap} {locs : List Loc} (hWd : zW D cI cL ad A s H mem) (hag : zAg X.al n0 ad ad0) (hn : n0 ≤ mem.length) (hS : va_S A s.heap H locs) {r : Option Value} (hQ : X.Q r mem) : ∀ t : State, t.heap = H → s.WarmedH t.vm → zQ X.al X.Q D cI cL A ad0 n0 args s (.returned (r.map (zv ad))) t :=
  fun t ht hW => ⟨r, mem, ad, rfl, hQ, hag, hn, by rw [ht]; exact hWd.moved hW, hS.F ht⟩
theorem Z_iret (k : Nat) {v : Int32} (h : X.I[k]? = some (pc, .ireturn, 1, n)) (hr : X.M.2.2.2.1 = some .int) (hm : kc ≤ X.mc ∧ ks ≤ X.ms) (hQ : X.Q (some (.int v)) mem) : Z X kc ks mem pc lv [.int v] := by
  intro D cI cL ad ad0 n0 A p e s m args below meth c H locs ls hd hB hWd hag hn hA hS hl
  obtain ⟨h1, rfl⟩ := zI_dec hd h
  refine W.widen hm.1 hm.2 ?_
  exact W.iret hB.1 hB.2.1 (hB.2.2.2.1.trans hr) (zend hWd hag hn hS hQ) hS.2.2 h1 hB.2.2.2.2.1
theorem Z_zret (k : Nat) {v : Int32} {ty : FieldType} (h : X.I[k]? = some (pc, .ireturn, 1, n)) (hr : X.M.2.2.2.1 = some ty) (hv : narrow ty (.int v) = .int v) (hm : kc ≤ X.mc ∧ ks ≤ X.ms) (hQ : X.Q (some (.int v)) mem) : Z X kc ks mem pc lv [.int v] := by
  intro D cI cL ad ad0 n0 A p e s m args below meth c H locs ls hd hB hWd hag hn hA hS hl
  obtain ⟨h1, rfl⟩ := zI_dec hd h
  refine W.widen hm.1 hm.2 ?_
  exact W.zret hB.1 hB.2.1 (hB.2.2.2.1.trans hr) hv (zend hWd hag hn hS hQ) hS.2.2 h1 hB.2.2.2.2.1
theorem Z_lret (k : Nat) {v : Int64} (h : X.I[k]? = some (pc, .lreturn, 1, n)) (hr : X.M.2.2.2.1 = some .long) (hm : kc ≤ X.mc ∧ ks ≤ X.ms) (hQ : X.Q (some (.long v)) mem) : Z X kc ks mem pc lv [.long v] := by
  intro D cI cL ad ad0 n0 A p e s m args below meth c H locs ls hd hB hWd hag hn hA hS hl
  obtain ⟨h1, rfl⟩ := zI_dec hd h
  refine W.widen hm.1 hm.2 ?_
  exact W.lret hB.1 hB.2.1 (hB.2.2.2.1.trans hr) (zend hWd hag hn hS hQ) hS.2.2 h1 hB.2.2.2.2.1
theorem Z_vret (k : Nat) (h : X.I[k]? = some (pc, .return_, 1, n)) (hr : X.M.2.2.2.1 = none) (hm : kc ≤ X.mc ∧ ks ≤ X.ms) (hQ : X.Q none mem) : Z X kc ks mem pc lv [] := by
  intro D cI cL ad ad0 n0 A p e s m args below meth c H locs ls hd hB hWd hag hn hA hS hl
  obtain ⟨h1, rfl⟩ := zI_dec hd h
  refine W.widen hm.1 hm.2 ?_
  exact W.vret hB.1 hB.2.1 (hB.2.2.2.1.trans hr) (zend (r := none) hWd hag hn hS hQ) hS.2.2 h1 hB.2.2.2.2.1
theorem Z_aret (k : Nat) {q : Nat} {C : String} (h : X.I[k]? = some (pc, .areturn, 1, n)) (hr : X.M.2.2.2.1 = some (.object C)) (hm : kc ≤ X.mc ∧ ks ≤ X.ms) (hQ : X.Q (some (.ref q)) mem) : Z X kc ks mem pc lv [.ref q] := by
  intro D cI cL ad ad0 n0 A p e s m args below meth c H locs ls hd hB hWd hag hn hA hS hl
  obtain ⟨h1, rfl⟩ := zI_dec hd h
  refine W.widen hm.1 hm.2 ?_
  exact W.aret hB.1 hB.2.1 (hB.2.2.2.1.trans hr) (Or.inl ⟨_, rfl⟩) (Or.inr ⟨_, rfl⟩) (zend (r := some (.ref q)) hWd hag hn hS hQ) hS.2.2 h1 hB.2.2.2.2.1
end ZH
/-- a contract from the walk of the method's body -/
theorem Con.of_Z {l : Launch} {M : zM} {rm : Room} {mc ms : Nat} {al : Bool} {av : List Value} {mem : List zE} {Q : Option Value → List zE → Prop} (hy : plainName M.1.cls = true) (hd : zDec M) (hlen : (lg_sl av).length ≤ M.2.2.1) (h : Z (l, M, rm, (mc, ms), al, Q) 0 0 mem 0 (lv_args 0 av) []) : Con l M rm mc ms al av mem Q := by
  intro D cI cL ad0 sz
  refine Met.ofW (cc := M.2.1) (maxL := M.2.2.1) (ret := M.2.2.2.1) hy rfl ?_
  intro p e s m args below meth c s₁ B hml hv
  obtain ⟨rfl, hsz, hWd, hK, hNW⟩ := hv
  have hts := atoms_spec (ws := zws M) B.pre
  have hown : s.vm.findClass M.1.cls = some m.cls := findClass_of_methodNamed B.named
  have hin : meth.name = M.1.name := (name_of_methodNamed B.named B.method).1
  subst hsz
  have hl := lv_entry (av.map (zv ad0)) (n := M.2.2.1) (by rw [lg_sl_zv]; exact hlen)
  rw [lv_args_zv] at hl
  rw [lg_entry_eq]
  exact h D cI cL ad0 ad0 mem.length (zA mem ad0 s.heap.size) p e s m _ below meth c s.heap [] _ hd ⟨B.exec, B.bytes, hml, B.returns, B.notSynchronized, hown, hin, fun w hw => hts w (List.mem_cons_of_mem _ hw), hNW, hK⟩ hWd zAg.rf (Nat.le_refl _) (fun q hq => Or.inr hq) va_S.rf hl
end
section
/-! calls: the callee's world is a part of the caller's, by places -/
def zr (is : List Nat) : Nat → Nat := fun j => is.getD j 0
def renE (f : Nat → Nat) : zE → zE
  | .inl o => .inl (o.1, o.2.map (zv f))
  | .inr (.inl x) => .inr (.inl x)
  | .inr (.inr (.inl x)) => .inr (.inr (.inl x))
  | .inr (.inr (.inr (.inl x))) => .inr (.inr (.inr (.inl x)))
  | .inr (.inr (.inr (.inr (.inl x)))) => .inr (.inr (.inr (.inr (.inl x))))
  | .inr (.inr (.inr (.inr (.inr (.inl x))))) => .inr (.inr (.inr (.inr (.inr (.inl (x.1, f x.2))))))
  | .inr (.inr (.inr (.inr (.inr (.inr (.inl l)))))) => .inr (.inr (.inr (.inr (.inr (.inr (.inl (l.map (fun q => (q.1, q.2.1, q.2.2.1, zv f q.2.2.2)))))))))
  | .inr (.inr (.inr (.inr (.inr (.inr (.inr u)))))) => .inr (.inr (.inr (.inr (.inr (.inr (.inr u))))))
theorem zv_zv (f g : Nat → Nat) (v : Value) : zv f (zv g v) = zv (fun j => f (g j)) v := by cases v <;> rfl
theorem renE_rw (f : Nat → Nat) (e : zE) : zrw (renE f e) = zrw e := by rcases e with o | x | x | x | x | x | x | x <;> rfl
theorem zat_ren {D : va_G} {cI cL : ClassId} {ad : Nat → Nat} {f : Nat → Nat} {A : Nat → Prop} {U : State} {H : Heap} {a : Nat} {e : zE} : zat D cI cL ad A U H a (renE f e) ↔ zat D cI cL (fun j => ad (f j)) A U H a e := by
  rcases e with o | x | x | x | x | x | x | x
  · have e1 : (o.2.map (zv f)).map (zv ad) = o.2.map (zv (fun j => ad (f j))) := by
      rw [List.map_map]
      exact List.map_congr_left (fun v _ => zv_zv ad f v)
    show (A a ∧ ∃ r : vw_C, zCls[o.1]? = some r ∧ t_OB a (D.1 o.1) r.2.2 (D.2 o.1) H (vp_V ((o.2.map (zv f)).map (zv ad)))) ↔ _
    rw [e1]
    exact Iff.rfl
  · exact Iff.rfl
  · exact Iff.rfl
  · exact Iff.rfl
  · exact Iff.rfl
  · exact Iff.rfl
  · constructor
    · intro h
      refine ⟨fun q hq => ?_, h.2⟩
      have := h.1 (q.1, q.2.1, q.2.2.1, zv f q.2.2.2) (List.mem_map.mpr ⟨q, hq, rfl⟩)
      dsimp only at this
      rw [zv_zv] at this
      exact this
    · intro h
      refine ⟨fun q hq => ?_, h.2⟩
      obtain ⟨q0, h1, rfl⟩ := List.mem_map.mp hq
      have := h.1 q0 h1
      dsimp only
      rw [zv_zv]
      exact this
  · exact Iff.rfl
/-- a cell of the callee's world: the same one, or the caller's row read only -/
def zSub (o : Option zE) (e : zE) : Prop := o = some e ∨ ∃ (N : Nat) (F : Int → Int), e = aR N F ∧ o = some (aI N F) ∧ N < 2147483648
def zEL (mem : List zE) (f : Nat → Nat) : List Nat → List zE → Prop
  | i :: is, e :: sub => zSub (mem[i]?) (renE f e) ∧ zEL mem f is sub
  | [], [] => True
  | _, _ => False
def zEmb (is : List Nat) (mem sub : List zE) : Prop := is.Nodup ∧ zEL mem (zr is) is sub
theorem zEL_at {mem : List zE} {f : Nat → Nat} : ∀ {is : List Nat} {sub : List zE}, zEL mem f is sub → is.length = sub.length ∧ ∀ (j : Nat) (e : zE), sub[j]? = some e → ∃ i, is[j]? = some i ∧ zSub (mem[i]?) (renE f e) := by
  intro is
  induction is with
  | nil =>
    intro sub h
    cases sub with
    | nil => exact ⟨rfl, fun j e h => by simp at h⟩
    | cons e sub => exact h.elim
  | cons i is ih =>
    intro sub h
    cases sub with
    | nil => exact h.elim
    | cons e0 sub =>
      obtain ⟨h1, h2⟩ := ih h.2
      refine ⟨by simp [h1], fun j e hj => ?_⟩
      cases j with
      | zero =>
        simp at hj
        subst hj
        exact ⟨i, rfl, h.1⟩
      | succ j =>
        simp at hj
        obtain ⟨i2, g1, g2⟩ := h2 j e hj
        exact ⟨i2, by simpa using g1, g2⟩
theorem zr_at {is : List Nat} {j i : Nat} (h : is[j]? = some i) : zr is j = i := by
  simp [zr, List.getD_eq_getElem?_getD, h]
theorem nodup_at {is : List Nat} (h : is.Nodup) {i j k : Nat} (hi : is[i]? = some k) (hj : is[j]? = some k) : i = j := by
  have h1 := (List.getElem?_eq_some_iff.mp hi).1
  exact (List.getElem?_inj h1 h).mp (hi.trans hj.symm)
theorem aR_of_ren {f : Nat → Nat} {e : zE} {N : Nat} {F : Int → Int} (h : renE f e = aR N F) : e = aR N F := by
  rcases e with o | x | x | x | x | x | x | x <;> first | exact h | cases h
theorem zW.sub {D : va_G} {cI cL : ClassId} {ad : Nat → Nat} {A : Nat → Prop} {s : State} {H : Heap} {mem sub : List zE} {is : List Nat} (hK : va_K D zCls [(cI, .int), (cL, .long)] s) (hWd : zW D cI cL ad A s H mem) (hE : zEmb is mem sub) :
    zW D cI cL (fun j => ad (zr is j)) (zA sub (fun j => ad (zr is j)) H.size) s H sub := by
  obtain ⟨hnd, hel⟩ := hE
  obtain ⟨hlen, hat⟩ := zEL_at hel
  -- a cell of the callee that may be written is one of the caller's
  have hrwc : ∀ (j : Nat) (e : zE), sub[j]? = some e → zrw e = true → ∃ i, is[j]? = some i ∧ mem[i]? = some (renE (zr is) e) ∧ A (ad i) := by
    intro j e hj he
    obtain ⟨i, h1, h2⟩ := hat j e hj
    rcases h2 with h2 | ⟨N, F, h2, -⟩
    · exact ⟨i, h1, h2, zat_in (hWd.1 i _ h2) (by rw [renE_rw]; exact he)⟩
    · rw [aR_of_ren h2] at he
      cases he
  have harea : ∀ q, q < H.size → ¬ A q → ¬ zA sub (fun j => ad (zr is j)) H.size q := by
    intro q hq hA hB
    rcases hB with ⟨j, e, h1, h2, h3⟩ | hB
    · obtain ⟨i, g1, g2, g3⟩ := hrwc j e h1 h2
      dsimp only at h3
      rw [zr_at g1] at h3
      exact hA (h3 ▸ g3)
    · omega
  refine ⟨fun j e hj => ?_, fun i j x y hi hj hx hy hxy => ?_⟩
  · obtain ⟨i, h1, h2⟩ := hat j e hj
    dsimp only
    rw [zr_at h1]
    rcases h2 with h2 | ⟨N, F, h2, h3, h4⟩
    · refine zat_area (zat_ren.mp (hWd.1 i _ h2)) harea (fun he => Or.inl ⟨j, e, hj, he, ?_⟩)
      dsimp only
      rw [zr_at h1]
    · have he := aR_of_ren h2
      subst he
      obtain ⟨g1, g2⟩ := hWd.1 i _ h3
      refine ⟨_, g2, (hK.2 0 _ rfl).1 N (fun j => .int (iI (F (j : Int)))), (fun z => by cases z), ?_, ?_, ?_, ?_⟩
      · show N ≤ (arrV _ _ _).slots.size
        rw [arrV_size]
        exact Nat.le_refl _
      · show (arrV _ _ _).slots.size.toInt32 = _
        rw [arrV_size]
      · intro k hk
        show (arrV _ _ _).slots[k]? = _
        rw [arrV_read _ _ hk]
      · rintro (⟨j2, e2, k1, k2, k3⟩ | hB)
        · obtain ⟨i2, l1, l2, l3⟩ := hrwc j2 e2 k1 k2
          dsimp only at k3
          rw [zr_at l1] at k3
          have := hWd.2 i2 i _ _ l2 h3 (by rw [renE_rw]; exact k2) rfl k3
          subst this
          have := nodup_at hnd l1 h1
          subst this
          rw [k1] at hj
          cases hj
          cases k2
        · have := (Array.getElem?_eq_some_iff.mp g2).1
          omega
  · obtain ⟨i', a1, a2, a3⟩ := hrwc i x hi hx
    obtain ⟨j', b1, b2, b3⟩ := hrwc j y hj hy
    dsimp only at hxy
    rw [zr_at a1, zr_at b1] at hxy
    have := hWd.2 i' j' _ _ a2 b2 (by rw [renE_rw]; exact hx) (by rw [renE_rw]; exact hy) hxy
    subst this
    exact nodup_at hnd a1 b1
/-- the caller's world behind a call -/
def zMg (f : Nat → Nat) : List Nat → List zE → List zE → List zE
  | i :: is, e :: out, mem => zMg f is out (if zrw e = true then mem.set i (renE f e) else mem)
  | _, _, mem => mem
theorem zMg_len (f : Nat → Nat) : ∀ (is : List Nat) (out mem : List zE), (zMg f is out mem).length = mem.length := by
  intro is
  induction is with
  | nil => intro out mem; rfl
  | cons i is ih =>
    intro out mem
    cases out with
    | nil => rfl
    | cons e out =>
      unfold zMg
      rw [ih]
      split <;> simp
theorem zMg_at {f : Nat → Nat} : ∀ {is : List Nat} {out mem : List zE} {k : Nat} {x : zE}, is.Nodup → (zMg f is out mem)[k]? = some x → (∃ (j : Nat) (e : zE), is[j]? = some k ∧ out[j]? = some e ∧ zrw e = true ∧ x = renE f e) ∨ (mem[k]? = some x ∧ ∀ (j : Nat) (e : zE), is[j]? = some k → out[j]? = some e → zrw e = false) := by
  intro is
  induction is with
  | nil =>
    intro out mem k x _ h
    exact Or.inr ⟨h, fun j e h => by simp at h⟩
  | cons i is ih =>
    intro out mem k x hnd h
    cases out with
    | nil => exact Or.inr ⟨h, fun j e _ h => by simp at h⟩
    | cons e out =>
      unfold zMg at h
      have hnd2 := List.nodup_cons.mp hnd
      rcases ih hnd2.2 h with ⟨j, e1, h1, h2, h3, h4⟩ | ⟨h1, h2⟩
      · exact Or.inl ⟨j + 1, e1, by simpa using h1, by simpa using h2, h3, h4⟩
      · by_cases hki : k = i
        · subst hki
          by_cases he : zrw e = true
          · rw [if_pos he] at h1
            have hl := (List.getElem?_eq_some_iff.mp h1).1
            rw [List.length_set] at hl
            rw [List.getElem?_set_self hl] at h1
            cases h1
            exact Or.inl ⟨0, e, rfl, rfl, he, rfl⟩
          · rw [if_neg he] at h1
            refine Or.inr ⟨h1, fun j e1 g1 g2 => ?_⟩
            cases j with
            | zero =>
              simp at g2
              subst g2
              simpa using he
            | succ j => exact h2 j e1 (by simpa using g1) (by simpa using g2)
        · refine Or.inr ⟨?_, fun j e1 g1 g2 => ?_⟩
          · split at h1
            · rw [List.getElem?_set_ne (Ne.symm hki)] at h1
              exact h1
            · exact h1
          · cases j with
            | zero =>
              simp at g1
              exact absurd g1.symm hki
            | succ j => exact h2 j e1 (by simpa using g1) (by simpa using g2)
theorem zat_rwU {D : va_G} {cI cL : ClassId} {ad : Nat → Nat} {A B : Nat → Prop} {u U : State} {H : Heap} {a : Nat} {e : zE} (he : zrw e = true) (hA : A a) (h : zat D cI cL ad B u H a e) : zat D cI cL ad A U H a e := by
  rcases e with o | x | x | x | x | x | x | x
  · exact ⟨hA, h.2⟩
  · exact ⟨hA, h.2⟩
  · exact ⟨hA, h.2⟩
  all_goals (cases he)
theorem zW.back {D : va_G} {cI cL : ClassId} {ad : Nat → Nat} {A : Nat → Prop} {s t : State} {H H1 : Heap} {mem sub out : List zE} {is : List Nat} (hK : va_K D zCls [(cI, .int), (cL, .long)] s) (hWd : zW D cI cL ad A s H mem) (hE : zEmb is mem sub) (hlen : sub.length ≤ out.length)
    (h1 : zW D cI cL (fun j => ad (zr is j)) (zA sub (fun j => ad (zr is j)) H.size) t H1 out) (hz : H.size ≤ H1.size) (hk : ∀ q : Nat, q < H.size → ¬ zA sub (fun j => ad (zr is j)) H.size q → H1[q]? = H[q]?) : zW D cI cL ad A s H1 (zMg (zr is) is out mem) := by
  have hsub := zW.sub hK hWd hE
  obtain ⟨hnd, hel⟩ := hE
  obtain ⟨hlen0, hat⟩ := zEL_at hel
  -- the callee's cells are of one kind before and behind
  have hkind : ∀ (j : Nat) (x y : zE), sub[j]? = some x → out[j]? = some y → zrw x = zrw y := by
    intro j x y hx hy
    have a1 := hsub.1 j x hx
    have a2 := h1.1 j y hy
    cases hx1 : zrw x <;> cases hy1 : zrw y
    · rfl
    · exact absurd (zat_in a2 hy1) (zat_out a1 hx1)
    · exact absurd (zat_in a1 hx1) (zat_out a2 hy1)
    · rfl
  have hmem : ∀ (j k : Nat) (x : zE), is[j]? = some k → sub[j]? = some x → zrw x = true → mem[k]? = some (renE (zr is) x) ∧ A (ad k) := by
    intro j k x hj hx hrw
    obtain ⟨i, g1, g2⟩ := hat j x hx
    rw [hj] at g1
    cases g1
    rcases g2 with g2 | ⟨N, F, g2, -⟩
    · exact ⟨g2, zat_in (hWd.1 k _ g2) (by rw [renE_rw]; exact hrw)⟩
    · rw [aR_of_ren g2] at hrw
      cases hrw
  have hsubat : ∀ (j k : Nat), is[j]? = some k → ∃ x, sub[j]? = some x := by
    intro j k hj
    have := (List.getElem?_eq_some_iff.mp hj).1
    exact ⟨_, List.getElem?_eq_getElem (by omega)⟩
  refine ⟨fun k x hx => ?_, fun i j x y hi hj hxr hyr hxy => ?_⟩
  · rcases zMg_at hnd hx with ⟨j, e, g1, g2, g3, rfl⟩ | ⟨g1, g2⟩
    · obtain ⟨x0, hx0⟩ := hsubat j k g1
      obtain ⟨m1, m2⟩ := hmem j k x0 g1 hx0 (by rw [hkind j x0 e hx0 g2]; exact g3)
      have := h1.1 j e g2
      dsimp only at this
      rw [zr_at g1] at this
      exact zat_rwU (by rw [renE_rw]; exact g3) m2 (zat_ren.mpr this)
    · have hx0 := hWd.1 k x g1
      refine zat_kept hx0 hz (fun q hq hA => hk q hq ?_) (fun hrw => hk _ (zat_lt hx0) ?_)
      · rintro (⟨j, e, k1, k2, k3⟩ | hB)
        · obtain ⟨i, l1⟩ : ∃ i, is[j]? = some i := ⟨_, List.getElem?_eq_getElem (by have := (List.getElem?_eq_some_iff.mp k1).1; omega)⟩
          dsimp only at k3
          rw [zr_at l1] at k3
          exact hA (k3 ▸ (hmem j i e l1 k1 k2).2)
        · omega
      · rintro (⟨j, e, k1, k2, k3⟩ | hB)
        · obtain ⟨i, l1⟩ : ∃ i, is[j]? = some i := ⟨_, List.getElem?_eq_getElem (by have := (List.getElem?_eq_some_iff.mp k1).1; omega)⟩
          dsimp only at k3
          rw [zr_at l1] at k3
          obtain ⟨m1, m2⟩ := hmem j i e l1 k1 k2
          have := hWd.2 i k _ _ m1 g1 (by rw [renE_rw]; exact k2) hrw k3
          subst this
          obtain ⟨y, hy⟩ : ∃ y, out[j]? = some y := ⟨_, List.getElem?_eq_getElem (by have := (List.getElem?_eq_some_iff.mp k1).1; omega)⟩
          have := g2 j y l1 hy
          rw [← hkind j e y k1 hy, k2] at this
          cases this
        · have := zat_lt hx0
          omega
  · have key : ∀ (k : Nat) (x : zE), (zMg (zr is) is out mem)[k]? = some x → zrw x = true → ∃ x0, mem[k]? = some x0 ∧ zrw x0 = true := by
      intro k x hx hr
      rcases zMg_at hnd hx with ⟨j, e, g1, g2, g3, rfl⟩ | ⟨g1, g2⟩
      · obtain ⟨x0, hx0⟩ := hsubat j k g1
        have hr0 : zrw x0 = true := by rw [hkind j x0 e hx0 g2]; exact g3
        exact ⟨_, (hmem j k x0 g1 hx0 hr0).1, by rw [renE_rw]; exact hr0⟩
      · exact ⟨x, g1, hr⟩
    obtain ⟨x0, a1, a2⟩ := key i x hi hxr
    obtain ⟨y0, b1, b2⟩ := key j y hj hyr
    exact hWd.2 i j x0 y0 a1 b1 a2 b2 hxy
/-- a method that may be called: its words -/
def zCb (M : zM) (nargs : Nat) : Prop := Cond.initialized M.1.cls ∈ zTB ∧ Cond.code M.1 M.2.1 M.2.2.1 M.2.2.2.1 ∈ zTB ∧ (M.1.cls ≠ "java/lang/invoke/MethodHandle" ∧ M.1.cls ≠ "java/lang/invoke/VarHandle" ∧ (parseMethodDescriptor M.1.desc).map (fun d => d.parameters.length) = some nargs)
def zCv (M : zM) (nargs : Nat) : Prop := zCb M nargs ∧ Cond.instanceMethod M.1 ∈ zTB ∧ Cond.selects M.1.cls M.1 M.1 ∈ zTB
def zCs (M : zM) (nargs : Nat) : Prop := zCb M nargs ∧ Cond.static M.1 ∈ zTB
def zCi (M : zM) (nargs : Nat) : Prop := zCb M nargs ∧ Cond.instanceMethod M.1 ∈ zTB ∧ M.1.name = "<init>" ∧ M.2.2.2.1 = none
theorem zGood {ws : List Cond} (h : ∀ w ∈ ws, w ∈ zTB) : GoodIn zTB ws := fun w hw => ⟨h w hw, good_of_word (zTB_good (h w hw))⟩
theorem zws_in {M : zM} {n : Nat} (h : zCb M n) : ∀ w ∈ zws M, w ∈ zTB := by
  intro w hw
  rcases List.mem_cons.mp hw with rfl | hw
  · exact h.2.1
  · exact hw
theorem zcat_sum (ad : Nat → Nat) (st : List Value) : ((st.map (zv ad)).map fun v => v.category).sum = (st.map fun v => v.category).sum := by
  rw [List.map_map]
  congr 1
  exact List.map_congr_left (fun v _ => zv_cat ad v)
/-- what a callee's start asks, out of the caller's world -/
theorem zPc_of {l : Launch} {D : va_G} {cI cL : ClassId} {ad : Nat → Nat} {A : Nat → Prop} {s : State} {H : Heap} {mem sub : List zE} {is : List Nat} {av : List Value} (hK : va_K D zCls [(cI, .int), (cL, .long)] s) (hNW : ∀ w ∈ zNW, va_Nw w s) (hWd : zW D cI cL ad A s H mem) (hE : zEmb is mem sub) : ∀ U : State, U.heap = H → s.WarmedH U.vm →
    va_Pc (av.map (zv (fun j => ad (zr is j)))) (fun U => U.heap.size = H.size ∧ zW D cI cL (fun j => ad (zr is j)) (zA sub (fun j => ad (zr is j)) H.size) U U.heap sub ∧ va_K D zCls [(cI, .int), (cL, .long)] U ∧ ∀ w ∈ zNW, va_Nw w U) ((av.map (zv (fun j => ad (zr is j)))).toArray) U := by
  intro U hU hW
  refine ⟨rfl, by rw [hU], ?_, va_K.moved hW.alike hK, fun w hw => ?_⟩
  · rw [hU]
    exact (zW.sub hK hWd hE).moved hW
  · have h1 := zNW_nest hw
    have h2 := hNW w hw
    cases w <;> first | exact va_Nw.warmF hW h2 | exact va_Nw.warmM hW h2 | (exact absurd h1 (by simp [zIsNest]))
theorem zPc_blind {D : va_G} {cI cL : ClassId} {ad0 : Nat → Nat} {A : Nat → Prop} {sz : Nat} {mem : List zE} {av : List Value} : FrameBlind (va_Pc av (fun U => U.heap.size = sz ∧ zW D cI cL ad0 A U U.heap mem ∧ va_K D zCls [(cI, .int), (cL, .long)] U ∧ ∀ w ∈ zNW, va_Nw w U)) := by
  intro a U g mk h
  obtain ⟨h1, h2, h3, h4, h5⟩ := h
  refine ⟨h1, h2, zW.same (u := U) (U := U.calling g mk a) rfl h3, va_K.moved (u := U) (U := U.calling g mk a) (Vm.Alike.refl U.vm) h4, fun w hw => ?_⟩
  have g1 := zNW_nest hw
  have g2 := h5 w hw
  cases w <;> first | exact va_Nw.same (u := U) rfl rfl g2 | (exact absurd g1 (by simp [zIsNest]))
section ZC
variable {p : Program} {l : Launch} {e : Env} {R : Room} {s : State} {m : MethodId} {args : Array Value} {below : List Frame} {meth : Method} {c : Code} {H : Heap} {locs : List Loc} {cells slots : Nat} {Q : State → Prop}
variable {pc : Nat} {ls : Array Slot} {rest st0 : List Value} {a : Array Value} {A B : Nat → Prop} {mc ms n0 : Nat} {al : Bool} {D : va_G} {cI cL : ClassId} {ad0 : Nat → Nat}
theorem zcallW {Q' : Option Value → List zE → Prop} (hr : va_Run p l e R s m args below meth c H locs cells slots mc ms (F0 m pc ls st0) rest (zQ al Q' D cI cL B ad0 n0 a) B) (hS : va_S A s.heap H locs) (hBA : ∀ q, B q → A q)
    (kk : ∀ (r : Option Value) (out : List zE) (ad1 : Nat → Nat) (t : State) (H1 : Heap) (locs1 : List Loc), Q' r out → zAg al n0 ad1 ad0 → n0 ≤ out.length → zW D cI cL ad1 B t H1 out → H.size ≤ H1.size → (∀ q : Nat, q < H.size → ¬ B q → H1[q]? = H[q]?) → va_S A s.heap H1 locs1 → W p l e R s m args below meth c H1 locs1 (cells + mc) (slots + ms) Q (F0 m (pc + 3) ls ((r.map (zv ad1)).toList ++ rest))) : W p l e R s m args below meth c H locs cells slots Q (F0 m pc ls st0) := by
  intro T hT X
  obtain ⟨v, st₀, t, T', L, h0, X', hL, e1, e2, ⟨r, out, ad1, hv, hq, hag, hn, hWd, hz, hk⟩, st⟩ := hr T hT X
  cases hv
  rw [h0] at hz hk
  obtain ⟨t2, a1, b1⟩ := kk r out ad1 t T'.heap (locs ++ L) hq hag hn (by rw [e1]; exact hWd) (by rw [e1]; exact hz) (fun q h1 h2 => by rw [e1]; exact hk q h1 h2)
    ⟨Nat.le_trans hS.1 (by rw [e1]; exact hz), fun q h1 h2 => by rw [e1, hk q (Nat.lt_of_lt_of_le h1 hS.1) (fun z => h2 (hBA q z))]; exact hS.2.1 q h1 h2, fun q hq => by
      rcases List.mem_append.mp hq with h | h
      · exact hS.2.2 q h
      · exact hBA _ (hL q h)⟩ T' rfl X'
  exact ⟨t2, st t2 a1, b1⟩
end ZC
theorem zA_sub {D : va_G} {cI cL : ClassId} {ad : Nat → Nat} {A : Nat → Prop} {s : State} {H : Heap} {mem sub : List zE} {is : List Nat} (hWd : zW D cI cL ad A s H mem) (hE : zEmb is mem sub) (hA : ∀ q, s.heap.size ≤ q → A q) (hz : s.heap.size ≤ H.size) : ∀ q, zA sub (fun j => ad (zr is j)) H.size q → A q := by
  rintro q (⟨j, e, h1, h2, h3⟩ | h)
  · obtain ⟨hlen, hat⟩ := zEL_at hE.2
    obtain ⟨i, g1, g2⟩ := hat j e h1
    dsimp only at h3
    rw [zr_at g1] at h3
    rcases g2 with g2 | ⟨N, F, g2, -⟩
    · exact h3 ▸ zat_in (hWd.1 i _ g2) (by rw [renE_rw]; exact h2)
    · rw [aR_of_ren g2] at h2
      cases h2
  · exact hA q (by omega)
def zRv (mem : List zE) (b : Nat) (C : String) : Prop := (∃ (ci : Nat) (fs : List Value) (T : u_T) (N : Nat), mem[b]? = some (zO ci fs) ∧ zCls[ci]? = some (C, T, N)) ∨ (∃ (i j : Nat), mem[b]? = some (zS i j) ∧ C = "java/lang/String")
theorem zRv_cell {D : va_G} {cI cL : ClassId} {ad : Nat → Nat} {A : Nat → Prop} {s : State} {H : Heap} {mem : List zE} {b : Nat} {C : String} (hK : va_K D zCls [(cI, .int), (cL, .long)] s) (hWd : zW D cI cL ad A s H mem) (h : zRv mem b C) : ∃ cell : Cell, H[ad b]? = some cell ∧ cell.vm.isStatics = false ∧ s.vm.findClass C = some cell.cls := by
  rcases h with ⟨ci, fs, T, N, h1, h2⟩ | ⟨i, j, h1, rfl⟩
  · exact va_recv hK (zP1 (hWd.1 b _ h1)) (ci := ci) (q0 := 0) h2 rfl
  · obtain ⟨cell, g1, g2, g3, g4⟩ := (hWd.1 b _ h1).2.1
    exact ⟨cell, g1, g2, g3⟩
end
section
/-! the rows of Z for calls, for making cells, for the JDK's own -/
section ZK
variable {X : zX} {kc ks : Nat} {mem : List zE} {pc n : Nat} {lv : List (Nat × Value)} {st : List Value}
theorem zlv_size {ls : Array Slot} {nL : Nat} {l : List (Nat × Value)} (h : lv_has ls nL l) : ls.size = nL := h.1
abbrev zRm (rm R : Room) (M : zM) : Prop := rm.cells = 0 ∧ rm.slots = 0 ∧ rm.frames + 1 ≤ R.frames ∧ 8 + (M.2.2.1 + 11) + rm.locals ≤ R.locals
/-- an instance method -/
theorem Z_callV (k : Nat) {idx b nargs : Nat} {M' : zM} {rm : Room} {As : List Value} {sub : List zE} {Q' : Option Value → List zE → Prop} {av : List Value} {st0 : List Value} (is : List Nat) (h : X.I[k]? = some (pc, .invokevirtual idx, 3, n)) (hlk : Cond.methodLink X.M.1.cls idx M'.1 ∈ zTB) (hM : zCv M' nargs) (hc : Con X.1 M' rm 0 0 false av sub Q') (hE : zEmb is mem sub) (hrv : zRv mem b M'.1.cls) (hav : av.map (zv (zr is)) = .ref b :: As) (hna : As.length = nargs) (hst : st0 = As.reverse ++ .ref b :: st) (hcs : (st.map fun v => v.category).sum ≤ 8) (hrm : zRm rm X.R M') (hR : kc ≤ X.R.cells ∧ ks ≤ X.R.slots)
    (kk : ∀ (r : Option Value) (out : List zE), Q' r out → Z X kc ks (zMg (zr is) is out mem) n lv ((r.map (zv (zr is))).toList ++ st)) : Z X kc ks mem pc lv st0 := by
  intro D cI cL ad ad0 n0 A p e s m args below meth c H locs ls hd hB hWd hag hn hA hS hl
  obtain ⟨h1, rfl⟩ := zI_dec hd h
  subst hst
  have hts := hB.2.2.2.2.2.2.2.1
  have hNW := hB.2.2.2.2.2.2.2.2.1
  have hK := hB.2.2.2.2.2.2.2.2.2
  have hav2 : av.map (zv (fun j => ad (zr is j))) = .ref (ad b) :: As.map (zv ad) := by
    have := congrArg (List.map (zv ad)) hav
    rw [List.map_map] at this
    rw [← show (zv ad ∘ zv (zr is)) = zv (fun j => ad (zr is j)) from funext fun v => zv_zv ad (zr is) v]
    exact this
  have hcw : CallW X.R s args X.M.1.cls M'.1.cls idx M'.1 M'.2.1 M'.2.2.1 M'.2.2.2.1 (zws M') rm 0 0 nargs := by
    refine cwV nargs hts (zGood (fun w hw => ?_)) rfl hrm.1 hrm.2.1 ⟨rfl, hM.1.2.2⟩ hrm.2.2
    rcases List.mem_append.mp hw with hw | hw
    · simp only [List.mem_cons, List.not_mem_nil, or_false] at hw
      rcases hw with rfl | rfl | rfl | rfl
      · exact hlk
      · exact hM.2.1
      · exact hM.2.2
      · exact hM.1.1
    · exact zws_in hM.1 w hw
  have hpre := zPc_of (l := X.1) (av := av) hK hNW hWd hE
  rw [hav2] at hpre
  have hcon := hc D cI cL (fun j => ad (zr is j)) H.size
  rw [hav2] at hcon
  have e0 : (As.reverse ++ Value.ref b :: st).map (zv ad) = (As.map (zv ad)).reverse ++ .ref (ad b) :: st.map (zv ad) := by simp [zv]
  rw [e0]
  refine zcallW (va_runV (rest := st.map (zv ad)) ⟨hB.1, hB.2.1, hB.2.2.1, hB.2.2.2.2.2.1, hts⟩ hcon hcw ⟨zPc_blind, zRv_cell hK hWd hrv, hpre⟩ rfl (by simpa using hna) (zlv_size hl) rfl (lv_room (by rw [zcat_sum]; exact hcs)) h1 ⟨hR.1, hR.2⟩) hS (zA_sub hWd hE hA hS.1) (fun r out ad1 t H1 locs1 hq hag1 hn1 hW1 hz1 hk1 hS1 => ?_)
  have had : ad1 = fun j => ad (zr is j) := by
    unfold zAg at hag1
    simpa using hag1
  subst had
  have e1 : (r.map (zv (fun j => ad (zr is j)))).toList ++ st.map (zv ad) = ((r.map (zv (zr is))).toList ++ st).map (zv ad) := by
    cases r with
    | none => rfl
    | some v => simp [zv_zv]
  rw [e1]
  exact kk r out hq D cI cL ad ad0 n0 A p e s m args below meth c H1 locs1 ls hd hB (zW.back hK hWd hE hn1 hW1 hz1 hk1) hag (by rw [zMg_len]; exact hn) hA hS1 hl
/-- a nest mate's private instance method -/
theorem Z_callVN (k : Nat) {idx b nargs : Nat} {host : String} {M' : zM} {rm : Room} {As : List Value} {sub : List zE} {Q' : Option Value → List zE → Prop} {av : List Value} {st0 : List Value} (is : List Nat) (h : X.I[k]? = some (pc, .invokevirtual idx, 3, n)) (hlk : Cond.methodLinkNest X.M.1.cls idx M'.1 host ∈ zNW) (hM : zCv M' nargs) (hc : Con X.1 M' rm 0 0 false av sub Q') (hE : zEmb is mem sub) (hrv : zRv mem b M'.1.cls) (hav : av.map (zv (zr is)) = .ref b :: As) (hna : As.length = nargs) (hst : st0 = As.reverse ++ .ref b :: st) (hcs : (st.map fun v => v.category).sum ≤ 8) (hrm : zRm rm X.R M') (hR : kc ≤ X.R.cells ∧ ks ≤ X.R.slots)
    (kk : ∀ (r : Option Value) (out : List zE), Q' r out → Z X kc ks (zMg (zr is) is out mem) n lv ((r.map (zv (zr is))).toList ++ st)) : Z X kc ks mem pc lv st0 := by
  intro D cI cL ad ad0 n0 A p e s m args below meth c H locs ls hd hB hWd hag hn hA hS hl
  obtain ⟨h1, rfl⟩ := zI_dec hd h
  subst hst
  have hts := hB.2.2.2.2.2.2.2.1
  have hNW := hB.2.2.2.2.2.2.2.2.1
  have hK := hB.2.2.2.2.2.2.2.2.2
  have hav2 : av.map (zv (fun j => ad (zr is j))) = .ref (ad b) :: As.map (zv ad) := by
    have := congrArg (List.map (zv ad)) hav
    rw [List.map_map] at this
    rw [← show (zv ad ∘ zv (zr is)) = zv (fun j => ad (zr is j)) from funext fun v => zv_zv ad (zr is) v]
    exact this
  have hcw := va_cnB (R := X.R) (mc := 0) (ms := 0) (rm := rm) (ws' := zTB) (ws := zws M') nargs hts (zGood (zws_in hM.1)) rfl hrm.1 hrm.2.1 (hNW _ hlk) (hts _ hM.1.1) hM.1.2.2 hrm.2.2
  have hpre := zPc_of (l := X.1) (av := av) hK hNW hWd hE
  rw [hav2] at hpre
  have hcon := hc D cI cL (fun j => ad (zr is j)) H.size
  rw [hav2] at hcon
  have e0 : (As.reverse ++ Value.ref b :: st).map (zv ad) = (As.map (zv ad)).reverse ++ .ref (ad b) :: st.map (zv ad) := by simp [zv]
  rw [e0]
  refine zcallW (va_runVN (rest := st.map (zv ad)) ⟨hB.1, hB.2.1, hB.2.2.1, hB.2.2.2.2.2.1, hts⟩ hcon ⟨hcw, hts _ hM.2.1, hts _ hM.2.2⟩ ⟨zPc_blind, zRv_cell hK hWd hrv, hpre⟩ rfl (by simpa using hna) (zlv_size hl) rfl (lv_room (by rw [zcat_sum]; exact hcs)) h1 ⟨hR.1, hR.2⟩) hS (zA_sub hWd hE hA hS.1) (fun r out ad1 t H1 locs1 hq hag1 hn1 hW1 hz1 hk1 hS1 => ?_)
  have had : ad1 = fun j => ad (zr is j) := by
    unfold zAg at hag1
    simpa using hag1
  subst had
  have e1 : (r.map (zv (fun j => ad (zr is j)))).toList ++ st.map (zv ad) = ((r.map (zv (zr is))).toList ++ st).map (zv ad) := by
    cases r with
    | none => rfl
    | some v => simp [zv_zv]
  rw [e1]
  exact kk r out hq D cI cL ad ad0 n0 A p e s m args below meth c H1 locs1 ls hd hB (zW.back hK hWd hE hn1 hW1 hz1 hk1) hag (by rw [zMg_len]; exact hn) hA hS1 hl
/-- a static method -/
theorem Z_callS (k : Nat) {idx nargs : Nat} {M' : zM} {rm : Room} {As : List Value} {sub : List zE} {Q' : Option Value → List zE → Prop} {av : List Value} {st0 : List Value} (is : List Nat) (h : X.I[k]? = some (pc, .invokestatic idx, 3, n)) (hlk : Cond.methodLink X.M.1.cls idx M'.1 ∈ zTB) (hM : zCs M' nargs) (hc : Con X.1 M' rm 0 0 false av sub Q') (hE : zEmb is mem sub) (hav : av.map (zv (zr is)) = As) (hna : As.length = nargs) (hst : st0 = As.reverse ++ st) (hcs : (st.map fun v => v.category).sum ≤ 8) (hrm : zRm rm X.R M') (hR : kc ≤ X.R.cells ∧ ks ≤ X.R.slots)
    (kk : ∀ (r : Option Value) (out : List zE), Q' r out → Z X kc ks (zMg (zr is) is out mem) n lv ((r.map (zv (zr is))).toList ++ st)) : Z X kc ks mem pc lv st0 := by
  intro D cI cL ad ad0 n0 A p e s m args below meth c H locs ls hd hB hWd hag hn hA hS hl
  obtain ⟨h1, rfl⟩ := zI_dec hd h
  subst hst
  have hts := hB.2.2.2.2.2.2.2.1
  have hNW := hB.2.2.2.2.2.2.2.2.1
  have hK := hB.2.2.2.2.2.2.2.2.2
  have hav2 : av.map (zv (fun j => ad (zr is j))) = As.map (zv ad) := by
    have := congrArg (List.map (zv ad)) hav
    rw [List.map_map] at this
    rw [← show (zv ad ∘ zv (zr is)) = zv (fun j => ad (zr is j)) from funext fun v => zv_zv ad (zr is) v]
    exact this
  have hcw := va_cwS (R := X.R) (own := X.M.1.cls) (index := idx) (y := M'.1) (bytes := M'.2.1) (maxL := M'.2.2.1) (ret := M'.2.2.2.1) (ws := zws M') (ws' := zTB) (rm := rm) (mc := 0) (ms := 0) nargs hts (zGood (fun w hw => by
    rcases List.mem_append.mp hw with hw | hw
    · simp only [List.mem_cons, List.not_mem_nil, or_false] at hw
      rcases hw with rfl | rfl | rfl
      · exact hlk
      · exact hM.2
      · exact hM.1.1
    · exact zws_in hM.1 w hw)) rfl hrm.1 hrm.2.1 hM.1.2.2 hrm.2.2
  have hpre := zPc_of (l := X.1) (av := av) hK hNW hWd hE
  rw [hav2] at hpre
  have hcon := hc D cI cL (fun j => ad (zr is j)) H.size
  rw [hav2] at hcon
  have e0 : (As.reverse ++ st).map (zv ad) = (As.map (zv ad)).reverse ++ st.map (zv ad) := by simp
  rw [e0]
  refine zcallW (va_runS (rest := st.map (zv ad)) ⟨hB.1, hB.2.1, hB.2.2.1, hB.2.2.2.2.2.1, hts⟩ hcon hcw ⟨zPc_blind, hpre⟩ rfl (by simpa using hna) (zlv_size hl) rfl (lv_room (by rw [zcat_sum]; exact hcs)) h1 ⟨hR.1, hR.2⟩) hS (zA_sub hWd hE hA hS.1) (fun r out ad1 t H1 locs1 hq hag1 hn1 hW1 hz1 hk1 hS1 => ?_)
  have had : ad1 = fun j => ad (zr is j) := by
    unfold zAg at hag1
    simpa using hag1
  subst had
  have e1 : (r.map (zv (fun j => ad (zr is j)))).toList ++ st.map (zv ad) = ((r.map (zv (zr is))).toList ++ st).map (zv ad) := by
    cases r with
    | none => rfl
    | some v => simp [zv_zv]
  rw [e1]
  exact kk r out hq D cI cL ad ad0 n0 A p e s m args below meth c H1 locs1 ls hd hB (zW.back hK hWd hE hn1 hW1 hz1 hk1) hag (by rw [zMg_len]; exact hn) hA hS1 hl
/-- a nest mate's private static method -/
theorem Z_callSN (k : Nat) {idx nargs : Nat} {host : String} {M' : zM} {rm : Room} {As : List Value} {sub : List zE} {Q' : Option Value → List zE → Prop} {av : List Value} {st0 : List Value} (is : List Nat) (h : X.I[k]? = some (pc, .invokestatic idx, 3, n)) (hlk : Cond.methodLinkNest X.M.1.cls idx M'.1 host ∈ zNW) (hM : zCs M' nargs) (hc : Con X.1 M' rm 0 0 false av sub Q') (hE : zEmb is mem sub) (hav : av.map (zv (zr is)) = As) (hna : As.length = nargs) (hst : st0 = As.reverse ++ st) (hcs : (st.map fun v => v.category).sum ≤ 8) (hrm : zRm rm X.R M') (hR : kc ≤ X.R.cells ∧ ks ≤ X.R.slots)
    (kk : ∀ (r : Option Value) (out : List zE), Q' r out → Z X kc ks (zMg (zr is) is out mem) n lv ((r.map (zv (zr is))).toList ++ st)) : Z X kc ks mem pc lv st0 := by
  intro D cI cL ad ad0 n0 A p e s m args below meth c H locs ls hd hB hWd hag hn hA hS hl
  obtain ⟨h1, rfl⟩ := zI_dec hd h
  subst hst
  have hts := hB.2.2.2.2.2.2.2.1
  have hNW := hB.2.2.2.2.2.2.2.2.1
  have hK := hB.2.2.2.2.2.2.2.2.2
  have hav2 : av.map (zv (fun j => ad (zr is j))) = As.map (zv ad) := by
    have := congrArg (List.map (zv ad)) hav
    rw [List.map_map] at this
    rw [← show (zv ad ∘ zv (zr is)) = zv (fun j => ad (zr is j)) from funext fun v => zv_zv ad (zr is) v]
    exact this
  have hcw := va_cnB (R := X.R) (mc := 0) (ms := 0) (rm := rm) (ws' := zTB) (ws := zws M') nargs hts (zGood (zws_in hM.1)) rfl hrm.1 hrm.2.1 (hNW _ hlk) (hts _ hM.1.1) hM.1.2.2 hrm.2.2
  have hpre := zPc_of (l := X.1) (av := av) hK hNW hWd hE
  rw [hav2] at hpre
  have hcon := hc D cI cL (fun j => ad (zr is j)) H.size
  rw [hav2] at hcon
  have e0 : (As.reverse ++ st).map (zv ad) = (As.map (zv ad)).reverse ++ st.map (zv ad) := by simp
  rw [e0]
  refine zcallW (va_runSN (rest := st.map (zv ad)) ⟨hB.1, hB.2.1, hB.2.2.1, hB.2.2.2.2.2.1, hts⟩ hcon ⟨hcw, hts _ hM.2, trivial⟩ ⟨zPc_blind, hpre⟩ rfl (by simpa using hna) (zlv_size hl) rfl (lv_room (by rw [zcat_sum]; exact hcs)) h1 ⟨hR.1, hR.2⟩) hS (zA_sub hWd hE hA hS.1) (fun r out ad1 t H1 locs1 hq hag1 hn1 hW1 hz1 hk1 hS1 => ?_)
  have had : ad1 = fun j => ad (zr is j) := by
    unfold zAg at hag1
    simpa using hag1
  subst had
  have e1 : (r.map (zv (fun j => ad (zr is j)))).toList ++ st.map (zv ad) = ((r.map (zv (zr is))).toList ++ st).map (zv ad) := by
    cases r with
    | none => rfl
    | some v => simp [zv_zv]
  rw [e1]
  exact kk r out hq D cI cL ad ad0 n0 A p e s m args below meth c H1 locs1 ls hd hB (zW.back hK hWd hE hn1 hW1 hz1 hk1) hag (by rw [zMg_len]; exact hn) hA hS1 hl
/-- Math's own -/
theorem Z_absI (k : Nat) {idx : Nat} {x : Int} (h : X.I[k]? = some (pc, .invokestatic idx, 3, n)) (hlk : Cond.methodLink X.M.1.cls idx Lib.Math.abs.name ∈ zTB) (hs : Cond.static Lib.Math.abs.name ∈ zTB) (hi : Cond.initialized "java/lang/Math" ∈ zTB) (hcd : Cond.code Lib.Math.abs.name Lib.Math.abs.code 1 (some .int) ∈ zTB) (hx : -2147483648 < x ∧ x ≤ 2147483647) (hcs : (st.map fun v => v.category).sum + 13 ≤ X.R.locals) (hR : 1 ≤ X.R.frames ∧ kc ≤ X.R.cells ∧ ks ≤ X.R.slots) (kk : Z X kc ks mem n lv (.int (iI (if 0 ≤ x then x else -x)) :: st)) : Z X kc ks mem pc lv (.int (iI x) :: st) := by
  intro D cI cL ad ad0 n0 A p e s m args below meth c H locs ls hd hB hWd hag hn hA hS hl
  obtain ⟨h1, rfl⟩ := zI_dec hd h
  have hts := hB.2.2.2.2.2.2.2.1
  refine va_mabs hB.1 hB.2.1 (hB.2.2.1.trans (zlv_size hl).symm) hB.2.2.2.2.2.1 (hts _ hlk) (hts _ hs) (hts _ hi) (hts _ hcd) hR.1 (by rw [zcat_sum]; exact hcs) hR.2.1 hR.2.2 h1 ?_
  have e1 : (if 0 ≤ iI x then iI x else 0 - iI x) = iI (if 0 ≤ x then x else -x) := by
    have h2 : (0 ≤ iI x) ↔ 0 ≤ x := iI_le (a := 0) (by omega) (by omega)
    by_cases h3 : 0 ≤ x
    · rw [if_pos (h2.mpr h3), if_pos h3]
    · rw [if_neg (fun z => h3 (h2.mp z)), if_neg h3, show (0 : Int32) = iI 0 from rfl, iI_sub, Int.zero_sub]
  rw [e1]
  exact kk D cI cL ad ad0 n0 A p e s m args below meth c H locs ls hd hB hWd hag hn hA hS hl
theorem Z_absL (k : Nat) {idx : Nat} {x : Int} (h : X.I[k]? = some (pc, .invokestatic idx, 3, n)) (hlk : Cond.methodLink X.M.1.cls idx Lib.MathLoose.abs_long.x ∈ zTB) (hs : Cond.static Lib.MathLoose.abs_long.x ∈ zTB) (hi : Cond.initialized "java/lang/Math" ∈ zTB) (hcd : Cond.code Lib.MathLoose.abs_long.x Lib.MathLoose.abs_long.code 2 (some .long) ∈ zTB) (hx : -9223372036854775808 < x ∧ x ≤ 9223372036854775807) (hcs : (st.map fun v => v.category).sum + 13 ≤ X.R.locals) (hR : 1 ≤ X.R.frames ∧ kc ≤ X.R.cells ∧ ks ≤ X.R.slots) (kk : Z X kc ks mem n lv (.long (lI (if 0 ≤ x then x else -x)) :: st)) : Z X kc ks mem pc lv (.long (lI x) :: st) := by
  intro D cI cL ad ad0 n0 A p e s m args below meth c H locs ls hd hB hWd hag hn hA hS hl
  obtain ⟨h1, rfl⟩ := zI_dec hd h
  have hts := hB.2.2.2.2.2.2.2.1
  refine va_mabs_long hB.1 hB.2.1 (hB.2.2.1.trans (zlv_size hl).symm) hB.2.2.2.2.2.1 (hts _ hlk) (hts _ hs) (hts _ hi) (hts _ hcd) hR.1 (by rw [zcat_sum]; exact hcs) hR.2.1 hR.2.2 h1 ?_
  have e1 : (if 0 < lI x then lI x else -lI x) = lI (if 0 ≤ x then x else -x) := by
    have h2 : (0 < lI x) ↔ 0 < x := lI_lt (a := 0) (by omega) (by omega)
    by_cases h3 : 0 < x
    · rw [if_pos (h2.mpr h3), if_pos (by omega)]
    · rw [if_neg (fun z => h3 (h2.mp z)), lI_neg]
      split
      · congr 1
        omega
      · rfl
  rw [e1]
  exact kk D cI cL ad ad0 n0 A p e s m args below meth c H locs ls hd hB hWd hag hn hA hS hl
theorem Z_maxI (k : Nat) {idx : Nat} {x y : Int} (h : X.I[k]? = some (pc, .invokestatic idx, 3, n)) (hlk : Cond.methodLink X.M.1.cls idx Lib.Math.max.name ∈ zTB) (hs : Cond.static Lib.Math.max.name ∈ zTB) (hi : Cond.initialized "java/lang/Math" ∈ zTB) (hcd : Cond.code Lib.Math.max.name Lib.Math.max.code 2 (some .int) ∈ zTB) (hx : inI x) (hy : inI y) (hcs : (st.map fun v => v.category).sum + 13 ≤ X.R.locals) (hR : 1 ≤ X.R.frames ∧ kc ≤ X.R.cells ∧ ks ≤ X.R.slots) (kk : Z X kc ks mem n lv (.int (iI (if x < y then y else x)) :: st)) : Z X kc ks mem pc lv (.int (iI y) :: .int (iI x) :: st) := by
  intro D cI cL ad ad0 n0 A p e s m args below meth c H locs ls hd hB hWd hag hn hA hS hl
  obtain ⟨h1, rfl⟩ := zI_dec hd h
  have hts := hB.2.2.2.2.2.2.2.1
  refine va_mmax hB.1 hB.2.1 (hB.2.2.1.trans (zlv_size hl).symm) hB.2.2.2.2.2.1 (hts _ hlk) (hts _ hs) (hts _ hi) (hts _ hcd) hR.1 (by rw [zcat_sum]; exact hcs) hR.2.1 hR.2.2 h1 ?_
  have e1 : (if iI x < iI y then iI y else iI x) = iI (if x < y then y else x) := by
    simp only [iI_lt hx hy]
    split <;> rfl
  rw [e1]
  exact kk D cI cL ad ad0 n0 A p e s m args below meth c H locs ls hd hB hWd hag hn hA hS hl
theorem Z_minI (k : Nat) {idx : Nat} {x y : Int} (h : X.I[k]? = some (pc, .invokestatic idx, 3, n)) (hlk : Cond.methodLink X.M.1.cls idx Lib.Math.min.name ∈ zTB) (hs : Cond.static Lib.Math.min.name ∈ zTB) (hi : Cond.initialized "java/lang/Math" ∈ zTB) (hcd : Cond.code Lib.Math.min.name Lib.Math.min.code 2 (some .int) ∈ zTB) (hx : inI x) (hy : inI y) (hcs : (st.map fun v => v.category).sum + 13 ≤ X.R.locals) (hR : 1 ≤ X.R.frames ∧ kc ≤ X.R.cells ∧ ks ≤ X.R.slots) (kk : Z X kc ks mem n lv (.int (iI (if y < x then y else x)) :: st)) : Z X kc ks mem pc lv (.int (iI y) :: .int (iI x) :: st) := by
  intro D cI cL ad ad0 n0 A p e s m args below meth c H locs ls hd hB hWd hag hn hA hS hl
  obtain ⟨h1, rfl⟩ := zI_dec hd h
  have hts := hB.2.2.2.2.2.2.2.1
  refine va_mmin hB.1 hB.2.1 (hB.2.2.1.trans (zlv_size hl).symm) hB.2.2.2.2.2.1 (hts _ hlk) (hts _ hs) (hts _ hi) (hts _ hcd) hR.1 (by rw [zcat_sum]; exact hcs) hR.2.1 hR.2.2 h1 ?_
  have e1 : (if iI y < iI x then iI y else iI x) = iI (if y < x then y else x) := by
    simp only [iI_lt hy hx]
    split <;> rfl
  rw [e1]
  exact kk D cI cL ad ad0 n0 A p e s m args below meth c H locs ls hd hB hWd hag hn hA hS hl
end ZK
end
section
/-! Math over longs, System.arraycopy, Object's constructor, new cells -/
section ZN
variable {X : zX} {kc ks : Nat} {mem : List zE} {pc n : Nat} {lv : List (Nat × Value)} {st : List Value}
theorem Z_maxL (k : Nat) {idx : Nat} {x y : Int} (h : X.I[k]? = some (pc, .invokestatic idx, 3, n)) (hlk : Cond.methodLink X.M.1.cls idx Lib.MathLoose.max_long.x ∈ zTB) (hs : Cond.static Lib.MathLoose.max_long.x ∈ zTB) (hi : Cond.initialized "java/lang/Math" ∈ zTB) (hcd : Cond.code Lib.MathLoose.max_long.x Lib.MathLoose.max_long.code 4 (some .long) ∈ zTB) (hx : inL x) (hy : inL y) (hcs : (st.map fun v => v.category).sum + 15 ≤ X.R.locals) (hR : 1 ≤ X.R.frames ∧ kc ≤ X.R.cells ∧ ks ≤ X.R.slots) (kk : Z X kc ks mem n lv (.long (lI (if x < y then y else x)) :: st)) : Z X kc ks mem pc lv (.long (lI y) :: .long (lI x) :: st) := by
  intro D cI cL ad ad0 n0 A p e s m args below meth c H locs ls hd hB hWd hag hn hA hS hl
  obtain ⟨h1, rfl⟩ := zI_dec hd h
  have hts := hB.2.2.2.2.2.2.2.1
  refine va_mmax_long hB.1 hB.2.1 (hB.2.2.1.trans (zlv_size hl).symm) hB.2.2.2.2.2.1 (hts _ hlk) (hts _ hs) (hts _ hi) (hts _ hcd) hR.1 (by rw [zcat_sum]; exact hcs) hR.2.1 hR.2.2 h1 ?_
  have e1 : (if lI y < lI x then lI x else lI y) = lI (if x < y then y else x) := by
    simp only [lI_lt hy hx]
    split <;> split <;> first | rfl | (congr 1; omega)
  rw [e1]
  exact kk D cI cL ad ad0 n0 A p e s m args below meth c H locs ls hd hB hWd hag hn hA hS hl
theorem Z_minL (k : Nat) {idx : Nat} {x y : Int} (h : X.I[k]? = some (pc, .invokestatic idx, 3, n)) (hlk : Cond.methodLink X.M.1.cls idx Lib.MathLoose.min_long.x ∈ zTB) (hs : Cond.static Lib.MathLoose.min_long.x ∈ zTB) (hi : Cond.initialized "java/lang/Math" ∈ zTB) (hcd : Cond.code Lib.MathLoose.min_long.x Lib.MathLoose.min_long.code 4 (some .long) ∈ zTB) (hx : inL x) (hy : inL y) (hcs : (st.map fun v => v.category).sum + 15 ≤ X.R.locals) (hR : 1 ≤ X.R.frames ∧ kc ≤ X.R.cells ∧ ks ≤ X.R.slots) (kk : Z X kc ks mem n lv (.long (lI (if y < x then y else x)) :: st)) : Z X kc ks mem pc lv (.long (lI y) :: .long (lI x) :: st) := by
  intro D cI cL ad ad0 n0 A p e s m args below meth c H locs ls hd hB hWd hag hn hA hS hl
  obtain ⟨h1, rfl⟩ := zI_dec hd h
  have hts := hB.2.2.2.2.2.2.2.1
  refine va_mmin_long hB.1 hB.2.1 (hB.2.2.1.trans (zlv_size hl).symm) hB.2.2.2.2.2.1 (hts _ hlk) (hts _ hs) (hts _ hi) (hts _ hcd) hR.1 (by rw [zcat_sum]; exact hcs) hR.2.1 hR.2.2 h1 ?_
  have e1 : (if lI y < lI x then lI y else lI x) = lI (if y < x then y else x) := by
    simp only [lI_lt hy hx]
    split <;> rfl
  rw [e1]
  exact kk D cI cL ad ad0 n0 A p e s m args below meth c H locs ls hd hB hWd hag hn hA hS hl
/-- the first L entries of one row into another -/
def cpI (F G : Int → Int) (L : Int) : Int → Int := fun j => if 0 ≤ j ∧ j < L then F j else G j
theorem Z_copy (k : Nat) {idx q0 q1 N0 N1 : Nat} {F G : Int → Int} {L : Int} {mem' : List zE} (h : X.I[k]? = some (pc, .invokestatic idx, 3, n)) (hlk : Cond.methodLink X.M.1.cls idx arraycopyName ∈ zTB) (hnt : Cond.native arraycopyName ∈ zTB) (hs : Cond.static arraycopyName ∈ zTB) (hi : Cond.initialized "java/lang/System" ∈ zTB) (h0 : mem[q0]? = some (aI N0 F)) (h1 : mem[q1]? = some (aI N1 G)) (hL : 0 ≤ L ∧ L ≤ N0 ∧ L ≤ N1 ∧ L < 2147483648) (hfr : 1 ≤ X.R.frames) (hlo : (st.map fun v => v.category).sum + (nativeFrameWords "java/lang/System" "arraycopy" 5 + 11) ≤ X.R.locals) (hm : mem.set q1 (aI N1 (cpI F G L)) = mem') (kk : Z X kc ks mem' n lv st) : Z X kc ks mem pc lv (.int (iI L) :: .int (iI 0) :: .ref q1 :: .int (iI 0) :: .ref q0 :: st) := by
  intro D cI cL ad ad0 n0 A p e s m args below meth c H locs ls hd hB hWd hag hn hA hS hl
  obtain ⟨hdg, rfl⟩ := zI_dec hd h
  subst hm
  have hts := hB.2.2.2.2.2.2.2.1
  have hK := hB.2.2.2.2.2.2.2.2.2
  intro T hT XX
  obtain ⟨-, hc0⟩ := hWd.1 q0 _ h0
  obtain ⟨hAa, hc1⟩ := hWd.1 q1 _ h1
  have hc0 : H[ad q0]? = some (vp_cell cI (N0, .inl (fun j => iI (F (j : Int))))) := hc0
  have hc1 : H[ad q1]? = some (vp_cell cI (N1, .inl (fun j => iI (G (j : Int))))) := hc1
  obtain ⟨-, k0, hk0, cm0, hkk0⟩ := (hK.2 0 _ rfl).1 N0 (fun j => .int (iI (F (j : Int))))
  obtain ⟨-, k1, hk1, cm1, hkk1⟩ := (hK.2 0 _ rfl).1 N1 (fun j => .int (iI (G (j : Int))))
  have hLn : (iI L).toNatClampNeg = L.toNat := by
    show (iI L).toInt.toNat = _
    rw [iI_t (by omega)]
  have hLt : (iI L).toInt = L := iI_t (by omega)
  have h0n : (iI 0).toNatClampNeg = 0 := rfl
  have h0t : (iI 0).toInt = 0 := rfl
  have hnn : ¬ iI L < 0 := fun z => by have := (iI_lt (b := 0) (by omega) (by omega)).mp z; omega
  have h00 : ¬ iI 0 < 0 := by decide
  obtain ⟨vm', X', step⟩ := XX.arraycopy hB.1 hB.2.2.2.2.2.1 (hts _ hlk) (hts _ hnt) (hts _ hs) (hts _ hi) (src := ad q0) (dst := ad q1) (cs := vp_cell cI (N0, .inl (fun j => iI (F (j : Int))))) (cd := vp_cell cI (N1, .inl (fun j => iI (G (j : Int))))) (srcPos := iI 0) (destPos := iI 0) (n := iI L) (by rw [hT]; exact hc0) (by rw [hT]; exact hc1)
    (fun _ h => by cases h) (fun _ h => by cases h) (fun h => by cases h) (fun h => by cases h) hk0 hk1 hkk0 hkk1 (by simp [refKind]) h00 h00 hnn
    (by rw [hLt, h0t]; show ¬ _ > ((arrV cI N0 (fun j => .int (iI (F (j : Int))))).slots.size : Int); rw [arrV_size]; omega)
    (by rw [hLt, h0t]; show ¬ _ > ((arrV cI N1 (fun j => .int (iI (G (j : Int))))).slots.size : Int); rw [arrV_size]; omega)
    (fun vm₁ _ i hi => by
      have e : (vp_cell cI (N0, .inl (fun j => iI (F (j : Int))))).slots.getD ((iI 0).toNatClampNeg + i) .null = .int (iI (F (i : Int))) := by
        show (arrV cI N0 (fun j => .int (iI (F (j : Int))))).slots.getD _ _ = _
        rw [Array.getD_eq_getD_getElem?, h0n, Nat.zero_add, arrV_read _ _ (by rw [hLn] at hi; omega)]
        rfl
      refine ⟨?_, ?_⟩
      · rw [e]
        rfl
      · rw [e]
        exact trivial)
    (g := F0 m pc ls (.int (iI L) :: .int (iI 0) :: .ref (ad q1) :: .int (iI 0) :: .ref (ad q0) :: st.map (zv ad))) rfl (by rw [hB.2.2.1]; exact zlv_size hl) (rest := st.map (zv ad)) rfl (by rw [hB.2.1]; exact hdg) hfr (by show 2 * 0 + _ + _ ≤ _; rw [zcat_sum]; omega)
  have e1 : copied (vp_cell cI (N0, .inl (fun j => iI (F (j : Int))))) (vp_cell cI (N1, .inl (fun j => iI (G (j : Int))))) (iI 0) (iI 0) (iI L) = vp_cell cI (N1, .inl (fun j => iI (cpI F G L (j : Int)))) := by
    refine (va_copied (fun z => .int z) cI cI (fun j => iI (F (j : Int))) (fun j => iI (G (j : Int))) (n0 := N0) (by rw [h0n, hLn]; omega)).trans ?_
    rw [h0n, hLn, vp_cell_i]
    congr 1
    funext j
    show Value.int (va_cpy _ _ 0 0 L.toNat j) = Value.int (iI (cpI F G L (j : Int)))
    unfold va_cpy cpI
    by_cases hj : j < L.toNat
    · rw [if_pos ⟨Nat.zero_le _, by omega⟩, if_pos ⟨by omega, by omega⟩, Nat.sub_zero, Nat.zero_add]
    · rw [if_neg (fun z => hj (by omega)), if_neg (fun z => hj (by omega))]
  rw [e1] at X' step
  have hlt : ad q1 < H.size := (Array.getElem?_eq_some_iff.mp hc1).1
  have hheap : ((T.setVm vm').setCell (ad q1) (vp_cell cI (N1, .inl (fun j => iI (cpI F G L (j : Int)))))).heap = H.setIfInBounds (ad q1) (vp_cell cI (N1, .inl (fun j => iI (cpI F G L (j : Int))))) := by rw [← hT]; rfl
  have oq : ∀ q : Nat, q ≠ ad q1 → (H.setIfInBounds (ad q1) (vp_cell cI (N1, .inl (fun j => iI (cpI F G L (j : Int))))))[q]? = H[q]? := fun q hq => by simp [Array.getElem?_setIfInBounds, Ne.symm hq]
  obtain ⟨t, a1, b1⟩ := kk D cI cL ad ad0 n0 A p e s m args below meth c _ _ ls hd hB (hWd.set h1 rfl ⟨hAa, (show (H.setIfInBounds (ad q1) _)[ad q1]? = some _ by simp [Array.getElem?_setIfInBounds, hlt])⟩ rfl (by simp) oq) hag (by simpa using hn) hA ⟨by simp; exact hS.1, fun q g1 g2 => by
      rw [oq q (fun e => g2 (by rw [e]; exact hAa))]
      exact hS.2.1 q g1 g2, fun q hq => by
      rcases List.mem_append.mp hq with h | h
      · exact hS.2.2 q h
      · obtain ⟨z, -, hz⟩ := List.mem_map.mp h
        rw [← hz]
        exact hAa⟩ hl _ hheap X'
  exact ⟨t, step t a1, b1⟩
theorem Z_objI (k : Nat) {idx q : Nat} (h : X.I[k]? = some (pc, .invokespecial idx, 3, n)) (hlk : Cond.methodLink X.M.1.cls idx Lib.objectInit ∈ zTB) (hi : Cond.instanceMethod Lib.objectInit ∈ zTB) (hcd : Cond.code Lib.objectInit ⟨#[0xb1]⟩ 1 none ∈ zTB) (hfr : 1 ≤ X.R.frames) (hlo : (st.map fun v => v.category).sum + 12 ≤ X.R.locals) (kk : Z X kc ks mem n lv st) : Z X kc ks mem pc lv (.ref q :: st) := by
  intro D cI cL ad ad0 n0 A p e s m args below meth c H locs ls hd hB hWd hag hn hA hS hl
  obtain ⟨h1, rfl⟩ := zI_dec hd h
  have hts := hB.2.2.2.2.2.2.2.1
  exact W.objInit hB.1 hB.2.1 hB.2.2.2.2.2.1 (hts _ hlk) (hts _ hi) (hts _ hcd) rfl ((zlv_size hl).trans hB.2.2.1.symm) rfl h1 hfr (by show 2 * 0 + _ + 12 ≤ _; rw [zcat_sum]; omega) (kk D cI cL ad ad0 n0 A p e s m args below meth c H locs ls hd hB hWd hag hn hA hS hl)
/-- references that are known -/
def zsv (n : Nat) : Value → Bool
  | .ref i => Nat.blt i n
  | _ => true
def zsE (n : Nat) : zE → Bool
  | .inl o => o.2.all (zsv n)
  | .inr (.inl _) => true
  | .inr (.inr (.inl _)) => true
  | .inr (.inr (.inr (.inl _))) => true
  | .inr (.inr (.inr (.inr (.inl _)))) => true
  | .inr (.inr (.inr (.inr (.inr (.inl x))))) => Nat.blt x.2 n
  | .inr (.inr (.inr (.inr (.inr (.inr (.inl l)))))) => l.all (fun q => zsv n q.2.2.2)
  | .inr (.inr (.inr (.inr (.inr (.inr (.inr _)))))) => true
theorem zv_agree {f g : Nat → Nat} {n : Nat} (hfg : ∀ i, i < n → f i = g i) {v : Value} (h : zsv n v = true) : zv f v = zv g v := by
  cases v with
  | ref i => exact congrArg Value.ref (hfg i (Nat.blt_eq.mp h))
  | _ => rfl
theorem zmap_agree {f g : Nat → Nat} {n : Nat} (hfg : ∀ i, i < n → f i = g i) {l : List Value} (h : l.all (zsv n) = true) : l.map (zv f) = l.map (zv g) :=
  List.map_congr_left (fun v hv => zv_agree hfg (List.all_eq_true.mp h v hv))
theorem zat_agree {D : va_G} {cI cL : ClassId} {f g : Nat → Nat} {n : Nat} (hfg : ∀ i, i < n → f i = g i) {A : Nat → Prop} {U : State} {H : Heap} {a : Nat} {e : zE} (h : zsE n e = true) (hz : zat D cI cL f A U H a e) : zat D cI cL g A U H a e := by
  rcases e with o | x | x | x | x | x | x | x
  · obtain ⟨h0, r, h1, h2⟩ := hz
    exact ⟨h0, r, h1, by rw [← zmap_agree hfg h]; exact h2⟩
  · exact hz
  · exact hz
  · exact hz
  · exact hz
  · exact ⟨hz.1, hz.2.1, hz.2.2.1, by have := hfg x.2 (Nat.blt_eq.mp h); rw [← this]; exact hz.2.2.2⟩
  · exact ⟨fun q hq => by rw [← zv_agree hfg (List.all_eq_true.mp h q hq)]; exact hz.1 q hq, hz.2⟩
  · exact hz
/-- a cell more -/
theorem zW.push {D : va_G} {cI cL : ClassId} {ad : Nat → Nat} {A : Nat → Prop} {U : State} {H H1 : Heap} {mem : List zE} {e1 : zE} (h : zW D cI cL ad A U H mem) (hsc : mem.all (zsE mem.length) = true) (hz : H.size ≤ H1.size) (oq : ∀ q : Nat, q < H.size → H1[q]? = H[q]?) {a : Nat} (ha : a = H.size) (he : zat D cI cL (fun i => if i = mem.length then a else ad i) A U H1 a e1) : zW D cI cL (fun i => if i = mem.length then a else ad i) A U H1 (mem ++ [e1]) := by
  have key : ∀ (k : Nat) (x : zE), (mem ++ [e1])[k]? = some x → (k < mem.length ∧ mem[k]? = some x) ∨ (k = mem.length ∧ x = e1) := by
    intro k x hk
    by_cases hl : k < mem.length
    · rw [List.getElem?_append_left hl] at hk
      exact Or.inl ⟨hl, hk⟩
    · rw [List.getElem?_append_right (by omega)] at hk
      have hz : k - mem.length < 1 := (List.getElem?_eq_some_iff.mp hk).1
      have hk0 : k = mem.length := by omega
      subst hk0
      rw [Nat.sub_self] at hk
      cases hk
      exact Or.inr ⟨rfl, rfl⟩
  have hag : ∀ i, i < mem.length → ad i = (fun i => if i = mem.length then a else ad i) i := fun i hi => by
    show ad i = if i = mem.length then a else ad i
    rw [if_neg (by omega)]
  refine ⟨fun k x hx => ?_, fun i j x y hi hj hxr hyr hxy => ?_⟩
  · rcases key k x hx with ⟨hl, hx0⟩ | ⟨rfl, rfl⟩
    · have h0 := h.1 k x hx0
      rw [← hag k hl]
      exact zat_agree hag (List.all_eq_true.mp hsc x (List.mem_of_getElem? hx0)) (zat_kept h0 hz (fun q hq _ => oq q hq) (fun _ => oq _ (zat_lt h0)))
    · show zat _ _ _ _ _ _ _ (if mem.length = mem.length then a else _) _
      rw [if_pos rfl]
      exact he
  · rcases key i x hi with ⟨hl, hx0⟩ | ⟨rfl, rfl⟩ <;> rcases key j y hj with ⟨hl2, hy0⟩ | ⟨rfl, rfl⟩
    · rw [← hag i hl, ← hag j hl2] at hxy
      exact h.2 i j x y hx0 hy0 hxr hyr hxy
    · exfalso
      rw [← hag i hl] at hxy
      have hxy : ad i = if mem.length = mem.length then a else ad mem.length := hxy
      rw [if_pos rfl, ha] at hxy
      have := zat_lt (h.1 i x hx0)
      omega
    · exfalso
      rw [← hag j hl2] at hxy
      have hxy : (if mem.length = mem.length then a else ad mem.length) = ad j := hxy
      rw [if_pos rfl, ha] at hxy
      have := zat_lt (h.1 j y hy0)
      omega
    · rfl
theorem zAg.push {n0 : Nat} {ad ad0 : Nat → Nat} {L a : Nat} (h : zAg true n0 ad ad0) (hn : n0 ≤ L) : zAg true n0 (fun i => if i = L then a else ad i) ad0 := by
  show ∀ i, i < n0 → (if i = L then a else ad i) = ad0 i
  intro i hi
  rw [if_neg (by omega)]
  exact h.at i hi
/-- a new object -/
theorem Z_new (k : Nat) {idx ci : Nat} {C : String} {T : u_T} {N : Nat} {ty : Nat → FieldType} {fs : List Value} (h : X.I[k]? = some (pc, .new idx, 3, n)) (hal : X.al = true) (hck : zCK ci C T N ty) (hcl : Cond.classLink X.M.1.cls idx C ∈ zTB) (hin : Cond.instantiable C N ∈ zTB) (hii : Cond.initialized C ∈ zTB) (hfs : ∀ j, j < N → defaultValue (ty j) = vp_V fs j) (hfs2 : ∀ ad, fs.map (zv ad) = fs) (hsm : mem.all (zsE mem.length) = true) (hsl : lv.all (fun q => zsv mem.length q.2) = true) (hss : st.all (zsv mem.length) = true) (hR : kc + 1 ≤ X.R.cells ∧ ks + N ≤ X.R.slots) (kk : Z X (kc + 1) (ks + N) (mem ++ [zO ci fs]) n lv (.ref mem.length :: st)) : Z X kc ks mem pc lv st := by
  intro D cI cL ad ad0 n0 A p e s m args below meth c H locs ls hd hB hWd hag hn hA hS hl
  obtain ⟨h1, rfl⟩ := zI_dec hd h
  have hts := hB.2.2.2.2.2.2.2.1
  have hK := hB.2.2.2.2.2.2.2.2.2
  obtain ⟨c1, c2, c3, c4⟩ := hck
  have hKn := hK.1 ci _ c1
  refine W.newcK hB.1 hB.2.1 hB.2.2.2.2.2.1 (hts _ hcl) (hts _ hin) (hts _ hii) rfl h1 hR.1 hR.2 hKn.2.1 rfl fun H1 kC hkC e1 z1 o1 => ?_
  have hgo : ∀ i, i < mem.length → ad i = (fun i => if i = mem.length then H.size else ad i) i := fun i hi => by
    show ad i = if i = mem.length then H.size else ad i
    rw [if_neg (by omega)]
  have hl2 : lv.map (zq ad) = lv.map (zq (fun i => if i = mem.length then H.size else ad i)) := List.map_congr_left (fun q hq => by
    show (q.1, _) = (q.1, _)
    rw [zv_agree hgo (List.all_eq_true.mp hsl q hq)])
  have hag2 : zAg X.al n0 (fun i => if i = mem.length then H.size else ad i) ad0 := by rw [hal] at hag ⊢; exact zAg.push hag hn
  have hgoal := kk D cI cL (fun i => if i = mem.length then H.size else ad i) ad0 n0 A p e s m args below meth c H1 locs ls hd hB (zW.push hWd hsm (by omega) o1 rfl ⟨hA _ hS.1, _, c1, by rw [hfs2]; exact (u_born ty hts c2 hKn hkC e1 c3).to hfs⟩) hag2 (by simp; omega) hA ⟨Nat.le_trans hS.1 (by omega), fun x g1 g2 => (o1 x (Nat.lt_of_lt_of_le g1 hS.1)).trans (hS.2.1 x g1 g2), hS.2.2⟩ (by rw [← hl2]; exact hl)
  rw [List.map_cons, ← zmap_agree hgo hss] at hgoal
  have e9 : zv (fun i => if i = mem.length then H.size else ad i) (.ref mem.length) = .ref H.size := congrArg Value.ref (if_pos rfl)
  rw [e9] at hgoal
  exact hgoal
/-- a new row of ints, of longs -/
theorem Z_newI (k : Nat) {N : Nat} (h : X.I[k]? = some (pc, .newarray .int, 2, n)) (hal : X.al = true) (hcl : Cond.arrayClass .int ∈ zTB) (hN : N ≤ 1000) (hsm : mem.all (zsE mem.length) = true) (hsl : lv.all (fun q => zsv mem.length q.2) = true) (hss : st.all (zsv mem.length) = true) (hR : kc + 1 ≤ X.R.cells ∧ ks + N ≤ X.R.slots) (kk : Z X (kc + 1) (ks + N) (mem ++ [aI N (fun _ => 0)]) n lv (.ref mem.length :: st)) : Z X kc ks mem pc lv (.int (iI (N : Int)) :: st) := by
  intro D cI cL ad ad0 n0 A p e s m args below meth c H locs ls hd hB hWd hag hn hA hS hl
  obtain ⟨h1, rfl⟩ := zI_dec hd h
  have hts := hB.2.2.2.2.2.2.2.1
  have hK := hB.2.2.2.2.2.2.2.2.2
  refine va_newaK (atype := .int) hB.1 hB.2.1 (hts _ hcl) rfl h1 rfl (N := N) (fun z => by have := (iI_lt (a := (N : Int)) (b := 0) (by omega) (by omega)).mp z; omega) (by show (iI (N : Int)).toInt.toNat = N; rw [iI_t (by omega)]; omega) (by show N * 4 ≤ _; omega) hR.1 hR.2 rfl fun H1 cA e1 z1 o1 hAr hNm => ?_
  have hcA : cA = cI := Option.some.inj (hNm.symm.trans (hK.2 0 _ rfl).2)
  subst hcA
  have hgo : ∀ i, i < mem.length → ad i = (fun i => if i = mem.length then H.size else ad i) i := fun i hi => by
    show ad i = if i = mem.length then H.size else ad i
    rw [if_neg (by omega)]
  have hl2 : lv.map (zq ad) = lv.map (zq (fun i => if i = mem.length then H.size else ad i)) := List.map_congr_left (fun q hq => by
    show (q.1, _) = (q.1, _)
    rw [zv_agree hgo (List.all_eq_true.mp hsl q hq)])
  have hag2 : zAg X.al n0 (fun i => if i = mem.length then H.size else ad i) ad0 := by rw [hal] at hag ⊢; exact zAg.push hag hn
  have hgoal := kk D cA cL (fun i => if i = mem.length then H.size else ad i) ad0 n0 A p e s m args below meth c H1 locs ls hd hB (zW.push hWd hsm (by omega) o1 rfl ⟨hA _ hS.1, e1⟩) hag2 (by simp; omega) hA ⟨Nat.le_trans hS.1 (by omega), fun x g1 g2 => (o1 x (Nat.lt_of_lt_of_le g1 hS.1)).trans (hS.2.1 x g1 g2), hS.2.2⟩ (by rw [← hl2]; exact hl)
  rw [List.map_cons, ← zmap_agree hgo hss] at hgoal
  have e9 : zv (fun i => if i = mem.length then H.size else ad i) (.ref mem.length) = .ref H.size := congrArg Value.ref (if_pos rfl)
  rw [e9] at hgoal
  exact hgoal
theorem Z_newL (k : Nat) {N : Nat} (h : X.I[k]? = some (pc, .newarray .long, 2, n)) (hal : X.al = true) (hcl : Cond.arrayClass .long ∈ zTB) (hN : N ≤ 1000) (hsm : mem.all (zsE mem.length) = true) (hsl : lv.all (fun q => zsv mem.length q.2) = true) (hss : st.all (zsv mem.length) = true) (hR : kc + 1 ≤ X.R.cells ∧ ks + N ≤ X.R.slots) (kk : Z X (kc + 1) (ks + N) (mem ++ [aL N (fun _ => 0)]) n lv (.ref mem.length :: st)) : Z X kc ks mem pc lv (.int (iI (N : Int)) :: st) := by
  intro D cI cL ad ad0 n0 A p e s m args below meth c H locs ls hd hB hWd hag hn hA hS hl
  obtain ⟨h1, rfl⟩ := zI_dec hd h
  have hts := hB.2.2.2.2.2.2.2.1
  have hK := hB.2.2.2.2.2.2.2.2.2
  refine va_newaK (atype := .long) hB.1 hB.2.1 (hts _ hcl) rfl h1 rfl (N := N) (fun z => by have := (iI_lt (a := (N : Int)) (b := 0) (by omega) (by omega)).mp z; omega) (by show (iI (N : Int)).toInt.toNat = N; rw [iI_t (by omega)]; omega) (by show N * 8 ≤ _; omega) hR.1 hR.2 rfl fun H1 cA e1 z1 o1 hAr hNm => ?_
  have hcA : cA = cL := Option.some.inj (hNm.symm.trans (hK.2 1 _ rfl).2)
  subst hcA
  have hgo : ∀ i, i < mem.length → ad i = (fun i => if i = mem.length then H.size else ad i) i := fun i hi => by
    show ad i = if i = mem.length then H.size else ad i
    rw [if_neg (by omega)]
  have hl2 : lv.map (zq ad) = lv.map (zq (fun i => if i = mem.length then H.size else ad i)) := List.map_congr_left (fun q hq => by
    show (q.1, _) = (q.1, _)
    rw [zv_agree hgo (List.all_eq_true.mp hsl q hq)])
  have hag2 : zAg X.al n0 (fun i => if i = mem.length then H.size else ad i) ad0 := by rw [hal] at hag ⊢; exact zAg.push hag hn
  have hgoal := kk D cI cA (fun i => if i = mem.length then H.size else ad i) ad0 n0 A p e s m args below meth c H1 locs ls hd hB (zW.push hWd hsm (by omega) o1 rfl ⟨hA _ hS.1, e1⟩) hag2 (by simp; omega) hA ⟨Nat.le_trans hS.1 (by omega), fun x g1 g2 => (o1 x (Nat.lt_of_lt_of_le g1 hS.1)).trans (hS.2.1 x g1 g2), hS.2.2⟩ (by rw [← hl2]; exact hl)
  rw [List.map_cons, ← zmap_agree hgo hss] at hgoal
  have e9 : zv (fun i => if i = mem.length then H.size else ad i) (.ref mem.length) = .ref H.size := congrArg Value.ref (if_pos rfl)
  rw [e9] at hgoal
  exact hgoal
end ZN
end
section
/-! calls of constructors: the callee makes cells, they come behind the caller's -/
def zfr (is : List Nat) (n L : Nat) : Nat → Nat := fun j => if j < n then zr is j else L + (j - n)
theorem zW.backA {D : va_G} {cI cL : ClassId} {ad ad1 : Nat → Nat} {A : Nat → Prop} {s t : State} {H H1 : Heap} {mem sub out : List zE} {is : List Nat} (hK : va_K D zCls [(cI, .int), (cL, .long)] s) (hWd : zW D cI cL ad A s H mem) (hE : zEmb is mem sub) (hlen : sub.length ≤ out.length) (hag : ∀ j, j < sub.length → ad1 j = ad (zr is j)) (hsc : mem.all (zsE mem.length) = true) (hrw : (out.drop sub.length).all zrw = true) (hBA : ∀ q, zA sub (fun j => ad (zr is j)) H.size q → A q)
    (h1 : zW D cI cL ad1 (zA sub (fun j => ad (zr is j)) H.size) t H1 out) (hz : H.size ≤ H1.size) (hk : ∀ q : Nat, q < H.size → ¬ zA sub (fun j => ad (zr is j)) H.size q → H1[q]? = H[q]?) :
    zW D cI cL (fun k => if k < mem.length then ad k else ad1 (sub.length + (k - mem.length))) A s H1 (zMg (zfr is sub.length mem.length) is out mem ++ (out.drop sub.length).map (renE (zfr is sub.length mem.length))) := by
  have hsub := zW.sub hK hWd hE
  obtain ⟨hnd, hel⟩ := hE
  obtain ⟨hlen0, hat⟩ := zEL_at hel
  have hkind : ∀ (j : Nat) (x y : zE), sub[j]? = some x → out[j]? = some y → zrw x = zrw y := by
    intro j x y hx hy
    have a1 := hsub.1 j x hx
    have a2 := h1.1 j y hy
    rw [hag j (List.getElem?_eq_some_iff.mp hx).1] at a2
    cases hx1 : zrw x <;> cases hy1 : zrw y
    · rfl
    · exact absurd (zat_in a2 hy1) (zat_out a1 hx1)
    · exact absurd (zat_in a1 hx1) (zat_out a2 hy1)
    · rfl
  have hmem : ∀ (j k : Nat) (x : zE), is[j]? = some k → sub[j]? = some x → zrw x = true → mem[k]? = some (renE (zr is) x) ∧ A (ad k) := by
    intro j k x hj hx hrw
    obtain ⟨i, g1, g2⟩ := hat j x hx
    rw [hj] at g1
    cases g1
    rcases g2 with g2 | ⟨N, F, g2, -⟩
    · exact ⟨g2, zat_in (hWd.1 k _ g2) (by rw [renE_rw]; exact hrw)⟩
    · rw [aR_of_ren g2] at hrw
      cases hrw
  have hisl : ∀ (j k : Nat), is[j]? = some k → k < mem.length := by
    intro j k hj
    have hj1 := (List.getElem?_eq_some_iff.mp hj).1
    obtain ⟨i, g1, g2⟩ := hat j _ (List.getElem?_eq_getElem (by omega))
    rw [hj] at g1
    cases g1
    rcases g2 with g2 | ⟨N, F, -, g2, -⟩
    · exact (List.getElem?_eq_some_iff.mp g2).1
    · exact (List.getElem?_eq_some_iff.mp g2).1
  have hsubat : ∀ (j k : Nat), is[j]? = some k → ∃ x, sub[j]? = some x := by
    intro j k hj
    have := (List.getElem?_eq_some_iff.mp hj).1
    exact ⟨_, List.getElem?_eq_getElem (by omega)⟩
  generalize hf : zfr is sub.length mem.length = f
  generalize had : (fun k => if k < mem.length then ad k else ad1 (sub.length + (k - mem.length))) = ad2
  have had_lo : ∀ k, k < mem.length → ad k = ad2 k := fun k hk => by
    rw [← had]
    show ad k = if k < mem.length then ad k else _
    rw [if_pos hk]
  have had_hi : ∀ k, ¬ k < mem.length → ad2 k = ad1 (sub.length + (k - mem.length)) := fun k hk => by
    rw [← had]
    show (if k < mem.length then ad k else _) = _
    rw [if_neg hk]
  have hcomp : (fun j => ad2 (f j)) = ad1 := by
    funext j
    rw [← hf]
    show ad2 (if j < sub.length then zr is j else mem.length + (j - sub.length)) = ad1 j
    by_cases hj : j < sub.length
    · rw [if_pos hj, hag j hj]
      obtain ⟨i, g1⟩ : ∃ i, is[j]? = some i := ⟨_, List.getElem?_eq_getElem (by omega)⟩
      rw [zr_at g1]
      exact (had_lo i (hisl j i g1)).symm
    · rw [if_neg hj, had_hi _ (by omega)]
      congr 1
      omega
  have hnew : ∀ (j : Nat) (y : zE), sub.length ≤ j → out[j]? = some y → zrw y = true → H.size ≤ ad1 j := by
    intro j y hj hy hr
    rcases zat_in (h1.1 j y hy) hr with ⟨i0, e0, k1, k2, k3⟩ | hB
    · exfalso
      have hi0 := (List.getElem?_eq_some_iff.mp k1).1
      obtain ⟨y0, hy0⟩ : ∃ y0, out[i0]? = some y0 := ⟨_, List.getElem?_eq_getElem (by omega)⟩
      have := h1.2 i0 j y0 y hy0 hy (by rw [← hkind i0 e0 y0 k1 hy0]; exact k2) hr ((hag i0 hi0).trans k3)
      omega
    · exact hB
  have hlm : (zMg f is out mem).length = mem.length := zMg_len f is out mem
  have hcell : ∀ (k : Nat) (x : zE), (zMg f is out mem ++ (out.drop sub.length).map (renE f))[k]? = some x → (k < mem.length ∧ (zMg f is out mem)[k]? = some x) ∨ (mem.length ≤ k ∧ ∃ y, out[sub.length + (k - mem.length)]? = some y ∧ x = renE f y ∧ zrw y = true) := by
    intro k x hx
    by_cases hkl : k < mem.length
    · rw [List.getElem?_append_left (by omega)] at hx
      exact Or.inl ⟨hkl, hx⟩
    · rw [List.getElem?_append_right (by omega), hlm, List.getElem?_map] at hx
      cases hy : (out.drop sub.length)[k - mem.length]? with
      | none => rw [hy] at hx; cases hx
      | some y =>
        rw [hy] at hx
        refine Or.inr ⟨by omega, y, ?_, (Option.some.inj hx).symm, List.all_eq_true.mp hrw y (List.mem_of_getElem? hy)⟩
        rw [List.getElem?_drop] at hy
        exact hy
  refine ⟨fun k x hx => ?_, fun i j x y hi hj hxr hyr hxy => ?_⟩
  · rcases hcell k x hx with ⟨hkl, hx1⟩ | ⟨hkl, y, hy, rfl, hr⟩
    · rcases zMg_at hnd hx1 with ⟨j, e, g1, g2, g3, rfl⟩ | ⟨g1, g2⟩
      · obtain ⟨x0, hx0⟩ := hsubat j k g1
        have hjl := (List.getElem?_eq_some_iff.mp hx0).1
        obtain ⟨m1, m2⟩ := hmem j k x0 g1 hx0 (by rw [hkind j x0 e hx0 g2]; exact g3)
        have := h1.1 j e g2
        rw [hag j hjl, zr_at g1, ← hcomp] at this
        rw [← had_lo k hkl]
        exact zat_rwU (by rw [renE_rw]; exact g3) m2 (zat_ren.mpr this)
      · have hx0 := hWd.1 k x g1
        rw [← had_lo k hkl]
        refine zat_agree had_lo (List.all_eq_true.mp hsc x (List.mem_of_getElem? g1)) ?_
        refine zat_kept hx0 hz (fun q hq hA => hk q hq (fun z => hA (hBA q z))) (fun hrw => hk _ (zat_lt hx0) ?_)
        rintro (⟨j, e, k1, k2, k3⟩ | hB)
        · obtain ⟨i, l1⟩ : ∃ i, is[j]? = some i := ⟨_, List.getElem?_eq_getElem (by have := (List.getElem?_eq_some_iff.mp k1).1; omega)⟩
          dsimp only at k3
          rw [zr_at l1] at k3
          obtain ⟨m1, m2⟩ := hmem j i e l1 k1 k2
          have := hWd.2 i k _ _ m1 g1 (by rw [renE_rw]; exact k2) hrw k3
          subst this
          obtain ⟨y, hy⟩ : ∃ y, out[j]? = some y := ⟨_, List.getElem?_eq_getElem (by have := (List.getElem?_eq_some_iff.mp k1).1; omega)⟩
          have := g2 j y l1 hy
          rw [← hkind j e y k1 hy, k2] at this
          cases this
        · have := zat_lt hx0
          omega
    · have := h1.1 _ y hy
      rw [had_hi k (by omega)]
      rw [← hcomp] at this
      rw [← hcomp]
      exact zat_rwU (by rw [renE_rw]; exact hr) (hBA _ (zat_in this hr)) (zat_ren.mpr this)
  · have key : ∀ (k : Nat) (x : zE), k < mem.length → (zMg f is out mem)[k]? = some x → zrw x = true → ∃ x0, mem[k]? = some x0 ∧ zrw x0 = true := by
      intro k x _ hx hr
      rcases zMg_at hnd hx with ⟨j, e, g1, g2, g3, rfl⟩ | ⟨g1, g2⟩
      · obtain ⟨x0, hx0⟩ := hsubat j k g1
        have hr0 : zrw x0 = true := by rw [hkind j x0 e hx0 g2]; exact g3
        exact ⟨_, (hmem j k x0 g1 hx0 hr0).1, by rw [renE_rw]; exact hr0⟩
      · exact ⟨x, g1, hr⟩
    rcases hcell i x hi with ⟨hil, hx1⟩ | ⟨hil, x', hx', rfl, hrx⟩ <;> rcases hcell j y hj with ⟨hjl, hy1⟩ | ⟨hjl, y', hy', rfl, hry⟩
    · obtain ⟨x0, a1, a2⟩ := key i x hil hx1 hxr
      obtain ⟨y0, b1, b2⟩ := key j y hjl hy1 hyr
      rw [← had_lo i hil, ← had_lo j hjl] at hxy
      exact hWd.2 i j x0 y0 a1 b1 a2 b2 hxy
    · exfalso
      obtain ⟨x0, a1, a2⟩ := key i x hil hx1 hxr
      have h5 := zat_lt (hWd.1 i x0 a1)
      have h6 := hnew _ y' (by omega) hy' hry
      rw [← had_lo i hil, had_hi j (by omega)] at hxy
      omega
    · exfalso
      obtain ⟨y0, b1, b2⟩ := key j y hjl hy1 hyr
      have h5 := zat_lt (hWd.1 j y0 b1)
      have h6 := hnew _ x' (by omega) hx' hrx
      rw [← had_lo j hjl, had_hi i (by omega)] at hxy
      omega
    · rw [had_hi i (by omega), had_hi j (by omega)] at hxy
      have := h1.2 _ _ x' y' hx' hy' hrx hry hxy
      omega
section ZNI
variable {X : zX} {kc ks : Nat} {mem : List zE} {pc n : Nat} {lv : List (Nat × Value)} {st : List Value}
abbrev zRmA (rm R : Room) (M : zM) (mc ms : Nat) : Prop := rm.cells = mc ∧ rm.slots = ms ∧ rm.frames + 1 ≤ R.frames ∧ 8 + (M.2.2.1 + 11) + rm.locals ≤ R.locals
/-- a constructor: by the link (normal or a nest mate's), of no arguments -/
theorem Z_callI (k : Nat) {idx b mc ms : Nat} {M' : zM} {rm : Room} {sub : List zE} {Q' : Option Value → List zE → Prop} (is : List Nat) (h : X.I[k]? = some (pc, .invokespecial idx, 3, n)) (hal : X.al = true) (hlk : Cond.methodLink X.M.1.cls idx M'.1 ∈ zTB ∨ ∃ host, Cond.methodLinkNest X.M.1.cls idx M'.1 host ∈ zNW) (hM : zCi M' 0) (hc : Con X.1 M' rm mc ms true [.ref 0] sub Q') (hE : zEmb is mem sub) (hb : zr is 0 = b) (hcs : (st.map fun v => v.category).sum ≤ 8) (hrm : zRmA rm X.R M' mc ms) (hR : kc + mc ≤ X.R.cells ∧ ks + ms ≤ X.R.slots)
    (hsm : mem.all (zsE mem.length) = true) (hsl : lv.all (fun q => zsv mem.length q.2) = true) (hss : st.all (zsv mem.length) = true)
    (kk : ∀ (r : Option Value) (out : List zE), Q' r out → r = none ∧ (out.drop sub.length).all zrw = true ∧ Z X (kc + mc) (ks + ms) (zMg (zfr is sub.length mem.length) is out mem ++ (out.drop sub.length).map (renE (zfr is sub.length mem.length))) n lv st) : Z X kc ks mem pc lv (.ref b :: st) := by
  intro D cI cL ad ad0 n0 A p e s m args below meth c H locs ls hd hB hWd hag hn hA hS hl
  obtain ⟨h1, rfl⟩ := zI_dec hd h
  have hts := hB.2.2.2.2.2.2.2.1
  have hNW := hB.2.2.2.2.2.2.2.2.1
  have hK := hB.2.2.2.2.2.2.2.2.2
  have hcon := hc D cI cL (fun j => ad (zr is j)) H.size
  have hpre := zPc_of (l := X.1) (av := [.ref 0]) hK hNW hWd hE
  have e3 : ([Value.ref 0].map (zv (fun j => ad (zr is j)))) = [Value.ref (ad b)] := by
    show [Value.ref (ad (zr is 0))] = _
    rw [hb]
  rw [e3] at hcon hpre
  have hrun : va_Run p X.1 e X.R s m args below meth c H locs kc ks mc ms (F0 m pc ls (.ref (ad b) :: st.map (zv ad))) (st.map (zv ad)) (zQ true Q' D cI cL (zA sub (fun j => ad (zr is j)) H.size) (fun j => ad (zr is j)) sub.length #[.ref (ad b)]) (zA sub (fun j => ad (zr is j)) H.size) := by
    have hret := hM.2.2.2
    rcases hlk with hlk | ⟨host, hlk⟩
    · have hcw := callB_of (R := X.R) (own := X.M.1.cls) (index := idx) (y := M'.1) (bytes := M'.2.1) (maxL := M'.2.2.1) (ret := M'.2.2.2.1) (ws := zws M') (ws' := zTB) (rm := rm) (mc := mc) (ms := ms) 0 hts (zGood (zws_in hM.1)) rfl hrm.1 hrm.2.1 (hts _ hM.1.1) (hts _ hlk) hM.1.2.2 hrm.2.2
      rw [hret] at hcw
      exact va_runI (As := []) (b := ad b) (rest := st.map (zv ad)) ⟨hB.1, hB.2.1, hB.2.2.1, hB.2.2.2.2.2.1, hts⟩ hcon ⟨hcw, hM.2.2.1, hts _ hM.2.1⟩ ⟨zPc_blind, hpre⟩ rfl rfl (zlv_size hl) rfl (lv_room (by rw [zcat_sum]; exact hcs)) h1 ⟨hR.1, hR.2⟩
    · have hcw := va_cnB (R := X.R) (ret := M'.2.2.2.1) (mc := mc) (ms := ms) (rm := rm) (ws' := zTB) (ws := zws M') 0 hts (zGood (zws_in hM.1)) rfl hrm.1 hrm.2.1 (hNW _ hlk) (hts _ hM.1.1) hM.1.2.2 hrm.2.2
      rw [hret] at hcw
      exact va_runIN (As := []) (b := ad b) (rest := st.map (zv ad)) ⟨hB.1, hB.2.1, hB.2.2.1, hB.2.2.2.2.2.1, hts⟩ hcon ⟨hcw, hM.2.2.1, hts _ hM.2.1⟩ ⟨zPc_blind, hpre⟩ rfl rfl (zlv_size hl) rfl (lv_room (by rw [zcat_sum]; exact hcs)) h1 ⟨hR.1, hR.2⟩
  refine zcallW hrun hS (zA_sub hWd hE hA hS.1) (fun r out ad1 t H1 locs1 hq hag1 hn1 hW1 hz1 hk1 hS1 => ?_)
  obtain ⟨rfl, hrw, hZ⟩ := kk r out hq
  have hgo : ∀ i, i < mem.length → ad i = (fun k => if k < mem.length then ad k else ad1 (sub.length + (k - mem.length))) i := fun i hi => by
    show ad i = if i < mem.length then ad i else _
    rw [if_pos hi]
  have hl2 : lv.map (zq ad) = lv.map (zq (fun k => if k < mem.length then ad k else ad1 (sub.length + (k - mem.length)))) := List.map_congr_left (fun q hq => by
    show (q.1, _) = (q.1, _)
    rw [zv_agree hgo (List.all_eq_true.mp hsl q hq)])
  have hag2 : zAg X.al n0 (fun k => if k < mem.length then ad k else ad1 (sub.length + (k - mem.length))) ad0 := by
    rw [hal] at hag ⊢
    show ∀ i, i < n0 → (if i < mem.length then ad i else _) = ad0 i
    intro i hi
    rw [if_pos (by omega)]
    exact hag.at i hi
  have := hZ D cI cL _ ad0 n0 A p e s m args below meth c H1 locs1 ls hd hB (zW.backA hK hWd hE hn1 (fun j hj => hag1.at j hj) hsm hrw (zA_sub hWd hE hA hS.1) hW1 hz1 hk1) hag2 (by rw [List.length_append, zMg_len]; omega) hA hS1 (by rw [← hl2]; exact hl)
  rw [← zmap_agree hgo hss] at this
  exact this
end ZNI
end
